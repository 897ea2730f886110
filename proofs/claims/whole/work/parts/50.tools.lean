/-! ===== the pure side: tools ===== -/
theorem lit (n : Nat) : (OfNat.ofNat n : Int32) = nI (OfNat.ofNat n) := rfl
theorem bd_some {β : Type} (a : Int32) (σ : St) (k : Int32 → St → Option β) : bd (some (a, σ)) k = k a σ := Eq.trans (Eq.refl _) (Eq.refl _)
theorem nm_def {α β : Type} (e : α) (k : α → Option β) : nm e k = k e := Eq.trans (Eq.refl _) (Eq.refl _)
theorem ltT {a b : Nat} (h : a < b) (hb : b < 2147483648) : (nI a < nI b) = True := eq_true (nI_lt h hb)
theorem ltF {a b : Nat} (h : b ≤ a) (ha : a < 2147483648) : (nI a < nI b) = False := eq_false (nI_nlt h ha)
theorem leT {a b : Nat} (h : a ≤ b) (hb : b < 2147483648) : (nI a ≤ nI b) = True := eq_true (nI_le h hb)
theorem leF {a b : Nat} (h : b < a) (ha : a < 2147483648) : (nI a ≤ nI b) = False := eq_false (nI_ge h ha)
theorem eqT {a b : Nat} (h : a = b) : (nI a = nI b) = True := eq_true (by rw [h])
theorem eqF {a b : Nat} (h : a ≠ b) (ha : a < 2147483648) (hb : b < 2147483648) : (nI a = nI b) = False := eq_false (fun e => h ((nI_eq ha hb).mp e))
theorem m1lt (a : Nat) (ha : a < 2147483648) : (nI a < -nI 1) = False := eq_false (fun h => by
  have h1 := Int32.lt_iff_toInt_lt.mp h
  rw [nI_toInt ha] at h1
  have h2 : (-nI 1 : Int32).toInt = -1 := by decide
  omega)
theorem m1eq (a : Nat) (ha : a < 2147483648) : (nI a = -nI 1) = False := eq_false (fun h => by
  have h1 := congrArg Int32.toInt h
  rw [nI_toInt ha] at h1
  have h2 : (-nI 1 : Int32).toInt = -1 := by decide
  omega)
theorem cl (a : Nat) (ha : a < 2147483648) : (nI a).toNatClampNeg = a := nI_clamp ha
theorem addN (a b : Nat) : nI a + nI b = nI (a + b) := nI_add a b
theorem mulN (a b : Nat) : nI a * nI b = nI (a * b) := pk_mul a b
theorem subN {a b : Nat} (h : b ≤ a) : nI a - nI b = nI (a - b) := pk_sub h
theorem divN {a d : Nat} (h0 : 0 < d) (ha : a < 2147483648) (hd : d < 2147483648) : nI a / nI d = nI (a / d) := pk_div ha h0 hd
theorem ld_in {β : Type} {f : Nat → Int32} {n i : Nat} {k : Int32 → Option β} (h : i < n) (hi : i < 2147483648) : ld f n (nI i) k = k (f i) := by
  unfold ld
  rw [if_pos (by rw [cl i hi]; intro h2; rcases h2 with h2 | h2; exact nI_pos hi h2; omega), cl i hi]
theorem sv_in {β : Type} {σ : St} {j n i : Nat} {x : Int32} {k : St → Option β} (h : i < n) (hi : i < 2147483648) : sv σ j n (nI i) x k = k (up σ j i x) := by
  unfold sv
  rw [if_pos (by rw [cl i hi]; intro h2; rcases h2 with h2 | h2; exact nI_pos hi h2; omega), cl i hi]
theorem zk_0 {β : Type} (k : Option β) : zk (nI 0) k = k := if_pos (Or.inl rfl)
theorem zk_1 {β : Type} (k : Option β) : zk (nI 1) k = k := if_pos (Or.inr rfl)
theorem zk_in {β : Type} {v : Int32} (h : v = nI 0 ∨ v = nI 1) (k : Option β) : zk v k = k := if_pos h
theorem up_ne {σ : St} {j k i : Nat} {v : Int32} (h : i ≠ j) : up σ j k v i = σ i := if_neg h
theorem up_eq {σ : St} {j k : Nat} {v : Int32} : up σ j k v j k = v := by unfold up sx upd; simp
theorem up_e2 {σ : St} {j k i : Nat} {v : Int32} (h : i ≠ k) : up σ j k v j i = σ j i := by unfold up sx upd; simp [h]
theorem sx_ne {σ : St} {j i : Nat} {f : Nat → Int32} (h : i ≠ j) : sx σ j f i = σ i := if_neg h
theorem sx_eq {σ : St} {j : Nat} {f : Nat → Int32} : sx σ j f j = f := if_pos rfl
theorem up_at (σ : St) (j k : Nat) (v : Int32) (i m : Nat) : up σ j k v i m = if i = j then (if m = k then v else σ j m) else σ i m := by
  unfold up sx upd
  split
  · rfl
  · rfl
theorem s_sh : ∀ n, n < 32 → ((nI n &&& nI 31).toBitVec.smod 32).toNat = n := by decide +kernel
theorem shrN {a k : Nat} (hk : k < 32) (ha : a < 2147483648) : nI a >>> (nI k &&& nI 31) = nI (a / 2 ^ k) := pk_shrN ha _ k (s_sh k hk)
theorem shlN {a k : Nat} (hk : k < 32) (ha : a * 2 ^ k < 4294967296) : nI a <<< (nI k &&& nI 31) = nI (a * 2 ^ k) := pk_shlN _ k (s_sh k hk) ha
theorem andK {a : Nat} (k : Nat) (hk : k < 32) (ha : a < 4294967296) : nI a &&& nI (2 ^ k - 1) = nI (a % 2 ^ k) := pk_andN ha k (pk_tn (Nat.lt_of_lt_of_le (Nat.sub_lt (Nat.two_pow_pos k) (by omega)) (Nat.pow_le_pow_right (by omega) (by omega))))
theorem and63 {a : Nat} (ha : a < 4294967296) : nI a &&& nI 63 = nI (a % 64) := andK 6 (by omega) ha
theorem and255 {a : Nat} (ha : a < 4294967296) : nI a &&& nI 255 = nI (a % 256) := andK 8 (by omega) ha
theorem and15 {a : Nat} (ha : a < 4294967296) : nI a &&& nI 15 = nI (a % 16) := andK 4 (by omega) ha
/-! the class's waiting units, its move; the reference's -/
def InC (σ : St) (n : Nat) (W : Nat → Nat) : Prop := σ 4 1 = nI n ∧ ∀ i, i < n → σ 5 i = nI (W i)
def InM (μ : St) (n : Nat) (W : Nat → Nat) : Prop := μ 0 9 = nI n ∧ ∀ i, i < n → μ 2 i = nI (W i)
theorem at_in {σ : St} {n i : Nat} {W : Nat → Nat} (h : InC σ n W) (hi : i < n) (hn : n ≤ 24) : fX5_at 4 σ (nI i) = some (nI (W i), σ) := by
  unfold fX5_at
  rw [h.1]
  simp (disch := omega) only [lit, ltF, leF, if_false, Nat.reduceAdd]
  rw [ld_in (show i < capU 4 by show i < 24; omega) (by omega), h.2 i hi]
theorem at_out {σ : St} {n i : Nat} {W : Nat → Nat} (h : InC σ n W) (hi : n ≤ i) (hn : i < 2147483648) : fX5_at 4 σ (nI i) = some (-nI 1, σ) := by
  unfold fX5_at
  rw [h.1]
  simp (disch := omega) only [lit, ltF, leT, if_false, if_true]
theorem cnt_in {σ : St} {n : Nat} {W : Nat → Nat} (h : InC σ n W) : fX5_count 4 σ = some (nI n, σ) := by
  unfold fX5_count
  rw [h.1]
theorem ldM {β : Type} {μ : St} {n i : Nat} {W : Nat → Nat} {k : Int32 → Option β} (h : InM μ n W) (hi : i < n) (hn : n ≤ 24) : ld (μ 2) 24 (nI i) k = k (nI (W i)) := by
  rw [ld_in (by omega) (by omega), h.2 i hi]
def Mv (σ : St) (k t : Nat) (us : List Nat) : Prop := σ 8 1 = nI k ∧ σ 8 2 = nI t ∧ σ 8 3 = nI us.length ∧ ∀ (i : Nat) (h : i < us.length), σ 9 i = nI us[i]
def FC (σ σ1 : St) : Prop := (∀ i, i ≠ 8 → i ≠ 9 → i ≠ 12 → i ≠ 13 → i ≠ 14 → i ≠ 17 → σ1 i = σ i) ∧ ∀ i k, 12 ≤ i → i ≤ 14 → k ≠ 4 → σ1 i k = σ i k
theorem FC.rf {σ : St} : FC σ σ := ⟨fun _ _ _ _ _ _ _ => rfl, fun _ _ _ _ _ => rfl⟩
theorem FC.tr {σ σ1 σ2 : St} (h : FC σ σ1) (h2 : FC σ1 σ2) : FC σ σ2 := ⟨fun i a b c d e f => (h2.1 i a b c d e f).trans (h.1 i a b c d e f), fun i k a b c => (h2.2 i k a b c).trans (h.2 i k a b c)⟩
/-- only the move is touched -/
def F8 (σ σ1 : St) : Prop := ∀ i, i ≠ 8 → i ≠ 9 → σ1 i = σ i
theorem F8.tr {σ σ1 σ2 : St} (h : F8 σ σ1) (h2 : F8 σ1 σ2) : F8 σ σ2 := fun i a b => (h2 i a b).trans (h i a b)
theorem F8.fc {σ σ1 : St} (h : F8 σ σ1) : FC σ σ1 := ⟨fun i a b _ _ _ _ => h i a b, fun i k a b _ => by rw [h i (by omega) (by omega)]⟩
theorem InC.f8 {σ σ1 : St} {n : Nat} {W : Nat → Nat} (h : InC σ n W) (hf : F8 σ σ1) : InC σ1 n W := ⟨by rw [hf 4 (by omega) (by omega)]; exact h.1, by rw [hf 5 (by omega) (by omega)]; exact h.2⟩
theorem InC.fc {σ σ1 : St} {n : Nat} {W : Nat → Nat} (h : InC σ n W) (hf : FC σ σ1) : InC σ1 n W := ⟨by rw [hf.1 4 (by omega) (by omega) (by omega) (by omega) (by omega) (by omega)]; exact h.1, by rw [hf.1 5 (by omega) (by omega) (by omega) (by omega) (by omega) (by omega)]; exact h.2⟩
theorem mv_set (σ : St) (k t : Nat) : ∃ σ1, fX1_set σ (nI k) (nI t) = some (nI 0, σ1) ∧ Mv σ1 k t [] ∧ F8 σ σ1 := by
  refine ⟨_, rfl, ⟨?_, ?_, ?_, fun i h => absurd h (Nat.not_lt_zero i)⟩, ?_⟩
  · simp [up_at]
  · simp [up_at]
  · simp [up_at]; rfl
  · intro i h1 h2
    rw [up_ne h1, up_ne h1, up_ne h1]
theorem mv_step (σ : St) (t : Nat) : ∃ σ1, fX1_setStep σ (nI t) = some (nI 0, σ1) ∧ Mv σ1 1 t [] ∧ F8 σ σ1 := by
  obtain ⟨σ1, e, h⟩ := mv_set σ 1 t
  exact ⟨σ1, by unfold fX1_setStep; rw [lit, e]; rfl, h⟩
theorem mv_bad (σ : St) (t : Nat) : ∃ σ1, fX1_setBad σ (nI t) = some (nI 0, σ1) ∧ Mv σ1 2 t [] ∧ F8 σ σ1 := by
  obtain ⟨σ1, e, h⟩ := mv_set σ 2 t
  exact ⟨σ1, by unfold fX1_setBad; rw [lit, e]; rfl, h⟩
theorem mv_unk (σ : St) (t : Nat) : ∃ σ1, fX1_setUnknown σ (nI t) = some (nI 0, σ1) ∧ Mv σ1 3 t [] ∧ F8 σ σ1 := by
  obtain ⟨σ1, e, h⟩ := mv_set σ 3 t
  exact ⟨σ1, by unfold fX1_setUnknown; rw [lit, e]; rfl, h⟩
theorem mv_need (σ : St) : ∃ σ1, fX1_setNeed σ = some (nI 0, σ1) ∧ Mv σ1 0 0 [] ∧ F8 σ σ1 := by
  obtain ⟨σ1, e, h⟩ := mv_set σ 0 0
  exact ⟨σ1, by unfold fX1_setNeed; rw [lit, e]; rfl, h⟩
theorem mv_add {σ : St} {k t : Nat} {us : List Nat} (h : Mv σ k t us) (hl : us.length < 4) (x : Nat) : ∃ σ1, fX1_add σ (nI x) = some (nI 0, σ1) ∧ Mv σ1 k t (us ++ [x]) ∧ F8 σ σ1 := by
  obtain ⟨h1, h2, h3, h4⟩ := h
  refine ⟨up (up σ 9 us.length (nI x)) 8 3 (nI (us.length + 1)), ?_, ⟨?_, ?_, ?_, ?_⟩, ?_⟩
  · unfold fX1_add
    rw [h3]
    simp (disch := omega) only [lit, leF, if_false]
    rw [sv_in hl (by omega)]
    simp only [nm_def]
    rw [up_ne (by omega), h3, addN]
  · simp [up_at, h1]
  · simp [up_at, h2]
  · simp [up_at]
  · intro i hi
    rw [up_ne (by omega), up_at]
    rw [List.length_append, List.length_singleton] at hi
    by_cases e : i = us.length
    · subst e
      simp
    · rw [if_pos rfl, if_neg e, h4 i (by omega), List.getElem_append_left]
  · intro i a b
    rw [up_ne a, up_ne b]
def Mm (μ : St) (us : List Nat) : Prop := μ 0 26 = nI us.length ∧ ∀ (i : Nat) (h : i < us.length), μ 4 i = nI us[i]
/-- only what the reference's results hold is touched -/
def FR (μ μ1 : St) : Prop := (∀ i, i ≠ 0 → i ≠ 4 → μ1 i = μ i) ∧ ∀ k, k ≠ 26 → μ1 0 k = μ 0 k
theorem FR.rf {μ : St} : FR μ μ := ⟨fun _ _ _ => rfl, fun _ _ => rfl⟩
theorem FR.tr {μ μ1 μ2 : St} (h : FR μ μ1) (h2 : FR μ1 μ2) : FR μ μ2 := ⟨fun i a b => (h2.1 i a b).trans (h.1 i a b), fun k a => (h2.2 k a).trans (h.2 k a)⟩
def FM (μ μ1 : St) : Prop := (∀ i, i ≠ 0 → i ≠ 4 → μ1 i = μ i) ∧ ∀ k, k ≠ 24 → k ≠ 26 → k ≠ 27 → k ≠ 28 → k ≠ 29 → k ≠ 30 → k ≠ 31 → μ1 0 k = μ 0 k
theorem FM.tr {μ μ1 μ2 : St} (h : FM μ μ1) (h2 : FM μ1 μ2) : FM μ μ2 := ⟨fun i a b => (h2.1 i a b).trans (h.1 i a b), fun k a b c d e f g => (h2.2 k a b c d e f g).trans (h.2 k a b c d e f g)⟩
theorem FM.rf {μ : St} : FM μ μ := ⟨fun _ _ _ => rfl, fun _ _ _ _ _ _ _ _ => rfl⟩
theorem FR.fm {μ μ1 : St} (h : FR μ μ1) : FM μ μ1 := ⟨h.1, fun k _ b _ _ _ _ _ => h.2 k b⟩
theorem InM.fm {μ μ1 : St} {n : Nat} {W : Nat → Nat} (h : InM μ n W) (hf : FM μ μ1) : InM μ1 n W := ⟨by rw [hf.2 9 (by omega) (by omega) (by omega) (by omega) (by omega) (by omega) (by omega)]; exact h.1, by rw [hf.1 2 (by omega) (by omega)]; exact h.2⟩
theorem InM.fr {μ μ1 : St} {n : Nat} {W : Nat → Nat} (h : InM μ n W) (hf : FR μ μ1) : InM μ1 n W := h.fm hf.fm
theorem mm_add {μ : St} {us : List Nat} (h : Mm μ us) (hl : us.length < 8) (x : Nat) : ∃ μ1, fX10_result μ (nI x) = some (nI 0, μ1) ∧ Mm μ1 (us ++ [x]) ∧ FR μ μ1 := by
  obtain ⟨h3, h4⟩ := h
  refine ⟨up (up μ 4 us.length (nI x)) 0 26 (nI (us.length + 1)), ?_, ⟨?_, ?_⟩, ?_, ?_⟩
  · unfold fX10_result
    rw [h3]
    rw [sv_in hl (by omega)]
    simp only [nm_def, lit]
    rw [up_ne (by omega), h3, addN]
  · simp [up_at]
  · intro i hi
    rw [up_ne (by omega), up_at]
    rw [List.length_append, List.length_singleton] at hi
    by_cases e : i = us.length
    · subst e
      simp
    · rw [if_pos rfl, if_neg e, h4 i (by omega), List.getElem_append_left]
  · intro i a b
    rw [up_ne a, up_ne b]
  · intro k a
    rw [up_e2 a, up_ne (by omega)]
/-- the reference's step and fault -/
theorem mm_step (μ : St) (t : Nat) : ∃ μ1, fX10_step μ (nI t) = some (nI 0, μ1) ∧ μ1 0 24 = nI t ∧ (∀ i, i ≠ 0 → μ1 i = μ i) ∧ ∀ k, k ≠ 24 → μ1 0 k = μ 0 k := ⟨_, rfl, up_eq, fun i h => up_ne h, fun k h => up_e2 h⟩
theorem mm_fault (μ : St) (q t : Nat) : ∃ μ1, fX10_fault μ (nI q) (nI t) = some (nI q, μ1) ∧ μ1 0 24 = nI t ∧ (∀ i, i ≠ 0 → μ1 i = μ i) ∧ ∀ k, k ≠ 24 → μ1 0 k = μ 0 k := ⟨_, rfl, up_eq, fun i h => up_ne h, fun k h => up_e2 h⟩
def FS (μ μ1 : St) : Prop := (∀ i, i ≠ 0 → μ1 i = μ i) ∧ ∀ k, k ≠ 24 → μ1 0 k = μ 0 k
theorem FS.fm {μ μ1 : St} (h : FS μ μ1) : FM μ μ1 := ⟨fun i a _ => h.1 i a, fun k a _ _ _ _ _ _ => h.2 k a⟩
theorem Mm.fs {μ μ1 : St} {us : List Nat} (h : Mm μ us) (hf : FS μ μ1) : Mm μ1 us := ⟨by rw [hf.2 26 (by omega)]; exact h.1, by rw [hf.1 4 (by omega)]; exact h.2⟩
/-- what the two looks have in common -/
def LR (σ σ1 μ μ1 : St) (n : Nat) (k : Int32) (nx mk : Prop) : Prop := FC σ σ1 ∧ FM μ μ1 ∧ ((k = nI 1 ∧ σ1 8 1 = nI 0) ∨ (∃ (t : Nat) (us : List Nat), k = nI 0 ∧ Mv σ1 1 t us ∧ Mm μ1 us ∧ us.length ≤ 4 ∧ μ1 0 24 = nI t ∧ t ≤ n ∧ (t = 0 → mk) ∧ nx) ∨ ∃ q t : Nat, (q = 2 ∨ q = 3) ∧ k = nI q ∧ Mv σ1 q t [] ∧ μ1 0 24 = nI t ∧ 1 ≤ t ∧ t ≤ n)
def KN (μ μ1 : St) : Prop := ∀ k, 27 ≤ k → k ≤ 31 → μ1 0 k = μ 0 k
theorem KN.rf {μ : St} : KN μ μ := fun _ _ _ => rfl
theorem KN.tr {μ μ1 μ2 : St} (h : KN μ μ1) (h2 : KN μ1 μ2) : KN μ μ2 := fun k a b => (h2 k a b).trans (h k a b)
theorem FR.kn {μ μ1 : St} (h : FR μ μ1) : KN μ μ1 := fun k a b => h.2 k (by omega)
theorem FS.kn {μ μ1 : St} (h : FS μ μ1) : KN μ μ1 := fun k a b => h.2 k (by omega)
/-- a step, both sides -/
theorem lr_step {σ σ1 μ μ1 μ2 : St} {n t : Nat} {us : List Nat} {mk : Prop} (hf : FC σ σ1) (hv : Mv σ1 1 t us) (hm : Mm μ1 us) (hr : FR μ μ1) (hl : us.length ≤ 4) (h24 : μ2 0 24 = nI t) (hs : FS μ1 μ2) (ht : t ≤ n) (hmk : t = 0 → mk) : LR σ σ1 μ μ2 n (nI 0) (KN μ μ2) mk :=
  ⟨hf, hr.fm.tr hs.fm, Or.inr (Or.inl ⟨t, us, rfl, hv, hm.fs hs, hl, h24, ht, hmk, hr.kn.tr hs.kn⟩)⟩
theorem lr_fault {σ σ1 μ μ1 μ2 : St} {n q t : Nat} {nx mk : Prop} (hf : FC σ σ1) (hq : q = 2 ∨ q = 3) (hv : Mv σ1 q t []) (hr : FM μ μ1) (h24 : μ2 0 24 = nI t) (hs : FS μ1 μ2) (h1 : 1 ≤ t) (ht : t ≤ n) : LR σ σ1 μ μ2 n (nI q) nx mk :=
  ⟨hf, hr.tr hs.fm, Or.inr (Or.inr ⟨q, t, hq, rfl, hv, h24, h1, ht⟩)⟩
theorem lr_need {σ σ1 μ μ1 : St} {n : Nat} {nx mk : Prop} (hf : FC σ σ1) (hv : Mv σ1 0 0 []) (hr : FM μ μ1) : LR σ σ1 μ μ1 n (nI 1) nx mk := ⟨hf, hr, Or.inl ⟨rfl, hv.1⟩⟩
theorem m1N (n : Nat) : nI (n + 1) + -nI 1 = nI n := pk_m1 n
theorem m10 : nI 0 + -nI 1 = -nI 1 := by decide
theorem m1lt0 : (-nI 1 < nI 0) = True := eq_true (by decide)
theorem m1ge0 : (nI 0 ≤ -nI 1) = False := eq_false (by decide)
/-! characters: high, low, pairs -/
theorem c_isHigh (σ : St) {a : Nat} (ha : a < 2147483648) : fX4_isHigh σ (nI a) = some (nI (if 55296 ≤ a ∧ a < 56320 then 1 else 0), σ) := by
  unfold fX4_isHigh
  by_cases h1 : a < 55296
  · rw [if_neg (show ¬ (55296 ≤ a ∧ a < 56320) by omega)]
    simp (disch := omega) only [lit, ltT, ltF, leT, leF, if_true, if_false]
  · by_cases h2 : a < 56320
    · rw [if_pos (show 55296 ≤ a ∧ a < 56320 by omega)]
      simp (disch := omega) only [lit, ltT, ltF, leT, leF, if_true, if_false]
    · rw [if_neg (show ¬ (55296 ≤ a ∧ a < 56320) by omega)]
      simp (disch := omega) only [lit, ltT, ltF, leT, leF, if_true, if_false]
theorem c_isLow (σ : St) {a : Nat} (ha : a < 2147483648) : fX4_isLow σ (nI a) = some (nI (if 56320 ≤ a ∧ a < 57344 then 1 else 0), σ) := by
  unfold fX4_isLow
  by_cases h1 : a < 56320
  · rw [if_neg (show ¬ (56320 ≤ a ∧ a < 57344) by omega)]
    simp (disch := omega) only [lit, ltT, ltF, leT, leF, if_true, if_false]
  · by_cases h2 : a < 57344
    · rw [if_pos (show 56320 ≤ a ∧ a < 57344 by omega)]
      simp (disch := omega) only [lit, ltT, ltF, leT, leF, if_true, if_false]
    · rw [if_neg (show ¬ (56320 ≤ a ∧ a < 57344) by omega)]
      simp (disch := omega) only [lit, ltT, ltF, leT, leF, if_true, if_false]
theorem c_isLowM (σ : St) : fX4_isLow σ (-nI 1) = some (nI 0, σ) := by
  unfold fX4_isLow
  rw [if_pos (by decide)]
  rfl
theorem c_isEither (σ : St) {a : Nat} (ha : a < 2147483648) : fX4_isEither σ (nI a) = some (nI (if 55296 ≤ a ∧ a < 57344 then 1 else 0), σ) := by
  unfold fX4_isEither
  by_cases h1 : a < 55296
  · rw [if_neg (show ¬ (55296 ≤ a ∧ a < 57344) by omega)]
    simp (disch := omega) only [lit, ltT, ltF, leT, leF, if_true, if_false]
  · by_cases h2 : a < 57344
    · rw [if_pos (show 55296 ≤ a ∧ a < 57344 by omega)]
      simp (disch := omega) only [lit, ltT, ltF, leT, leF, if_true, if_false]
    · rw [if_neg (show ¬ (55296 ≤ a ∧ a < 57344) by omega)]
      simp (disch := omega) only [lit, ltT, ltF, leT, leF, if_true, if_false]
theorem r_high (μ : St) {a : Nat} (ha : a < 2147483648) : fX10_high μ (nI a) = some (nI (if 55296 ≤ a ∧ a < 56320 then 1 else 0), μ) := by
  unfold fX10_high
  by_cases h1 : a < 55296
  · rw [if_neg (show ¬ (55296 ≤ a ∧ a < 56320) by omega)]
    simp (disch := omega) only [lit, ltT, ltF, leT, leF, if_true, if_false]
  · by_cases h2 : a < 56320
    · rw [if_pos (show 55296 ≤ a ∧ a < 56320 by omega)]
      simp (disch := omega) only [lit, ltT, ltF, leT, leF, if_true, if_false]
    · rw [if_neg (show ¬ (55296 ≤ a ∧ a < 56320) by omega)]
      simp (disch := omega) only [lit, ltT, ltF, leT, leF, if_true, if_false]
theorem r_low (μ : St) {a : Nat} (ha : a < 2147483648) : fX10_low μ (nI a) = some (nI (if 56320 ≤ a ∧ a < 57344 then 1 else 0), μ) := by
  unfold fX10_low
  by_cases h1 : a < 56320
  · rw [if_neg (show ¬ (56320 ≤ a ∧ a < 57344) by omega)]
    simp (disch := omega) only [lit, ltT, ltF, leT, leF, if_true, if_false]
  · by_cases h2 : a < 57344
    · rw [if_pos (show 56320 ≤ a ∧ a < 57344 by omega)]
      simp (disch := omega) only [lit, ltT, ltF, leT, leF, if_true, if_false]
    · rw [if_neg (show ¬ (56320 ≤ a ∧ a < 57344) by omega)]
      simp (disch := omega) only [lit, ltT, ltF, leT, leF, if_true, if_false]
def isHi (a : Nat) : Prop := 55296 ≤ a ∧ a < 56320
def isLo (a : Nat) : Prop := 56320 ≤ a ∧ a < 57344
theorem c_hiT (σ : St) {a : Nat} (h : 55296 ≤ a ∧ a < 56320) : fX4_isHigh σ (nI a) = some (nI 1, σ) := by rw [c_isHigh σ (by omega), if_pos h]
theorem c_hiF (σ : St) {a : Nat} (h : ¬ (55296 ≤ a ∧ a < 56320)) (ha : a < 65536) : fX4_isHigh σ (nI a) = some (nI 0, σ) := by rw [c_isHigh σ (by omega), if_neg h]
theorem c_loT (σ : St) {a : Nat} (h : 56320 ≤ a ∧ a < 57344) : fX4_isLow σ (nI a) = some (nI 1, σ) := by rw [c_isLow σ (by omega), if_pos h]
theorem c_loF (σ : St) {a : Nat} (h : ¬ (56320 ≤ a ∧ a < 57344)) (ha : a < 65536) : fX4_isLow σ (nI a) = some (nI 0, σ) := by rw [c_isLow σ (by omega), if_neg h]
theorem c_eiT (σ : St) {a : Nat} (h : 55296 ≤ a ∧ a < 57344) : fX4_isEither σ (nI a) = some (nI 1, σ) := by rw [c_isEither σ (by omega), if_pos h]
theorem c_eiF (σ : St) {a : Nat} (h : ¬ (55296 ≤ a ∧ a < 57344)) (ha : a < 65536) : fX4_isEither σ (nI a) = some (nI 0, σ) := by rw [c_isEither σ (by omega), if_neg h]
theorem r_hiT (μ : St) {a : Nat} (h : 55296 ≤ a ∧ a < 56320) : fX10_high μ (nI a) = some (nI 1, μ) := by rw [r_high μ (by omega), if_pos h]
theorem r_hiF (μ : St) {a : Nat} (h : ¬ (55296 ≤ a ∧ a < 56320)) (ha : a < 65536) : fX10_high μ (nI a) = some (nI 0, μ) := by rw [r_high μ (by omega), if_neg h]
theorem r_loT (μ : St) {a : Nat} (h : 56320 ≤ a ∧ a < 57344) : fX10_low μ (nI a) = some (nI 1, μ) := by rw [r_low μ (by omega), if_pos h]
theorem r_loF (μ : St) {a : Nat} (h : ¬ (56320 ≤ a ∧ a < 57344)) (ha : a < 65536) : fX10_low μ (nI a) = some (nI 0, μ) := by rw [r_low μ (by omega), if_neg h]
theorem c_pairT (σ : St) {a b : Nat} (h : 55296 ≤ a ∧ a < 56320) (h2 : 56320 ≤ b ∧ b < 57344) : fX4_isPair σ (nI a) (nI b) = some (nI 1, σ) := by
  unfold fX4_isPair
  rw [c_hiT σ h]
  simp (disch := omega) only [bd_some, lit, eqF, if_false, c_loT σ h2]
theorem c_pairF (σ : St) {a b : Nat} (h : ¬ ((55296 ≤ a ∧ a < 56320) ∧ (56320 ≤ b ∧ b < 57344))) (ha : a < 65536) (hb : b < 65536) : fX4_isPair σ (nI a) (nI b) = some (nI 0, σ) := by
  unfold fX4_isPair
  by_cases h1 : 55296 ≤ a ∧ a < 56320
  · rw [c_hiT σ h1]
    simp (disch := omega) only [bd_some, lit, eqF, eqT, if_false, if_true, c_loF σ (fun h2 => h ⟨h1, h2⟩) hb]
  · rw [c_hiF σ h1 ha]
    simp (disch := omega) only [bd_some, lit, eqF, eqT, if_false, if_true]
theorem c_pairM (σ : St) {a : Nat} (ha : a < 65536) : fX4_isPair σ (nI a) (-nI 1) = some (nI 0, σ) := by
  unfold fX4_isPair
  by_cases h1 : 55296 ≤ a ∧ a < 56320
  · rw [c_hiT σ h1]
    simp (disch := omega) only [bd_some, lit, eqF, eqT, if_false, if_true, c_isLowM σ]
  · rw [c_hiF σ h1 ha]
    simp (disch := omega) only [bd_some, lit, eqF, eqT, if_false, if_true]
/-- a surrogate that isn't the first of a pair -/
theorem c_unp {σ : St} {n : Nat} {W : Nat → Nat} (h : InC σ n W) (hn : n ≤ 24) (h0 : 0 < n) (hw : W 0 < 65536) : ∃ σ1, fX4_setForUnpaired σ = some (nI 0, σ1) ∧ F8 σ σ1 ∧ ((n = 1 ∧ (55296 ≤ W 0 ∧ W 0 < 56320) ∧ Mv σ1 0 0 []) ∨ (¬ (n = 1 ∧ 55296 ≤ W 0 ∧ W 0 < 56320) ∧ Mv σ1 2 1 [])) := by
  have e0 := at_in (i := 0) h h0 hn
  by_cases h1 : n = 1
  · subst h1
    by_cases h2 : 55296 ≤ W 0 ∧ W 0 < 56320
    · obtain ⟨σ1, e1, m1, f1⟩ := mv_need σ
      refine ⟨σ1, ?_, f1, Or.inl ⟨rfl, h2, m1⟩⟩
      unfold fX4_setForUnpaired
      simp (disch := omega) only [lit, cnt_in h, bd_some, eqT, eqF, if_true, if_false, e0, c_hiT σ h2, e1]
    · obtain ⟨σ1, e1, m1, f1⟩ := mv_bad σ 1
      refine ⟨σ1, ?_, f1, Or.inr ⟨fun q => h2 q.2, m1⟩⟩
      unfold fX4_setForUnpaired
      simp (disch := omega) only [lit, cnt_in h, bd_some, eqT, eqF, if_true, if_false, e0, c_hiF σ h2 hw, e1]
  · obtain ⟨σ1, e1, m1, f1⟩ := mv_bad σ 1
    refine ⟨σ1, ?_, f1, Or.inr ⟨fun q => h1 q.1, m1⟩⟩
    unfold fX4_setForUnpaired
    simp (disch := omega) only [lit, cnt_in h, bd_some, eqT, eqF, if_true, if_false, e1]
