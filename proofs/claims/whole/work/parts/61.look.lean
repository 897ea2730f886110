/-! ===== the invariant; the look, over all sets ===== -/
def RK (σ : St) : Prop := σ 10 0 = nI 0 ∧ σ 11 0 = nI 1 ∧ σ 12 0 = nI 1 ∧ σ 13 0 = nI 0 ∧ σ 14 0 = nI 0 ∧ σ 12 1 = nI 0 ∧ σ 13 1 = nI 0 ∧ σ 14 1 = nI 1
def RB (σ μ : St) (s en ba ua : Nat) : Prop := σ 0 5 = nI s ∧ μ 0 1 = nI s ∧ s ≤ 6 ∧ σ 0 7 = nI en ∧ μ 0 2 = nI en ∧ en ≤ 1 ∧ σ 0 8 = nI ba ∧ μ 0 3 = nI ba ∧ ba ≤ 2 ∧ σ 0 9 = nI ua ∧ μ 0 4 = nI ua ∧ ua ≤ 2 ∧ μ 0 0 = nI 1
def RA (σ μ : St) (n r rm : Nat) (W : Nat → Nat) : Prop := σ 0 11 = μ 0 12 ∧ σ 0 12 = μ 0 13 ∧ σ 0 13 = μ 0 14 ∧ σ 0 10 = nI rm ∧ μ 0 6 = nI rm ∧ PG σ μ ∧ InC σ n W ∧ InM μ n W ∧ σ 6 1 = nI r ∧ μ 0 11 = nI r ∧ (∀ i, i < r → σ 7 i = μ 3 i) ∧ n ≤ 24 ∧ r ≤ 16 ∧ rm ≤ 16
def I7 (en bg bt kp : Nat) : Prop := kp < 2 ^ bt ∧ (en = 1 → bt < 6 ∧ bg = 0) ∧ (en = 0 → bt < 16 ∧ (bg = 1 → bt = 0))
def RS (σ μ : St) (s en : Nat) : Prop := ∃ tk gv sw sh bg bt kp f : Nat, (tk ≤ 1 ∧ gv ≤ 1 ∧ sw ≤ 1 ∧ sh ≤ 1 ∧ bg ≤ 1 ∧ f ≤ 1) ∧ (μ 0 15 = nI tk ∧ μ 0 16 = nI gv ∧ μ 0 17 = nI sw ∧ μ 0 18 = nI sh ∧ μ 0 19 = nI bg ∧ μ 0 20 = nI bt ∧ μ 0 21 = nI kp) ∧ (s ≠ 5 → sh = 0 ∧ bg = 0) ∧ (2 ≤ s → s ≤ 4 → σ (s + 10) 2 = nI f ∧ σ (s + 10) 3 = nI (if s = 4 then 1 else sw) ∧ (en = 1 → sw = 0 ∧ σ (s + 10) 4 = nI (if s = 4 then 1 else 0))) ∧ (s = 2 → (en = 1 → f + gv = 1) ∧ (en = 0 → f + tk = 1)) ∧ (s = 5 → I7 en bg bt kp ∧ σ 16 0 = nI sh ∧ σ 16 1 = nI bg ∧ σ 16 2 = nI kp ∧ σ 16 3 = nI bt)
def RW (en n : Nat) (W : Nat → Nat) : Prop := ∀ i, i < n → W i < (if en = 1 then 65536 else 256)
def BM (μ : St) (s en : Nat) : Prop := s = 2 ∧ en = 1 ∧ μ 0 16 = nI 0
def NX (s en : Nat) (σ1 μ1 : St) : Prop := ∃ sh bg bt kp sw : Nat, (sh ≤ 1 ∧ bg ≤ 1 ∧ sw ≤ 1) ∧ (μ1 0 27 = nI sh ∧ μ1 0 28 = nI bg ∧ μ1 0 29 = nI bt ∧ μ1 0 30 = nI kp ∧ μ1 0 31 = nI sw) ∧ (s ≠ 5 → sh = 0 ∧ bg = 0) ∧ (2 ≤ s → s ≤ 4 → σ1 (s + 10) 4 = nI (if s = 4 then 1 else sw) ∧ (en = 1 → sw = 0)) ∧ (s = 5 → I7 en bg bt kp ∧ σ1 17 0 = nI sh ∧ σ1 17 1 = nI bg ∧ σ1 17 2 = nI kp ∧ σ1 17 3 = nI bt)
def LK (σ σ1 μ μ1 : St) (s en n : Nat) (k : Int32) : Prop := FC σ σ1 ∧ FM μ μ1 ∧ (en = 1 → 2 ≤ s → s ≤ 4 → σ1 (s + 10) 4 = σ (s + 10) 4) ∧ ((k = nI 1 ∧ σ1 8 1 = nI 0 ∧ ¬ BM μ s en) ∨ (∃ (t : Nat) (us : List Nat), k = nI 0 ∧ Mv σ1 1 t us ∧ Mm μ1 us ∧ us.length ≤ 4 ∧ μ1 0 24 = nI t ∧ t ≤ n ∧ (t = 0 → BM μ s en) ∧ (BM μ s en → us ≠ []) ∧ NX s en σ1 μ1) ∨ ∃ q t : Nat, (q = 2 ∨ q = 3) ∧ (s = 5 → q = 2) ∧ ¬ BM μ s en ∧ k = nI q ∧ Mv σ1 q t [] ∧ μ1 0 24 = nI t ∧ 1 ≤ t ∧ t ≤ n)
def rdisp (a b : Int32) (σ7 : St) : Option (Int32 × St) := if 2 ≤ a then (if 5 ≤ a then (if a = 5 then (if b = 0 then bd (fX10_decodeSeven σ7) (fun v12 σ13 => some (v12, σ13)) else bd (fX10_encodeSeven σ7) (fun v14 σ15 => some (v14, σ15))) else (if b = 0 then bd (fX10_decodePage σ7) (fun v8 σ9 => some (v8, σ9)) else bd (fX10_encodePage σ7) (fun v10 σ11 => some (v10, σ11)))) else (if b = 0 then bd (fX10_decodeSixteen σ7) (fun v16 σ17 => some (v16, σ17)) else bd (fX10_encodeSixteen σ7) (fun v18 σ19 => some (v18, σ19)))) else (if b = 0 then bd (fX10_decodeEight σ7) (fun v20 σ21 => some (v20, σ21)) else bd (fX10_encodeEight σ7) (fun v22 σ23 => some (v22, σ23)))
theorem bd_id (x : Option (Int32 × St)) : bd x (fun v σ => some (v, σ)) = x := by cases x <;> rfl
theorem r_pre {μ : St} {sh bg sw : Nat} (h18 : μ 0 18 = nI sh) (hsh : sh ≤ 1) (h19 : μ 0 19 = nI bg) (hbg : bg ≤ 1) (h17 : μ 0 17 = nI sw) (hsw : sw ≤ 1) : ∃ μ7, Mm μ7 [] ∧ FM μ μ7 ∧ μ7 0 27 = nI sh ∧ μ7 0 28 = nI bg ∧ μ7 0 29 = μ 0 20 ∧ μ7 0 30 = μ 0 21 ∧ μ7 0 31 = nI sw ∧ fX10_look μ = if μ 0 9 = 0 then some (1, μ7) else rdisp (μ 0 1) (μ 0 2) μ7 := by
  obtain ⟨μ7, h7⟩ : ∃ z, z = up (up (up (up (up (up (up μ 0 26 0) 0 24 0) 0 27 (μ 0 18)) 0 28 (μ 0 19)) 0 29 (μ 0 20)) 0 30 (μ 0 21)) 0 31 (μ 0 17) := ⟨_, rfl⟩
  have z : ∀ (x : Int32) (n : Nat) (k : Option (Int32 × St)), x = nI n → n ≤ 1 → zk x k = k := by
    intro x n k hx hn
    rw [hx]
    rcases (show n = 0 ∨ n = 1 by omega) with h | h
    · rw [h, zk_0]
    · rw [h, zk_1]
  have z18 := fun k => z _ _ k h18 hsh
  have z19 := fun k => z _ _ k h19 hbg
  have z17 := fun k => z _ _ k h17 hsw
  refine ⟨μ7, ⟨?_, fun i h => absurd h (Nat.not_lt_zero i)⟩, ⟨?_, ?_⟩, ?_, ?_, ?_, ?_, ?_, ?_⟩
  · rw [h7]
    simp (disch := omega) only [up_e2, up_eq]
    rfl
  · intro i a b
    rw [h7]
    simp (disch := omega) only [up_ne]
  · intro k a b c d e f g
    rw [h7]
    simp (disch := omega) only [up_e2]
  · rw [h7]
    simp (disch := omega) only [up_e2, up_eq, h18]
  · rw [h7]
    simp (disch := omega) only [up_e2, up_eq, h19]
  · rw [h7]
    simp (disch := omega) only [up_e2, up_eq]
  · rw [h7]
    simp (disch := omega) only [up_e2, up_eq]
  · rw [h7]
    simp (disch := omega) only [up_eq, h17]
  · unfold fX10_look rdisp
    simp (disch := omega) only [nm_def, up_e2, up_eq, z18, z19, z17, ← h7]
theorem c_lookD {σ : St} {n s : Nat} {W : Nat → Nat} (hC : InC σ n W) (hn : n ≤ 24) (h0 : 0 < n) (h7 : σ 0 7 = nI 0) : fX9_look σ = bd (fv_decode σ) (fun _ σ4 => some (nI 0, σ4)) := by
  unfold fX9_look
  rw [cnt_in hC, bd_some, h7]
  simp (disch := omega) only [lit, eqF, eqT, if_true, if_false]
theorem c_lookE {σ : St} {n : Nat} {W : Nat → Nat} (hC : InC σ n W) (hn : n ≤ 24) (h0 : 0 < n) (h7 : σ 0 7 = nI 1) : fX9_look σ = bd (fv_encode σ) (fun _ σ6 => some (nI 0, σ6)) := by
  unfold fX9_look
  rw [cnt_in hC, bd_some, h7]
  simp (disch := omega) only [lit, eqF, if_false]
/-- the sets with no state of their own -/
theorem lk_gen {σ σ1 μ μ7 μ1 : St} {s en n sh bg sw : Nat} {k : Int32} (hs : s ≠ 2 ∧ s ≠ 3 ∧ s ≠ 4 ∧ s ≠ 5) (hf : FM μ μ7) (h27 : μ7 0 27 = nI sh) (h28 : μ7 0 28 = nI bg) (h29 : ∃ bt, μ7 0 29 = nI bt) (h30 : ∃ kp, μ7 0 30 = nI kp) (h31 : μ7 0 31 = nI sw) (hsh : sh ≤ 1) (hbg : bg ≤ 1) (hsw : sw ≤ 1) (h5 : s ≠ 5 → sh = 0 ∧ bg = 0) (h : LR σ σ1 μ7 μ1 n k (KN μ7 μ1) False) : LK σ σ1 μ μ1 s en n k := by
  have hm : ¬ BM μ s en := fun q => hs.1 q.1
  obtain ⟨bt, h29⟩ := h29
  obtain ⟨kp, h30⟩ := h30
  obtain ⟨a, b, ⟨c1, c2⟩ | ⟨t, us, c1, c2, c3, c4, c5, c6, c7, c8⟩ | ⟨q, t, c1, c2, c3, c4, c5, c6⟩⟩ := h
  · exact ⟨a, hf.tr b, fun _ _ _ => by omega, Or.inl ⟨c1, c2, hm⟩⟩
  · exact ⟨a, hf.tr b, fun _ _ _ => by omega, Or.inr (Or.inl ⟨t, us, c1, c2, c3, c4, c5, c6, fun q => (c7 q).elim, fun q => absurd q hm, sh, bg, bt, kp, sw, ⟨hsh, hbg, hsw⟩, ⟨by rw [c8 27 (by omega) (by omega)]; exact h27, by rw [c8 28 (by omega) (by omega)]; exact h28, by rw [c8 29 (by omega) (by omega)]; exact h29, by rw [c8 30 (by omega) (by omega)]; exact h30, by rw [c8 31 (by omega) (by omega)]; exact h31⟩, h5, fun _ _ => by omega, fun _ => by omega⟩)⟩
  · exact ⟨a, hf.tr b, fun _ _ _ => by omega, Or.inr (Or.inr ⟨q, t, c1, fun _ => by omega, hm, c2, c3, c4, c5, c6⟩)⟩
theorem lk_16Ek {σ σ1 μ μ7 μ1 : St} {s n sh bg g : Nat} {k : Int32} (hs : 2 ≤ s ∧ s ≤ 4) (hf : FM μ μ7) (h27 : μ7 0 27 = nI sh) (h28 : μ7 0 28 = nI bg) (h29 : ∃ bt, μ7 0 29 = nI bt) (h30 : ∃ kp, μ7 0 30 = nI kp) (h31 : μ7 0 31 = nI 0) (hsh : sh ≤ 1) (hbg : bg ≤ 1) (h5 : s ≠ 5 → sh = 0 ∧ bg = 0) (hg : μ 0 16 = nI g) (hg1 : g ≤ 1) (h4 : σ (s + 10) 4 = nI (if s = 4 then 1 else 0)) (h : LR σ σ1 μ7 μ1 n k (KN μ7 μ1) (s = 2 ∧ g = 0)) (h8 : F8 σ σ1) (hk : s = 2 ∧ g = 0 → k = nI 0 ∧ σ1 8 3 = nI 2) : LK σ σ1 μ μ1 s 1 n k := by
  have hm : BM μ s 1 → s = 2 ∧ g = 0 := fun q => ⟨q.1, (nI_eq (by omega) (by omega)).mp (hg.symm.trans q.2.2)⟩
  have hm2 : s = 2 ∧ g = 0 → BM μ s 1 := fun q => ⟨q.1, rfl, by rw [hg, q.2]⟩
  have h14 : σ1 (s + 10) 4 = σ (s + 10) 4 := by rw [h8 (s + 10) (by omega) (by omega)]
  obtain ⟨bt, h29⟩ := h29
  obtain ⟨kp, h30⟩ := h30
  obtain ⟨a, b, ⟨c1, c2⟩ | ⟨t, us, c1, c2, c3, c4, c5, c6, c7, c8⟩ | ⟨q, t, c1, c2, c3, c4, c5, c6⟩⟩ := h
  · refine ⟨a, hf.tr b, fun _ _ _ => h14, Or.inl ⟨c1, c2, fun q => ?_⟩⟩
    rw [(hk (hm q)).1] at c1
    exact absurd c1 (by decide)
  · refine ⟨a, hf.tr b, fun _ _ _ => h14, Or.inr (Or.inl ⟨t, us, c1, c2, c3, c4, c5, c6, fun q => hm2 (c7 q), fun q e => ?_, sh, bg, bt, kp, 0, ⟨hsh, hbg, by omega⟩, ⟨by rw [c8 27 (by omega) (by omega)]; exact h27, by rw [c8 28 (by omega) (by omega)]; exact h28, by rw [c8 29 (by omega) (by omega)]; exact h29, by rw [c8 30 (by omega) (by omega)]; exact h30, by rw [c8 31 (by omega) (by omega)]; exact h31⟩, h5, fun _ _ => ⟨by rw [h14, h4], fun _ => rfl⟩, fun _ => by omega⟩)⟩
    have := c2.2.2.1
    rw [(hk (hm q)).2, e] at this
    exact absurd this (by decide)
  · refine ⟨a, hf.tr b, fun _ _ _ => h14, Or.inr (Or.inr ⟨q, t, c1, fun _ => by omega, fun q2 => ?_, c2, c3, c4, c5, c6⟩)⟩
    rw [(hk (hm q2)).1] at c2
    rcases c1 with c1 | c1
    · rw [c1] at c2
      exact absurd c2 (by decide)
    · rw [c1] at c2
      exact absurd c2 (by decide)
theorem lk_16Dk {σ σ1 μ μ7 μ1 : St} {s n sh bg : Nat} {k : Int32} (hs : 2 ≤ s ∧ s ≤ 4) (hf : FM μ μ7) (h27 : μ7 0 27 = nI sh) (h28 : μ7 0 28 = nI bg) (h29 : ∃ bt, μ7 0 29 = nI bt) (h30 : ∃ kp, μ7 0 30 = nI kp) (hsh : sh ≤ 1) (hbg : bg ≤ 1) (h5 : s ≠ 5 → sh = 0 ∧ bg = 0) (h : LR σ σ1 μ7 μ1 n k (nx16 (s + 10) s σ1 μ7 μ1) False) : LK σ σ1 μ μ1 s 0 n k := by
  have hm : ¬ BM μ s 0 := fun q => absurd q.2.1 (by decide)
  obtain ⟨bt, h29⟩ := h29
  obtain ⟨kp, h30⟩ := h30
  obtain ⟨a, b, ⟨c1, c2⟩ | ⟨t, us, c1, c2, c3, c4, c5, c6, c7, c8, w, w1, w2, w3⟩ | ⟨q, t, c1, c2, c3, c4, c5, c6⟩⟩ := h
  · exact ⟨a, hf.tr b, fun q _ _ => absurd q (by decide), Or.inl ⟨c1, c2, hm⟩⟩
  · exact ⟨a, hf.tr b, fun q _ _ => absurd q (by decide), Or.inr (Or.inl ⟨t, us, c1, c2, c3, c4, c5, c6, fun q => (c7 q).elim, fun q => absurd q hm, sh, bg, bt, kp, w, ⟨hsh, hbg, w1⟩, ⟨by rw [c8 27 (by omega) (by omega)]; exact h27, by rw [c8 28 (by omega) (by omega)]; exact h28, by rw [c8 29 (by omega) (by omega)]; exact h29, by rw [c8 30 (by omega) (by omega)]; exact h30, w2⟩, h5, fun _ _ => ⟨w3, fun q => absurd q (by decide)⟩, fun _ => by omega⟩)⟩
  · exact ⟨a, hf.tr b, fun q _ _ => absurd q (by decide), Or.inr (Or.inr ⟨q, t, c1, fun _ => by omega, hm, c2, c3, c4, c5, c6⟩)⟩
theorem lk_7k {σ σ1 μ μ7 μ1 : St} {en n sw : Nat} {k : Int32} (hf : FM μ μ7) (h31 : μ7 0 31 = nI sw) (hsw : sw ≤ 1) (h : LR σ σ1 μ7 μ1 n k (NX7 en σ1 μ7 μ1) False) (hk : k = nI 0 ∨ k = nI 2) : LK σ σ1 μ μ1 5 en n k := by
  have hm : ¬ BM μ 5 en := fun q => absurd q.1 (by decide)
  obtain ⟨a, b, ⟨c1, c2⟩ | ⟨t, us, c1, c2, c3, c4, c5, c6, c7, c8, sh, bg, bt, kp, n1, n2, n3, n4, n5, s0, s1, s2, s3, m0, m1, m2, m3⟩ | ⟨q, t, c1, c2, c3, c4, c5, c6⟩⟩ := h
  · exact ⟨a, hf.tr b, fun _ _ q => absurd q (by decide), Or.inl ⟨c1, c2, hm⟩⟩
  · exact ⟨a, hf.tr b, fun _ _ q => absurd q (by decide), Or.inr (Or.inl ⟨t, us, c1, c2, c3, c4, c5, c6, fun q => (c7 q).elim, fun q => absurd q hm, sh, bg, bt, kp, sw, ⟨n1, n2, hsw⟩, ⟨m0, m1, m2, m3, by rw [c8]; exact h31⟩, fun q => absurd rfl q, fun _ q => absurd q (by decide), fun _ => ⟨⟨n3, n4, n5⟩, s0, s1, s2, s3⟩⟩)⟩
  · refine ⟨a, hf.tr b, fun _ _ q => absurd q (by decide), Or.inr (Or.inr ⟨q, t, c1, fun _ => ?_, hm, c2, c3, c4, c5, c6⟩)⟩
    rcases c1 with c1 | c1
    · exact c1
    · rw [c2, c1] at hk
      rcases hk with hk | hk
      · exact absurd hk (by decide)
      · exact absurd hk (by decide)
theorem lk_all {σ μ : St} {n r rm s en ba ua : Nat} {W : Nat → Nat} (hA : RA σ μ n r rm W) (hK : RK σ) (hB : RB σ μ s en ba ua) (hS : RS σ μ s en) (hW : RW en n W) (h0 : 0 < n) : ∃ σ1 μ1 k, fX9_look σ = some (nI 0, σ1) ∧ fX10_look μ = some (k, μ1) ∧ LK σ σ1 μ μ1 s en n k := by
  obtain ⟨-, -, -, -, -, hP, hC, hM, -, -, -, hn, -, -⟩ := hA
  obtain ⟨b5, bm1, bs, b7, bm2, ben, -, -, -, -, -, -, -⟩ := hB
  obtain ⟨k10, k11, k12, k13, k14, -, -, -⟩ := hK
  obtain ⟨tk, gv, sw, sh, bg, bt, kp, f, ⟨htk, hgv, hsw, hsh, hbg, hf1⟩, ⟨m15, m16, m17, m18, m19, m20, m21⟩, s5, s16, s2, s7⟩ := hS
  obtain ⟨μ7, mm, fm, h27, h28, h29, h30, h31, hl⟩ := r_pre m18 hsh m19 hbg m17 hsw
  rw [m20] at h29
  rw [m21] at h30
  have hM7 := hM.fm fm
  have g : ∀ k, k ≠ 24 → (k < 26 ∨ 31 < k) → μ7 0 k = μ 0 k := fun k a b => fm.2 k a (by omega) (by omega) (by omega) (by omega) (by omega) (by omega)
  have hset : μ7 0 1 = nI s := by rw [g 1 (by omega) (by omega)]; exact bm1
  rw [hM.1, lit, if_neg (show ¬ nI n = nI 0 from fun e => by have := (nI_eq (by omega) (by omega)).mp e; omega), bm1, bm2] at hl
  have hPG : PG σ μ7 := fun i hi => by rw [fm.1 1 (by omega) (by omega)]; exact hP i hi
  rcases (show en = 0 ∨ en = 1 by omega) with he | he
  · subst he
    have hwb : ∀ i, i < n → W i < 256 := fun i hi => by
      have := hW i hi
      rw [if_neg (by omega)] at this
      exact this
    have cl := c_lookD (s := s) hC hn h0 b7
    rcases (show s = 0 ∨ s = 1 ∨ s = 5 ∨ s = 6 ∨ (2 ≤ s ∧ s ≤ 4) by omega) with h | h | h | h | h
    · subst h
      obtain ⟨σ1, μ1, k, e1, e2, e3⟩ := lk_8D (j := 10) (md := 0) (by omega) hC hM7 hn h0 hwb mm hset k10
      refine ⟨σ1, μ1, k, ?_, ?_, lk_gen (by omega) fm h27 h28 ⟨_, h29⟩ ⟨_, h30⟩ h31 hsh hbg hsw s5 e3⟩
      · rw [cl]
        unfold fv_decode
        rw [b5]
        simp (disch := omega) only [lit, eqT, if_true, e1, bd_some]
      · rw [hl]
        unfold rdisp
        simp (disch := omega) only [lit, leF, eqT, if_true, if_false, e2, bd_some]
    · subst h
      obtain ⟨σ1, μ1, k, e1, e2, e3⟩ := lk_8D (j := 11) (md := 1) (by omega) hC hM7 hn h0 hwb mm hset k11
      refine ⟨σ1, μ1, k, ?_, ?_, lk_gen (by omega) fm h27 h28 ⟨_, h29⟩ ⟨_, h30⟩ h31 hsh hbg hsw s5 e3⟩
      · rw [cl]
        unfold fv_decode
        rw [b5]
        simp (disch := omega) only [lit, eqT, eqF, if_true, if_false, e1, bd_some]
      · rw [hl]
        unfold rdisp
        simp (disch := omega) only [lit, leF, eqT, if_true, if_false, e2, bd_some]
    · subst h
      obtain ⟨⟨i1, i2, i3⟩, c0, c1, c2, c3⟩ := s7 rfl
      obtain ⟨σ1, μ1, k, e1, e2, e3, e4⟩ := lk_7D hC hM7 hn h0 hwb mm c0 c1 c2 c3 (by rw [g 18 (by omega) (by omega)]; exact m18) (by rw [g 19 (by omega) (by omega)]; exact m19) (by rw [g 20 (by omega) (by omega)]; exact m20) (by rw [g 21 (by omega) (by omega)]; exact m21) h27 h28 h29 h30 hsh hbg (i3 rfl).1 (i3 rfl).2 i1
      refine ⟨σ1, μ1, k, ?_, ?_, lk_7k fm h31 hsw e3 e4⟩
      · rw [cl]
        unfold fv_decode
        rw [b5]
        simp (disch := omega) only [lit, eqT, eqF, if_true, if_false, e1, bd_some]
      · rw [hl]
        unfold rdisp
        simp (disch := omega) only [lit, leT, eqT, if_true, e2, bd_some]
    · subst h
      obtain ⟨σ1, μ1, k, e1, e2, e3⟩ := lk_pageD hC hM7 hn h0 (hwb 0 h0) hPG mm
      refine ⟨σ1, μ1, k, ?_, ?_, lk_gen (by omega) fm h27 h28 ⟨_, h29⟩ ⟨_, h30⟩ h31 hsh hbg hsw s5 e3⟩
      · rw [cl]
        unfold fv_decode
        rw [b5]
        simp (disch := omega) only [lit, eqT, eqF, if_true, if_false, e1, bd_some]
      · rw [hl]
        unfold rdisp
        simp (disch := omega) only [lit, leT, eqT, eqF, if_true, if_false, e2, bd_some]
    · obtain ⟨q2, q3, q4⟩ := s16 h.1 h.2
      have hmk : σ (s + 10) 0 = nI (if s = 2 then 1 else 0) := by
        rcases (show s = 2 ∨ s = 3 ∨ s = 4 by omega) with e | e | e
        · subst e; exact k12
        · subst e; exact k13
        · subst e; exact k14
      obtain ⟨σ1, μ1, k, e1, e2, e3⟩ := lk_16D (j := s + 10) rfl h.1 h.2 hC hM7 hn h0 hwb mm hset hmk q2 (by rw [g 15 (by omega) (by omega)]; exact m15) hf1 htk (fun e => (s2 e).2 rfl) hsw q3 (by rw [g 17 (by omega) (by omega)]; exact m17) h31
      refine ⟨σ1, μ1, k, ?_, ?_, lk_16Dk h fm h27 h28 ⟨_, h29⟩ ⟨_, h30⟩ hsh hbg s5 e3⟩
      · rw [cl]
        unfold fv_decode
        rw [b5]
        rcases (show s = 2 ∨ s = 3 ∨ s = 4 by omega) with e | e | e
        · subst e
          simp (disch := omega) only [lit, eqT, eqF, if_true, if_false]
          rw [e1, bd_some]
        · subst e
          simp (disch := omega) only [lit, eqT, eqF, if_true, if_false]
          rw [e1, bd_some]
        · subst e
          simp (disch := omega) only [lit, eqT, eqF, if_true, if_false]
          rw [e1, bd_some]
      · rw [hl]
        unfold rdisp
        simp (disch := omega) only [lit, leT, leF, eqT, if_true, if_false, e2, bd_some]
  · subst he
    have hwb : ∀ i, i < n → W i < 65536 := fun i hi => by
      have := hW i hi
      rw [if_pos rfl] at this
      exact this
    have cl := c_lookE hC hn h0 b7
    rcases (show s = 0 ∨ s = 1 ∨ s = 5 ∨ s = 6 ∨ (2 ≤ s ∧ s ≤ 4) by omega) with h | h | h | h | h
    · subst h
      obtain ⟨σ1, μ1, k, e1, e2, e3⟩ := lk_8E (j := 10) (md := 0) rfl (by omega) hC hM7 hn h0 hwb mm hset k10
      refine ⟨σ1, μ1, k, ?_, ?_, lk_gen (by omega) fm h27 h28 ⟨_, h29⟩ ⟨_, h30⟩ h31 hsh hbg hsw s5 e3⟩
      · rw [cl]
        unfold fv_encode
        rw [b5]
        simp (disch := omega) only [lit, eqT, if_true, e1, bd_some]
      · rw [hl]
        unfold rdisp
        simp (disch := omega) only [lit, leF, eqF, if_false, e2, bd_some]
    · subst h
      obtain ⟨σ1, μ1, k, e1, e2, e3⟩ := lk_8E (j := 11) (md := 1) rfl (by omega) hC hM7 hn h0 hwb mm hset k11
      refine ⟨σ1, μ1, k, ?_, ?_, lk_gen (by omega) fm h27 h28 ⟨_, h29⟩ ⟨_, h30⟩ h31 hsh hbg hsw s5 e3⟩
      · rw [cl]
        unfold fv_encode
        rw [b5]
        simp (disch := omega) only [lit, eqT, eqF, if_true, if_false, e1, bd_some]
      · rw [hl]
        unfold rdisp
        simp (disch := omega) only [lit, leF, eqF, if_false, e2, bd_some]
    · subst h
      obtain ⟨⟨i1, i2, i3⟩, c0, c1, c2, c3⟩ := s7 rfl
      have hb0 := (i2 rfl).2
      rw [hb0] at c1 h28
      obtain ⟨σ1, μ1, e1, e2, e3⟩ := lk_7E hC hM7 hn h0 hwb mm c0 c1 c2 c3 (by rw [g 18 (by omega) (by omega)]; exact m18) (by rw [g 20 (by omega) (by omega)]; exact m20) (by rw [g 21 (by omega) (by omega)]; exact m21) h27 h28 h29 h30 hsh (i2 rfl).1 i1
      refine ⟨σ1, μ1, nI 0, ?_, ?_, lk_7k fm h31 hsw e3 (Or.inl rfl)⟩
      · rw [cl]
        unfold fv_encode
        rw [b5]
        simp (disch := omega) only [lit, eqT, eqF, if_true, if_false, e1, bd_some]
      · rw [hl]
        unfold rdisp
        simp (disch := omega) only [lit, leT, eqT, eqF, if_true, if_false, e2, bd_some]
    · subst h
      obtain ⟨σ1, μ1, k, e1, e2, e3⟩ := lk_pageE hC hM7 hn h0 hwb hPG mm
      refine ⟨σ1, μ1, k, ?_, ?_, lk_gen (by omega) fm h27 h28 ⟨_, h29⟩ ⟨_, h30⟩ h31 hsh hbg hsw s5 e3⟩
      · rw [cl]
        unfold fv_encode
        rw [b5]
        simp (disch := omega) only [lit, eqT, eqF, if_true, if_false, e1, bd_some]
      · rw [hl]
        unfold rdisp
        simp (disch := omega) only [lit, leT, eqF, if_true, if_false, e2, bd_some]
    · obtain ⟨q2, q3, q4⟩ := s16 h.1 h.2
      obtain ⟨q4, q5⟩ := q4 rfl
      have hmk : σ (s + 10) 0 = nI (if s = 2 then 1 else 0) := by
        rcases (show s = 2 ∨ s = 3 ∨ s = 4 by omega) with e | e | e
        · subst e; exact k12
        · subst e; exact k13
        · subst e; exact k14
      rw [q4] at q3 h31
      obtain ⟨σ1, μ1, k, e1, e2, e3, e4, e5⟩ := lk_16E (j := s + 10) (w := 0) rfl h.1 h.2 hC hM7 hn h0 hwb mm hset hmk q2 (by rw [g 16 (by omega) (by omega)]; exact m16) hf1 hgv (fun e => (s2 e).1 rfl) q3 q5 h31
      refine ⟨σ1, μ1, k, ?_, ?_, lk_16Ek h fm h27 h28 ⟨_, h29⟩ ⟨_, h30⟩ h31 hsh hbg s5 m16 hgv q5 e3 e4 e5⟩
      · rw [cl]
        unfold fv_encode
        rw [b5]
        rcases (show s = 2 ∨ s = 3 ∨ s = 4 by omega) with e | e | e
        · subst e
          simp (disch := omega) only [lit, eqT, eqF, if_true, if_false]
          rw [e1, bd_some]
        · subst e
          simp (disch := omega) only [lit, eqT, eqF, if_true, if_false]
          rw [e1, bd_some]
        · subst e
          simp (disch := omega) only [lit, eqT, eqF, if_true, if_false]
          rw [e1, bd_some]
      · rw [hl]
        unfold rdisp
        simp (disch := omega) only [lit, leT, leF, eqF, if_true, if_false, e2, bd_some]
