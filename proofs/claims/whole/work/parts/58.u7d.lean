/-! ===== set 5: UTF-7, decoding ===== -/
theorem kV6 {K B v : Nat} (hK : K < 2 ^ B) (hv : v < 64) : K * 64 + v < 2 ^ (B + 6) := by
  rw [Nat.pow_add]
  generalize 2 ^ B = X at *
  omega
/-- a fault of one unit -/
theorem lk_7bad {σ σa μ : St} {n : Nat} (h0 : 0 < n) (fa : FC σ σa) (ed1 : fX7_decode σ = bd (fX1_setBad σa (nI 1)) (fun _ σ16 => some (nI 0, σ16))) (er1 : fX10_decodeSeven μ = bd (fX10_fault μ (nI 2) (nI 1)) (fun v37 σ38 => some (v37, σ38))) : ∃ σ1 μ1 k, fX7_decode σ = some (nI 0, σ1) ∧ fX10_decodeSeven μ = some (k, μ1) ∧ LR σ σ1 μ μ1 n k (NX7 0 σ1 μ μ1) False ∧ (k = nI 0 ∨ k = nI 2) := by
  obtain ⟨σ1, s1, m1, f1⟩ := mv_bad σa 1
  obtain ⟨μ1, g1, n1, r1⟩ := mm_fault μ 2 1
  exact ⟨σ1, μ1, nI 2, by rw [ed1, s1, bd_some], by rw [er1, g1, bd_some], lr_fault (fa.tr f1.fc) (Or.inl rfl) m1 FM.rf n1 r1 (by omega) (by omega), Or.inr rfl⟩
/-- the end of a shift: both are plain now -/
theorem lk_7fin {σ σz μ μs : St} {n : Nat} {us : List Nat} (h0 : 0 < n) (mz : Mv σz 1 1 us) (hl : us.length ≤ 4) (fz : F7 σ σz) (z17 : ∀ k, k < 4 → σz 17 k = nI 0) (ms : Mm μs us) (rs : FR μ μs) (ec : fX7_decode σ = some (nI 0, σz)) (er : fX10_decodeSeven μ = fX10_decodeSeven_b241 μs) : ∃ σ1 μ1 k, fX7_decode σ = some (nI 0, σ1) ∧ fX10_decodeSeven μ = some (k, μ1) ∧ LR σ σ1 μ μ1 n k (NX7 0 σ1 μ μ1) False ∧ (k = nI 0 ∨ k = nI 2) := by
  obtain ⟨μx, hx⟩ : ∃ z, z = up (up (up (up μs 0 27 (nI 0)) 0 28 (nI 0)) 0 29 (nI 0)) 0 30 (nI 0) := ⟨_, rfl⟩
  obtain ⟨μ3, g3, n3, t3⟩ := mm_step μx 1
  have fx : FM μ μx := by
    rw [hx]
    exact rs.fm.tr ((FM.up (by omega) (by omega)).tr ((FM.up (by omega) (by omega)).tr ((FM.up (by omega) (by omega)).tr (FM.up (by omega) (by omega)))))
  have mx : Mm μx us := by
    rw [hx]
    exact (((ms.up (by omega)).up (by omega)).up (by omega)).up (by omega)
  refine ⟨σz, μ3, nI 0, ec, ?_, lr_s7 fz.fc mz mx fx hl n3 t3 h0 ⟨?_, 0, 0, 0, 0, by omega, by omega, by decide, fun h => by omega, fun _ => ⟨by omega, fun _ => rfl⟩, z17 0 (by omega), z17 1 (by omega), z17 2 (by omega), z17 3 (by omega), ?_, ?_, ?_, ?_⟩, Or.inl rfl⟩
  · rw [er]
    unfold fX10_decodeSeven_b241
    simp only [lit]
    rw [nm_def, nm_def, nm_def, nm_def, ← hx, g3, bd_some]
  · rw [t3.2 31 (by omega), hx, up_e2 (by omega), up_e2 (by omega), up_e2 (by omega), up_e2 (by omega), rs.2 31 (by omega)]
  · rw [t3.2 27 (by omega), hx, up_e2 (by omega), up_e2 (by omega), up_e2 (by omega), up_eq]
  · rw [t3.2 28 (by omega), hx, up_e2 (by omega), up_e2 (by omega), up_eq]
  · rw [t3.2 29 (by omega), hx, up_e2 (by omega), up_eq]
  · rw [t3.2 30 (by omega), hx, up_eq]
theorem lk_7D0 {σ μ : St} {n sh bg bt kp : Nat} {W : Nat → Nat} (hC : InC σ n W) (hM : InM μ n W) (hn : n ≤ 24) (h0 : 0 < n) (hw : ∀ i, i < n → W i < 256) (hm : Mm μ []) (c0 : σ 16 0 = nI sh) (c1 : σ 16 1 = nI bg) (c2 : σ 16 2 = nI kp) (c3 : σ 16 3 = nI bt) (r18 : μ 0 18 = nI sh) (r19 : μ 0 19 = nI bg) (r20 : μ 0 20 = nI bt) (r21 : μ 0 21 = nI kp) (r27 : μ 0 27 = nI sh) (r28 : μ 0 28 = nI bg) (r29 : μ 0 29 = nI bt) (r30 : μ 0 30 = nI kp) (hsh : sh ≤ 1) (hbg : bg ≤ 1) (hbt : bt < 16) (hbb : bg = 1 → bt = 0) (hkp : kp < 2 ^ bt) (hb : W 0 < 128) (hs : sh = 0) : ∃ σ1 μ1 k, fX7_decode σ = some (nI 0, σ1) ∧ fX10_decodeSeven μ = some (k, μ1) ∧ LR σ σ1 μ μ1 n k (NX7 0 σ1 μ μ1) False ∧ (k = nI 0 ∨ k = nI 2) := by
  have w0 := hw 0 h0
  have e0 := at_in (i := 0) hC h0 hn
  obtain ⟨σa, sa, a17, fa⟩ := c_copy (j := 17) (by omega) c0 hsh c1 hbg
  have a16 : σa 16 = σ 16 := fa 16 (by omega)
  have a160 : σa 16 0 = nI sh := by rw [a16]; exact c0
  have a161 : σa 16 1 = nI bg := by rw [a16]; exact c1
  have a162 : σa 16 2 = nI kp := by rw [a16]; exact c2
  have a163 : σa 16 3 = nI bt := by rw [a16]; exact c3
  rw [hs] at a160
  have q18 : μ 0 18 = nI 0 := by rw [r18, hs]
  obtain ⟨σb, sb, mb, fb⟩ := mv_step σa 1
  by_cases h43 : W 0 = 43
  · obtain ⟨σ2, s2, d0, d1, d2, d3, f2⟩ := c_shift 17 σb
    obtain ⟨μs, hμs⟩ : ∃ z, z = up (up (up (up μ 0 27 1) 0 28 1) 0 29 0) 0 30 0 := ⟨_, rfl⟩
    obtain ⟨μ3, g3, n3, t3⟩ := mm_step μs 1
    have fs : FM μ μs := by
      rw [hμs]
      exact (FM.up (by omega) (by omega)).tr ((FM.up (by omega) (by omega)).tr ((FM.up (by omega) (by omega)).tr (FM.up (by omega) (by omega))))
    have ms : Mm μs [] := by
      rw [hμs]
      exact (((hm.up (by omega)).up (by omega)).up (by omega)).up (by omega)
    refine ⟨σ2, μ3, nI 0, ?_, ?_, lr_s7 ((fa.f7.tr fb.f7).tr f2.f7).fc (mb.fj f2) ms fs (by simp) n3 t3 h0 ⟨?_, 1, 1, 0, 0, by omega, by omega, by decide, fun h => by omega, fun _ => ⟨by omega, fun _ => rfl⟩, d0, d1, d2, d3, ?_, ?_, ?_, ?_⟩, Or.inl rfl⟩
    · unfold fX7_decode fX7_decodePlain
      simp (disch := omega) only [lit, e0, bd_some, sa, ltT, if_true, a160, eqT, sb, s2]
    · unfold fX10_decodeSeven
      simp only [lit] at hμs
      simp (disch := omega) only [lit, ldM hM h0 hn, ltT, if_true, q18, eqT, nm_def, ← hμs, g3, bd_some]
    · rw [t3.2 31 (by omega), hμs, up_e2 (by omega), up_e2 (by omega), up_e2 (by omega), up_e2 (by omega)]
    · rw [t3.2 27 (by omega), hμs, up_e2 (by omega), up_e2 (by omega), up_e2 (by omega), up_eq]; rfl
    · rw [t3.2 28 (by omega), hμs, up_e2 (by omega), up_e2 (by omega), up_eq]; rfl
    · rw [t3.2 29 (by omega), hμs, up_e2 (by omega), up_eq]; rfl
    · rw [t3.2 30 (by omega), hμs, up_eq]; rfl
  · obtain ⟨σ2, s2, m2, f2⟩ := mv_add mb (by simp) (W 0)
    obtain ⟨μ2, g2, n2, t2⟩ := mm_add hm (by simp) (W 0)
    obtain ⟨μ3, g3, n3, t3⟩ := mm_step μ2 1
    have e17 : ∀ k, k < 4 → σ2 17 k = σ 16 k := fun k hk => by rw [(fb.tr f2) 17 (by omega) (by omega)]; exact a17 k hk
    refine ⟨σ2, μ3, nI 0, ?_, ?_, lr_s7 ((fa.f7.tr fb.f7).tr f2.f7).fc m2 n2 t2.fm (by simp) n3 t3 h0 ⟨?_, sh, bg, bt, kp, hsh, hbg, hkp, fun h => by omega, fun _ => ⟨hbt, hbb⟩, ?_, ?_, ?_, ?_, ?_, ?_, ?_, ?_⟩, Or.inl rfl⟩
    · unfold fX7_decode fX7_decodePlain
      simp (disch := omega) only [lit, e0, bd_some, sa, ltT, if_true, a160, eqT, eqF, if_false, sb, s2]
    · unfold fX10_decodeSeven
      simp (disch := omega) only [lit, ldM hM h0 hn, ltT, if_true, q18, eqT, eqF, if_false, g2, g3, bd_some]
    · rw [t3.2 31 (by omega), t2.2 31 (by omega)]
    · rw [e17 0 (by omega)]; exact c0
    · rw [e17 1 (by omega)]; exact c1
    · rw [e17 2 (by omega)]; exact c2
    · rw [e17 3 (by omega)]; exact c3
    · rw [t3.2 27 (by omega), t2.2 27 (by omega)]; exact r27
    · rw [t3.2 28 (by omega), t2.2 28 (by omega)]; exact r28
    · rw [t3.2 29 (by omega), t2.2 29 (by omega)]; exact r29
    · rw [t3.2 30 (by omega), t2.2 30 (by omega)]; exact r30
theorem lk_7D1 {σ μ : St} {n sh bg bt kp : Nat} {W : Nat → Nat} (hC : InC σ n W) (hM : InM μ n W) (hn : n ≤ 24) (h0 : 0 < n) (hw : ∀ i, i < n → W i < 256) (hm : Mm μ []) (c0 : σ 16 0 = nI sh) (c1 : σ 16 1 = nI bg) (c2 : σ 16 2 = nI kp) (c3 : σ 16 3 = nI bt) (r18 : μ 0 18 = nI sh) (r19 : μ 0 19 = nI bg) (r20 : μ 0 20 = nI bt) (r21 : μ 0 21 = nI kp) (r27 : μ 0 27 = nI sh) (r28 : μ 0 28 = nI bg) (r29 : μ 0 29 = nI bt) (r30 : μ 0 30 = nI kp) (hsh : sh ≤ 1) (hbg : bg ≤ 1) (hbt : bt < 16) (hbb : bg = 1 → bt = 0) (hkp : kp < 2 ^ bt) (hb : W 0 < 128) (hs : sh = 1) (h64 : sv7 (W 0) < 64) : ∃ σ1 μ1 k, fX7_decode σ = some (nI 0, σ1) ∧ fX10_decodeSeven μ = some (k, μ1) ∧ LR σ σ1 μ μ1 n k (NX7 0 σ1 μ μ1) False ∧ (k = nI 0 ∨ k = nI 2) := by
  have w0 := hw 0 h0
  have e0 := at_in (i := 0) hC h0 hn
  obtain ⟨σa, sa, a17, fa⟩ := c_copy (j := 17) (by omega) c0 hsh c1 hbg
  have a16 : σa 16 = σ 16 := fa 16 (by omega)
  have a160 : σa 16 0 = nI sh := by rw [a16]; exact c0
  have a161 : σa 16 1 = nI bg := by rw [a16]; exact c1
  have a162 : σa 16 2 = nI kp := by rw [a16]; exact c2
  have a163 : σa 16 3 = nI bt := by rw [a16]; exact c3
  rw [hs] at a160
  have q18 : μ 0 18 = nI 1 := by rw [r18, hs]
  have hv := c_val σa hb
  have hv2 := r_six μ hb
  have hsv : svI (W 0) = nI (sv7 (W 0)) := if_pos h64
  rw [hsv] at hv hv2
  generalize sv7 (W 0) = v at *
  have hp15 : 2 ^ bt ≤ 32768 := Nat.le_trans (Nat.pow_le_pow_right (by omega) (show bt ≤ 15 by omega)) (by decide)
  have hV := kV6 hkp h64
  obtain ⟨σb, sb, mb, fb⟩ := mv_step σa 1
  have b17 : ∀ k, k < 4 → σb 17 k = σ 16 k := fun k hk => by rw [fb 17 (by omega) (by omega)]; exact a17 k hk
  obtain ⟨σ2, s2, d0, d1, d2, d3, f2⟩ := c_keep (σ := σb) (V := kp) (N := bt) (j := 17) (p := 6) (x := v) (by rw [b17 2 (by omega)]; exact c2) (by rw [b17 3 (by omega)]; exact c3) (by omega) h64 (by omega)
  have d2 : σ2 17 2 = nI (kp * 64 + v) := d2
  have d0 : σ2 17 0 = nI 1 := by rw [d0, b17 0 (by omega), c0, hs]
  obtain ⟨μs, hμs⟩ : ∃ z, z = up (up (up μ 0 28 (nI 0)) 0 29 (nI (bt + 6))) 0 30 (nI (64 * kp + v)) := ⟨_, rfl⟩
  have fs : FM μ μs := by
    rw [hμs]
    exact (FM.up (by omega) (by omega)).tr ((FM.up (by omega) (by omega)).tr (FM.up (by omega) (by omega)))
  have ms : Mm μs [] := by
    rw [hμs]
    exact ((hm.up (by omega)).up (by omega)).up (by omega)
  have s27 : μs 0 27 = nI 1 := by rw [hμs, up_e2 (by omega), up_e2 (by omega), up_e2 (by omega), r27, hs]
  have s28 : μs 0 28 = nI 0 := by rw [hμs, up_e2 (by omega), up_e2 (by omega), up_eq]
  have s29 : μs 0 29 = nI (bt + 6) := by rw [hμs, up_e2 (by omega), up_eq]
  have s30 : μs 0 30 = nI (kp * 64 + v) := by rw [hμs, up_eq, Nat.mul_comm]
  have s31 : μs 0 31 = μ 0 31 := by rw [hμs, up_e2 (by omega), up_e2 (by omega), up_e2 (by omega)]
  have er : fX10_decodeSeven μ = (if nI (bt + 6) < nI 16 then bd (fX10_step μs (nI 1)) (fun v19 σ20 => some (v19, σ20)) else nm (up μs 0 29 (nI (bt + 6) - nI 16)) (fun σ21 => bd (fX10_result σ21 ((σ21 0 30) >>> ((σ21 0 29) &&& nI 31))) (fun _ σ23 => nm (up σ23 0 30 ((σ23 0 30) &&& ((nI 1 <<< ((σ23 0 29) &&& nI 31)) - nI 1))) (fun σ24 => bd (fX10_step σ24 (nI 1)) (fun v25 σ26 => some (v25, σ26)))))) := by
    unfold fX10_decodeSeven
    have u20 : ∀ x, (up μ 0 28 x) 0 20 = nI bt := fun x => by rw [up_e2 (by omega)]; exact r20
    have u21 : ∀ x y, (up (up μ 0 28 x) 0 29 y) 0 21 = nI kp := fun x y => by rw [up_e2 (by omega), up_e2 (by omega)]; exact r21
    simp (disch := omega) only [lit, ldM hM h0 hn, ltT, if_true, q18, eqF, if_false, hv2, bd_some, nm_def, u20, u21, mulN, addN]
    rw [if_neg (by rw [show (nI v < nI 0) = False from ltF (by omega) (by omega)]; exact id)]
    rw [← hμs, s29]
  by_cases h16 : bt + 6 < 16
  · obtain ⟨μ3, g3, n3, t3⟩ := mm_step μs 1
    refine ⟨σ2, μ3, nI 0, ?_, ?_, lr_s7 ((fa.f7.tr fb.f7).tr f2.f7).fc (mb.fj f2) ms fs (by simp) n3 t3 h0 ⟨?_, 1, 0, bt + 6, kp * 64 + v, by omega, by omega, hV, fun h => by omega, fun _ => ⟨by omega, fun h => by omega⟩, d0, d1, d2, d3, ?_, ?_, ?_, ?_⟩, Or.inl rfl⟩
    · unfold fX7_decode fX7_decodeSign
      simp (disch := omega) only [lit, e0, bd_some, sa, ltT, if_true, a160, eqF, if_false, hv, ltF, sb, s2, d3]
    · rw [er, if_pos (nI_lt h16 (by omega)), g3, bd_some]
    · rw [t3.2 31 (by omega)]; exact s31
    · rw [t3.2 27 (by omega)]; exact s27
    · rw [t3.2 28 (by omega)]; exact s28
    · rw [t3.2 29 (by omega)]; exact s29
    · rw [t3.2 30 (by omega)]; exact s30
  · obtain ⟨σ3, s3, x0, x1, x2, x3, f3⟩ := c_rem (p := 16) d2 d3 (by omega) (by omega) (by omega)
    obtain ⟨σ4, s4, m4, f4⟩ := mv_add ((mb.fj f2).fj f3) (by simp) ((kp * 64 + v) / 2 ^ (bt + 6 - 16))
    obtain ⟨μa, hμa⟩ : ∃ z, z = up μs 0 29 (nI (bt + 6 - 16)) := ⟨_, rfl⟩
    have ma : Mm μa [] := by rw [hμa]; exact ms.up (by omega)
    have ua29 : μa 0 29 = nI (bt + 6 - 16) := by rw [hμa, up_eq]
    have ua30 : μa 0 30 = nI (kp * 64 + v) := by rw [hμa, up_e2 (by omega)]; exact s30
    obtain ⟨μb, g1, n1, t1⟩ := mm_add ma (by simp) ((kp * 64 + v) / 2 ^ (bt + 6 - 16))
    obtain ⟨μc, hμc⟩ : ∃ z, z = up μb 0 30 (nI ((kp * 64 + v) % 2 ^ (bt + 6 - 16))) := ⟨_, rfl⟩
    obtain ⟨μ3, g3, n3, t3⟩ := mm_step μc 1
    have mc : Mm μc ([] ++ [(kp * 64 + v) / 2 ^ (bt + 6 - 16)]) := by rw [hμc]; exact n1.up (by omega)
    have fc : FM μ μc := by
      rw [hμc]
      refine (fs.tr ?_).tr (FM.tr t1.fm (FM.up (by omega) (by omega)))
      rw [hμa]
      exact FM.up (by omega) (by omega)
    have hk : ∀ k, k ≠ 26 → k ≠ 29 → k ≠ 30 → μc 0 k = μs 0 k := fun k k1 k2 k3 => by rw [hμc, up_e2 k3, t1.2 k k1, hμa, up_e2 k2]
    have e17 : ∀ k, σ4 17 k = σ3 17 k := fun k => by rw [f4 17 (by omega) (by omega)]
    have es : nI (kp * 64 + v) >>> (nI (bt + 6 - 16) &&& nI 31) = nI ((kp * 64 + v) / 2 ^ (bt + 6 - 16)) := shrN (by omega) (by omega)
    have em := mask (q := bt + 6 - 16) (a := kp * 64 + v) (by omega) (by omega)
    simp only [lit] at em
    refine ⟨σ4, μ3, nI 0, ?_, ?_, lr_s7 (((fa.f7.tr fb.f7).tr (f2.f7.tr f3.f7)).tr f4.f7).fc m4 mc fc (by simp) n3 t3 h0 ⟨?_, 1, 0, bt + 6 - 16, (kp * 64 + v) % 2 ^ (bt + 6 - 16), by omega, by omega, Nat.mod_lt _ (Nat.two_pow_pos _), fun h => by omega, fun _ => ⟨by omega, fun h => by omega⟩, ?_, ?_, ?_, ?_, ?_, ?_, ?_, ?_⟩, Or.inl rfl⟩
    · unfold fX7_decode fX7_decodeSign
      simp (disch := omega) only [lit, e0, bd_some, sa, ltT, if_true, a160, eqF, if_false, hv, ltF, sb, s2, d3, s3, s4]
    · rw [er, if_neg (nI_nlt (by omega) (by omega)), subN (by omega), nm_def, ← hμa, ua30, ua29, es, g1, bd_some, t1.2 30 (by omega), t1.2 29 (by omega), ua30, ua29, em, nm_def, ← hμc, g3, bd_some]
    · rw [t3.2 31 (by omega), hk 31 (by omega) (by omega) (by omega)]; exact s31
    · rw [e17, x0]; exact d0
    · rw [e17, x1]; exact d1
    · rw [e17]; exact x2
    · rw [e17]; exact x3
    · rw [t3.2 27 (by omega), hk 27 (by omega) (by omega) (by omega)]; exact s27
    · rw [t3.2 28 (by omega), hk 28 (by omega) (by omega) (by omega)]; exact s28
    · rw [t3.2 29 (by omega), hμc, up_e2 (by omega), t1.2 29 (by omega)]; exact ua29
    · rw [t3.2 30 (by omega), hμc, up_eq]
theorem lk_7D2 {σ μ : St} {n sh bg bt kp : Nat} {W : Nat → Nat} (hC : InC σ n W) (hM : InM μ n W) (hn : n ≤ 24) (h0 : 0 < n) (hw : ∀ i, i < n → W i < 256) (hm : Mm μ []) (c0 : σ 16 0 = nI sh) (c1 : σ 16 1 = nI bg) (c2 : σ 16 2 = nI kp) (c3 : σ 16 3 = nI bt) (r18 : μ 0 18 = nI sh) (r19 : μ 0 19 = nI bg) (r20 : μ 0 20 = nI bt) (r21 : μ 0 21 = nI kp) (r27 : μ 0 27 = nI sh) (r28 : μ 0 28 = nI bg) (r29 : μ 0 29 = nI bt) (r30 : μ 0 30 = nI kp) (hsh : sh ≤ 1) (hbg : bg ≤ 1) (hbt : bt < 16) (hbb : bg = 1 → bt = 0) (hkp : kp < 2 ^ bt) (hb : W 0 < 128) (hs : sh = 1) (h64 : ¬ sv7 (W 0) < 64) : ∃ σ1 μ1 k, fX7_decode σ = some (nI 0, σ1) ∧ fX10_decodeSeven μ = some (k, μ1) ∧ LR σ σ1 μ μ1 n k (NX7 0 σ1 μ μ1) False ∧ (k = nI 0 ∨ k = nI 2) := by
  have w0 := hw 0 h0
  have e0 := at_in (i := 0) hC h0 hn
  obtain ⟨σa, sa, a17, fa⟩ := c_copy (j := 17) (by omega) c0 hsh c1 hbg
  have a16 : σa 16 = σ 16 := fa 16 (by omega)
  have a160 : σa 16 0 = nI sh := by rw [a16]; exact c0
  have a161 : σa 16 1 = nI bg := by rw [a16]; exact c1
  have a162 : σa 16 2 = nI kp := by rw [a16]; exact c2
  have a163 : σa 16 3 = nI bt := by rw [a16]; exact c3
  rw [hs] at a160
  have q18 : μ 0 18 = nI 1 := by rw [r18, hs]
  have hv := c_val σa hb
  have hv2 := r_six μ hb
  have hsv : svI (W 0) = -nI 1 := if_neg h64
  rw [hsv] at hv hv2
  have hkb : kp < 2147483648 := Nat.lt_of_lt_of_le hkp (Nat.le_trans (Nat.pow_le_pow_right (by omega) (show bt ≤ 15 by omega)) (by decide))
  obtain ⟨y, hy⟩ : ∃ y : Nat, (W 0 = 45 ∧ y = 1) ∨ (W 0 ≠ 45 ∧ y = 0) := by
    by_cases h : W 0 = 45
    · exact ⟨1, Or.inl ⟨h, rfl⟩⟩
    · exact ⟨0, Or.inr ⟨h, rfl⟩⟩
  obtain ⟨z, hz⟩ : ∃ z : Nat, ((6 ≤ bt ∨ kp ≠ 0) ∧ z = 1) ∨ (¬ (6 ≤ bt ∨ kp ≠ 0) ∧ z = 0) := by
    by_cases h : 6 ≤ bt ∨ kp ≠ 0
    · exact ⟨1, Or.inl ⟨h, rfl⟩⟩
    · exact ⟨0, Or.inr ⟨h, rfl⟩⟩
  have hold : fX3_holdsRemains 16 σa = some (nI z, σa) := by
    unfold fX3_holdsRemains
    rcases hz with ⟨h, e⟩ | ⟨h, e⟩
    · rw [e]
      by_cases h6 : 6 ≤ bt
      · simp (disch := omega) only [lit, a163, leT, if_true]
      · simp (disch := omega) only [lit, a163, a162, leF, eqF, if_false]
    · rw [e]
      simp (disch := omega) only [lit, a163, a162, leF, eqT, if_true, if_false]
  have cE : fX7_decode σ = bd (fX7_decodeEnd_b11 σa (nI (W 0)) (nI y)) (fun _ σ8 => some (nI 0, σ8)) := by
    unfold fX7_decode fX7_decodeEnd
    rcases hy with ⟨h, e⟩ | ⟨h, e⟩
    · rw [e]
      simp (disch := omega) only [lit, e0, bd_some, sa, ltT, if_true, a160, eqF, eqT, if_false, hv, m1lt0]
    · rw [e]
      simp (disch := omega) only [lit, e0, bd_some, sa, ltT, if_true, a160, eqF, if_false, hv, m1lt0]
  have rE : fX10_decodeSeven μ = fX10_decodeSeven_b183 μ (nI (W 0)) (nI z) := by
    unfold fX10_decodeSeven fX10_decodeSeven_b178
    rcases hz with ⟨h, e⟩ | ⟨h, e⟩
    · rw [e]
      by_cases h6 : 6 ≤ bt
      · simp (disch := omega) only [lit, ldM hM h0 hn, ltT, if_true, q18, eqF, if_false, hv2, bd_some, m1lt0, r20, leT]
      · simp (disch := omega) only [lit, ldM hM h0 hn, ltT, if_true, q18, eqF, if_false, hv2, bd_some, m1lt0, r20, leF, r21]
    · rw [e]
      simp (disch := omega) only [lit, ldM hM h0 hn, ltT, if_true, q18, eqF, eqT, if_false, hv2, bd_some, m1lt0, r20, leF, r21]
  rcases (show bg = 1 ∨ bg = 0 by omega) with hb1 | hb1
  · have hbt0 := hbb hb1
    have hkp0 : kp = 0 := by
      rw [hbt0] at hkp
      simp only [Nat.pow_zero] at hkp
      omega
    have hz0 : z = 0 := by omega
    rw [hb1] at a161 r19
    rw [hz0] at hold rE
    rcases hy with ⟨h, e⟩ | ⟨h, e⟩
    · rw [e] at cE
      obtain ⟨σb, sb, mb, fb⟩ := mv_step σa 1
      obtain ⟨σc, sc, zc, fc⟩ := c_plain 17 σb
      obtain ⟨σd, sd, md, fd⟩ := mv_add (mb.fj fc) (by simp) 43
      obtain ⟨μ1, g1, n1, t1⟩ := mm_add hm (by simp) 43
      have c161 : σc 16 1 = nI 1 := by rw [fc 16 (by omega), fb 16 (by omega) (by omega)]; exact a161
      refine lk_7fin h0 md (by simp) ((fa.f7.tr fb.f7).tr (fc.f7.tr fd.f7)) (fun k hk => by rw [fd 17 (by omega) (by omega)]; exact zc k hk) n1 t1 ?_ ?_
      · rw [cE]
        unfold fX7_decodeEnd_b11 fX7_decodeEnd_b42
        simp (disch := omega) only [lit, hold, bd_some, eqT, eqF, if_true, if_false, a161, sb, sc, c161, sd]
      · rw [rE]
        unfold fX10_decodeSeven_b183 fX10_decodeSeven_b211 fX10_decodeSeven_b224 fX10_decodeSeven_b238
        simp (disch := omega) only [lit, r19, eqF, eqT, if_true, if_false, g1, bd_some]
    · rw [e] at cE
      refine lk_7bad h0 fa.f7.fc ?_ ?_
      · rw [cE]
        unfold fX7_decodeEnd_b11
        simp (disch := omega) only [lit, hold, bd_some, eqT, eqF, if_true, if_false, a161]
        cases fX1_setBad σa (nI 1) with
        | none => rfl
        | some q => rfl
      · rw [rE]
        unfold fX10_decodeSeven_b183
        simp (disch := omega) only [lit, r19, eqF, if_false]
  · rw [hb1] at a161 r19
    rcases hz with ⟨h1, e1⟩ | ⟨h1, e1⟩
    · rw [e1] at hold rE
      refine lk_7bad h0 fa.f7.fc ?_ ?_
      · rw [cE]
        unfold fX7_decodeEnd_b11
        simp (disch := omega) only [lit, hold, bd_some, eqF, if_false]
        cases fX1_setBad σa (nI 1) with
        | none => rfl
        | some q => rfl
      · rw [rE]
        unfold fX10_decodeSeven_b183
        simp (disch := omega) only [lit, r19, eqF, eqT, if_true, if_false]
    · rw [e1] at hold rE
      obtain ⟨σb, sb, mb, fb⟩ := mv_step σa 1
      obtain ⟨σc, sc, zc, fc⟩ := c_plain 17 σb
      have c161 : σc 16 1 = nI 0 := by rw [fc 16 (by omega), fb 16 (by omega) (by omega)]; exact a161
      rcases hy with ⟨h, e⟩ | ⟨h, e⟩
      · rw [e] at cE
        refine lk_7fin h0 (mb.fj fc) (by simp) ((fa.f7.tr fb.f7).tr fc.f7) zc hm FR.rf ?_ ?_
        · rw [cE]
          unfold fX7_decodeEnd_b11 fX7_decodeEnd_b42
          simp (disch := omega) only [lit, hold, bd_some, eqT, eqF, if_true, if_false, a161, sb, sc, c161]
        · rw [rE]
          unfold fX10_decodeSeven_b183 fX10_decodeSeven_b211
          simp (disch := omega) only [lit, r19, eqT, if_true]
      · rw [e] at cE
        obtain ⟨σd, sd, md, fd⟩ := mv_add (mb.fj fc) (by simp) (W 0)
        obtain ⟨μ1, g1, n1, t1⟩ := mm_add hm (by simp) (W 0)
        refine lk_7fin h0 md (by simp) ((fa.f7.tr fb.f7).tr (fc.f7.tr fd.f7)) (fun k hk => by rw [fd 17 (by omega) (by omega)]; exact zc k hk) n1 t1 ?_ ?_
        · rw [cE]
          unfold fX7_decodeEnd_b11 fX7_decodeEnd_b42
          simp (disch := omega) only [lit, hold, bd_some, eqT, if_true, a161, sb, sc, sd]
        · rw [rE]
          unfold fX10_decodeSeven_b183 fX10_decodeSeven_b211 fX10_decodeSeven_b224 fX10_decodeSeven_b238
          simp (disch := omega) only [lit, r19, eqF, eqT, if_true, if_false, g1, bd_some]
theorem lk_7D {σ μ : St} {n sh bg bt kp : Nat} {W : Nat → Nat} (hC : InC σ n W) (hM : InM μ n W) (hn : n ≤ 24) (h0 : 0 < n) (hw : ∀ i, i < n → W i < 256) (hm : Mm μ []) (c0 : σ 16 0 = nI sh) (c1 : σ 16 1 = nI bg) (c2 : σ 16 2 = nI kp) (c3 : σ 16 3 = nI bt) (r18 : μ 0 18 = nI sh) (r19 : μ 0 19 = nI bg) (r20 : μ 0 20 = nI bt) (r21 : μ 0 21 = nI kp) (r27 : μ 0 27 = nI sh) (r28 : μ 0 28 = nI bg) (r29 : μ 0 29 = nI bt) (r30 : μ 0 30 = nI kp) (hsh : sh ≤ 1) (hbg : bg ≤ 1) (hbt : bt < 16) (hbb : bg = 1 → bt = 0) (hkp : kp < 2 ^ bt) : ∃ σ1 μ1 k, fX7_decode σ = some (nI 0, σ1) ∧ fX10_decodeSeven μ = some (k, μ1) ∧ LR σ σ1 μ μ1 n k (NX7 0 σ1 μ μ1) False ∧ (k = nI 0 ∨ k = nI 2) := by
  have w0 := hw 0 h0
  have e0 := at_in (i := 0) hC h0 hn
  obtain ⟨σa, sa, a17, fa⟩ := c_copy (j := 17) (by omega) c0 hsh c1 hbg
  have a16 : σa 16 = σ 16 := fa 16 (by omega)
  have a160 : σa 16 0 = nI sh := by rw [a16]; exact c0
  have a161 : σa 16 1 = nI bg := by rw [a16]; exact c1
  have a162 : σa 16 2 = nI kp := by rw [a16]; exact c2
  have a163 : σa 16 3 = nI bt := by rw [a16]; exact c3
  by_cases hb : W 0 < 128
  · rcases (show sh = 0 ∨ sh = 1 by omega) with hs | hs
    · exact lk_7D0 hC hM hn h0 hw hm c0 c1 c2 c3 r18 r19 r20 r21 r27 r28 r29 r30 hsh hbg hbt hbb hkp hb hs
    · by_cases h64 : sv7 (W 0) < 64
      · exact lk_7D1 hC hM hn h0 hw hm c0 c1 c2 c3 r18 r19 r20 r21 r27 r28 r29 r30 hsh hbg hbt hbb hkp hb hs h64
      · exact lk_7D2 hC hM hn h0 hw hm c0 c1 c2 c3 r18 r19 r20 r21 r27 r28 r29 r30 hsh hbg hbt hbb hkp hb hs h64
  · -- a byte of 128 or more
    refine lk_7bad h0 fa.f7.fc ?_ ?_
    · unfold fX7_decode
      simp (disch := omega) only [lit, e0, bd_some, sa, ltF, if_false]
    · unfold fX10_decodeSeven
      simp (disch := omega) only [lit, ldM hM h0 hn, ltF, if_false]
