def fX9_isBelow (σ : St) (p0 p1 : Int32) : Option (Int32 × St) := (if p0 < 0 then some (0, σ) else (if p1 ≤ p0 then some (0, σ) else some (1, σ)))
set_option maxHeartbeats 4000000 in
set_option maxRecDepth 100000 in
theorem mX9_isBelow {l : Launch} {D : va_G} {kS vS : Nat → Nat} {ad : Nat → Nat} {cI cF : ClassId} {σ σ0 : St} {p0 p1 : Int32} {r : Int32} (hI : Inj ad 18) (hf : fX9_isBelow σ p0 p1 = some (r, σ0)) : MI l D (tyC cI cF) (inA ad 18) kS vS yX9_isBelow cX9_isBelow 2 .boolean 0 0 [.int p0, .int p1] (wC ad cI cF σ) (wC ad cI cF σ0) r := by
  refine MI.of (by decide) (Nat.le_of_ble_eq_true rfl) (fun p e s m args below meth c ls Q hQ C hr hlk hP hS hl => ?_)
  obtain ⟨hx, hb, hml, hown, hts, hK, hKS⟩ := id C
  have hl : lv_has ls 2 [(0, .int p0), (1, .int p1)] := hl
  unfold fX9_isBelow at hf
  refine lv_iload_n hx hb dX9_isBelow_0 rfl (lv_at hl 0 rfl) ?_
  refine lv_if_lt (tgt := 13) hx hb dX9_isBelow_1 (by decide) (fun hc => ?_) (fun hc => ?_)
  · have hf := ite_t hf hc
    refine lv_iconst (v := 0) hx hb dX9_isBelow_13 (by decide) ?_
    exact MI.ret (wf := wC ad cI cF) hQ C hr hlk rfl hf hP hS dX9_isBelow_14
  · have hf := ite_f hf hc
    refine lv_iload_n hx hb dX9_isBelow_4 rfl (lv_at hl 0 rfl) ?_
    refine lv_iload_n hx hb dX9_isBelow_5 rfl (lv_at hl 1 rfl) ?_
    refine lv_icmp_ge (tgt := 13) hx hb dX9_isBelow_6 (by decide) (fun hc => ?_) (fun hc => ?_)
    · have hf := ite_t hf hc
      refine lv_iconst (v := 0) hx hb dX9_isBelow_13 (by decide) ?_
      exact MI.ret (wf := wC ad cI cF) hQ C hr hlk rfl hf hP hS dX9_isBelow_14
    · have hf := ite_f hf hc
      refine lv_iconst (v := 1) hx hb dX9_isBelow_9 (by decide) ?_
      refine lv_goto (tgt := 14) hx hb dX9_isBelow_10 (by decide) ?_
      exact MI.ret (wf := wC ad cI cF) hQ C hr hlk rfl hf hP hS dX9_isBelow_14
def fX5_clear (j : Nat) (σ : St) : Option (Int32 × St) := nm (up σ j 1 0) (fun σ1 => some (0, σ1))
set_option maxHeartbeats 4000000 in
set_option maxRecDepth 100000 in
theorem mX5_clear {l : Launch} {D : va_G} {kS vS : Nat → Nat} {ad : Nat → Nat} {cI cF : ClassId} {j : Nat} {σ σ0 : St} {r : Int32} (hI : Inj ad 18) (hj : jX5 j) (hf : fX5_clear j σ  = some (r, σ0)) : MV l D (tyC cI cF) (inA ad 18) kS vS yX5_clear cX5_clear 1 0 0 [.ref (ad j)] (wC ad cI cF σ) (wC ad cI cF σ0) := by
  refine MV.of (by decide) (Nat.le_of_ble_eq_true rfl) (fun p e s m args below meth c ls Q hQ C hr hlk hP hS hl => ?_)
  obtain ⟨hx, hb, hml, hown, hts, hK, hKS⟩ := id C
  have hl : lv_has ls 1 [(0, .ref (ad j))] := hl
  unfold fX5_clear at hf
  refine lv_aload_n hx hb dX5_clear_0 rfl (lv_at hl 0 rfl) ?_
  refine lv_iconst (v := 0) hx hb dX5_clear_1 (by decide) ?_
  refine PX5_1 hI C hP hS hj gt1_52 rfl rfl dX5_clear_2 (fun σ1 eσ1 H locs hP hS => ?_)
  have hf := nm_at hf σ1 eσ1
  exact MV.ret (wf := wC ad cI cF) hQ C hr hlk hf hP hS dX5_clear_5
def fX0_begin (σ : St) : Option (Int32 × St) := some (0, σ)
set_option maxHeartbeats 4000000 in
set_option maxRecDepth 100000 in
theorem mX0_begin {l : Launch} {D : va_G} {kS vS : Nat → Nat} {ad : Nat → Nat} {cI cF : ClassId} {a : Nat} {σ σ0 : St} {r : Int32} (hI : Inj ad 18) (hf : fX0_begin σ  = some (r, σ0)) : MV l D (tyC cI cF) (inA ad 18) kS vS yX0_begin cX0_begin 1 0 0 [.ref a] (wC ad cI cF σ) (wC ad cI cF σ0) := by
  refine MV.of (by decide) (Nat.le_of_ble_eq_true rfl) (fun p e s m args below meth c ls Q hQ C hr hlk hP hS hl => ?_)
  obtain ⟨hx, hb, hml, hown, hts, hK, hKS⟩ := id C
  have hl : lv_has ls 1 [(0, .ref a)] := hl
  unfold fX0_begin at hf
  exact MV.ret (wf := wC ad cI cF) hQ C hr hlk hf hP hS dX0_begin_0
def fX6_begin (j : Nat) (σ : St) : Option (Int32 × St) := nm (up σ j 2 1) (fun σ1 => zk (σ1 j 1) (nm (up σ1 j 3 (σ1 j 1)) (fun σ2 => zk (σ2 j 1) (nm (up σ2 j 4 (σ2 j 1)) (fun σ3 => some (0, σ3))))))
set_option maxHeartbeats 4000000 in
set_option maxRecDepth 100000 in
theorem mX6_begin {l : Launch} {D : va_G} {kS vS : Nat → Nat} {ad : Nat → Nat} {cI cF : ClassId} {j : Nat} {σ σ0 : St} {r : Int32} (hI : Inj ad 18) (hj : jX6 j) (hf : fX6_begin j σ  = some (r, σ0)) : MV l D (tyC cI cF) (inA ad 18) kS vS yX6_begin cX6_begin 1 0 0 [.ref (ad j)] (wC ad cI cF σ) (wC ad cI cF σ0) := by
  refine MV.of (by decide) (Nat.le_of_ble_eq_true rfl) (fun p e s m args below meth c ls Q hQ C hr hlk hP hS hl => ?_)
  obtain ⟨hx, hb, hml, hown, hts, hK, hKS⟩ := id C
  have hl : lv_has ls 1 [(0, .ref (ad j))] := hl
  unfold fX6_begin at hf
  refine lv_aload_n hx hb dX6_begin_0 rfl (lv_at hl 0 rfl) ?_
  refine lv_iconst (v := 1) hx hb dX6_begin_1 (by decide) ?_
  refine PX6_2 hI C hP hS hj gt1_100 rfl rfl dX6_begin_2 (fun σ1 eσ1 H locs hP hS => ?_)
  have hf := nm_at hf σ1 eσ1
  refine lv_aload_n hx hb dX6_begin_5 rfl (lv_at hl 0 rfl) ?_
  refine lv_aload_n hx hb dX6_begin_6 rfl (lv_at hl 0 rfl) ?_
  refine GX6_1 C hP hj gt1_99 dX6_begin_7 ?_
  obtain ⟨hz, hf⟩ := zk_at hf
  refine PX6_3 hI C hP hS hj gt1_101 (zn hz) (zf hz) dX6_begin_10 (fun σ2 eσ2 H locs hP hS => ?_)
  have hf := nm_at hf σ2 eσ2
  refine lv_aload_n hx hb dX6_begin_13 rfl (lv_at hl 0 rfl) ?_
  refine lv_aload_n hx hb dX6_begin_14 rfl (lv_at hl 0 rfl) ?_
  refine GX6_1 C hP hj gt1_99 dX6_begin_15 ?_
  obtain ⟨hz, hf⟩ := zk_at hf
  refine PX6_4 hI C hP hS hj gt1_102 (zn hz) (zf hz) dX6_begin_18 (fun σ3 eσ3 H locs hP hS => ?_)
  have hf := nm_at hf σ3 eσ3
  exact MV.ret (wf := wC ad cI cF) hQ C hr hlk hf hP hS dX6_begin_21
def fX3_becomePlain (j : Nat) (σ : St) : Option (Int32 × St) := nm (up σ j 0 0) (fun σ1 => nm (up σ1 j 1 0) (fun σ2 => nm (up σ2 j 2 0) (fun σ3 => nm (up σ3 j 3 0) (fun σ4 => some (0, σ4)))))
set_option maxHeartbeats 4000000 in
set_option maxRecDepth 100000 in
theorem mX3_becomePlain {l : Launch} {D : va_G} {kS vS : Nat → Nat} {ad : Nat → Nat} {cI cF : ClassId} {j : Nat} {σ σ0 : St} {r : Int32} (hI : Inj ad 18) (hj : jX3 j) (hf : fX3_becomePlain j σ  = some (r, σ0)) : MV l D (tyC cI cF) (inA ad 18) kS vS yX3_becomePlain cX3_becomePlain 1 0 0 [.ref (ad j)] (wC ad cI cF σ) (wC ad cI cF σ0) := by
  refine MV.of (by decide) (Nat.le_of_ble_eq_true rfl) (fun p e s m args below meth c ls Q hQ C hr hlk hP hS hl => ?_)
  obtain ⟨hx, hb, hml, hown, hts, hK, hKS⟩ := id C
  have hl : lv_has ls 1 [(0, .ref (ad j))] := hl
  unfold fX3_becomePlain at hf
  refine lv_aload_n hx hb dX3_becomePlain_0 rfl (lv_at hl 0 rfl) ?_
  refine lv_iconst (v := 0) hx hb dX3_becomePlain_1 (by decide) ?_
  refine PX3_0 hI C hP hS hj gt1_126 rfl rfl dX3_becomePlain_2 (fun σ1 eσ1 H locs hP hS => ?_)
  have hf := nm_at hf σ1 eσ1
  refine lv_aload_n hx hb dX3_becomePlain_5 rfl (lv_at hl 0 rfl) ?_
  refine lv_iconst (v := 0) hx hb dX3_becomePlain_6 (by decide) ?_
  refine PX3_1 hI C hP hS hj gt1_128 rfl rfl dX3_becomePlain_7 (fun σ2 eσ2 H locs hP hS => ?_)
  have hf := nm_at hf σ2 eσ2
  refine lv_aload_n hx hb dX3_becomePlain_10 rfl (lv_at hl 0 rfl) ?_
  refine lv_iconst (v := 0) hx hb dX3_becomePlain_11 (by decide) ?_
  refine PX3_2 hI C hP hS hj gt1_130 rfl rfl dX3_becomePlain_12 (fun σ3 eσ3 H locs hP hS => ?_)
  have hf := nm_at hf σ3 eσ3
  refine lv_aload_n hx hb dX3_becomePlain_15 rfl (lv_at hl 0 rfl) ?_
  refine lv_iconst (v := 0) hx hb dX3_becomePlain_16 (by decide) ?_
  refine PX3_3 hI C hP hS hj gt1_132 rfl rfl dX3_becomePlain_17 (fun σ4 eσ4 H locs hP hS => ?_)
  have hf := nm_at hf σ4 eσ4
  exact MV.ret (wf := wC ad cI cF) hQ C hr hlk hf hP hS dX3_becomePlain_20
def fX7_begin (σ : St) : Option (Int32 × St) := bd (fX3_becomePlain 16 σ) (fun _ σ2 => some (0, σ2))
set_option maxHeartbeats 4000000 in
set_option maxRecDepth 100000 in
theorem mX7_begin {l : Launch} {D : va_G} {kS vS : Nat → Nat} {ad : Nat → Nat} {cI cF : ClassId} {σ σ0 : St} {r : Int32} (hI : Inj ad 18) (hf : fX7_begin σ  = some (r, σ0)) : MV l D (tyC cI cF) (inA ad 18) kS vS yX7_begin cX7_begin 1 1 20 [.ref (ad 15)] (wC ad cI cF σ) (wC ad cI cF σ0) := by
  refine MV.of (by decide) (Nat.le_of_ble_eq_true rfl) (fun p e s m args below meth c ls Q hQ C hr hlk hP hS hl => ?_)
  obtain ⟨hx, hb, hml, hown, hts, hK, hKS⟩ := id C
  have hl : lv_has ls 1 [(0, .ref (ad 15))] := hl
  unfold fX7_begin at hf
  refine lv_aload_n hx hb dX7_begin_0 rfl (lv_at hl 0 rfl) ?_
  refine GX7_0 C hP gt1_143 dX7_begin_1 ?_
  obtain ⟨v1, σ2, hc, hf⟩ := bd_at hf
  refine callVV (As := []) (rest := []) C (mX3_becomePlain (j := 16) hI (by decide) hc) ⟨gt1_221, gt1_222, gt1_223, gt1_10, gt1_224⟩ okX3_becomePlain ⟨Nat.le_of_ble_eq_true rfl, Nat.le_of_ble_eq_true rfl⟩ (rcvOf C hP (show (wC ad cI cF _)[16]? = some (ad 16, _) from rfl) rfl) rfl hl.1 rfl (Nat.le_of_ble_eq_true rfl) hP hS dX7_begin_4 (fun H locs hP hS => ?_)
  exact MV.ret (wf := wC ad cI cF) hQ C hr hlk hf hP hS dX7_begin_7
def fv_begin (σ : St) : Option (Int32 × St) := if σ 0 5 = 0 then fX0_begin σ else if σ 0 5 = 1 then fX0_begin σ else if σ 0 5 = 2 then fX6_begin 12 σ else if σ 0 5 = 3 then fX6_begin 13 σ else if σ 0 5 = 4 then fX6_begin 14 σ else if σ 0 5 = 5 then fX7_begin σ else if σ 0 5 = 6 then fX0_begin σ else none
set_option maxHeartbeats 4000000 in
set_option maxRecDepth 100000 in
theorem dv_begin {p : Program} {l : Launch} {e : Env} {R : Room} {s : State} {m : MethodId} {args : Array Value} {below : List Frame} {meth : Method} {c : Code} {H : Heap} {locs : List Loc} {Q : State → Prop} {cc : ByteArray} {pc nL : Nat} {ls : Array Slot} {rest : List Value} {D : va_G} {kS vS : Nat → Nat} {ad : Nat → Nat} {cI cF : ClassId} {σ σ0 : St} {r : Int32} (hI : Inj ad 18) (C : Cx p c cc nL s m args RX9 D (tyC cI cF) (inA ad 18) kS vS) (hf : fv_begin σ = some (r, σ0)) (hR : 2 ≤ R.frames ∧ 40 ≤ R.locals) (hls : ls.size = nL) (hcat : (rest.map fun v => v.category).sum ≤ 8) (hP : va_P D vwCl (wC ad cI cF σ) H) (hS : va_S (inA ad 18) s.heap H locs) (hd : decode cc pc = .ok (.invokevirtual 130, 3))
    (kk : ∀ (H1 : Heap) (locs1 : List Loc), va_P D vwCl (wC ad cI cF σ0) H1 → va_S (inA ad 18) s.heap H1 locs1 → W p l e R s m args below meth c H1 locs1 0 0 Q (F0 m (pc + 3) ls (rest))) : W p l e R s m args below meth c H locs 0 0 Q (F0 m pc ls (.ref (ad (fK (σ 0 5).toNatClampNeg)) :: rest)) := by
  obtain ⟨hx, hb, hml, hown, hts, hK, hKS⟩ := id C
  unfold fv_begin at hf
  by_cases h0 : σ 0 5 = 0
  · have hf := ite_t hf h0
    rw [h0]
    exact callUV (x := ⟨"ResumableCoder$Form", "begin", "()V"⟩) (C0 := RX8) (owner := "ResumableCoder$Form") (As := []) (rest := rest) C (mX0_begin hI (a := ad 10) hf) (va_cwU 0 hts (GT_in (in5 gt1_211 gt1_213 gt1_225 gt1_212 gt1_2 (cons_in gt1_226))) rfl rfl rfl rfl ⟨by decide, by decide, by decide +kernel⟩ ⟨Nat.le_trans (Nat.le_of_ble_eq_true rfl) hR.1, Nat.le_trans (Nat.le_of_ble_eq_true rfl) hR.2⟩) (rcvOf C hP (show (wC ad cI cF σ)[10]? = some (ad 10, _) from rfl) rfl) rfl hls rfl hcat hP hS hd kk
  have hf := ite_f hf h0
  by_cases h1 : σ 0 5 = 1
  · have hf := ite_t hf h1
    rw [h1]
    exact callUV (x := ⟨"ResumableCoder$Form", "begin", "()V"⟩) (C0 := RX8) (owner := "ResumableCoder$Form") (As := []) (rest := rest) C (mX0_begin hI (a := ad 11) hf) (va_cwU 0 hts (GT_in (in5 gt1_211 gt1_213 gt1_225 gt1_212 gt1_2 (cons_in gt1_226))) rfl rfl rfl rfl ⟨by decide, by decide, by decide +kernel⟩ ⟨Nat.le_trans (Nat.le_of_ble_eq_true rfl) hR.1, Nat.le_trans (Nat.le_of_ble_eq_true rfl) hR.2⟩) (rcvOf C hP (show (wC ad cI cF σ)[11]? = some (ad 11, _) from rfl) rfl) rfl hls rfl hcat hP hS hd kk
  have hf := ite_f hf h1
  by_cases h2 : σ 0 5 = 2
  · have hf := ite_t hf h2
    rw [h2]
    exact callUV (x := ⟨"ResumableCoder$Form", "begin", "()V"⟩) (C0 := RX6) (owner := "ResumableCoder$Form") (As := []) (rest := rest) C (mX6_begin (j := 12) hI (by decide) hf) (va_cwO 0 hts (GT_in (in6 gt1_211 gt1_213 gt1_212 gt1_215 gt1_216 gt1_8 (cons_in gt1_217))) rfl rfl rfl (by exact gt1_226) ⟨by decide, by decide, by decide +kernel⟩ ⟨Nat.le_trans (Nat.le_of_ble_eq_true rfl) hR.1, Nat.le_trans (Nat.le_of_ble_eq_true rfl) hR.2⟩) (rcvOf C hP (show (wC ad cI cF σ)[12]? = some (ad 12, _) from rfl) rfl) rfl hls rfl hcat hP hS hd kk
  have hf := ite_f hf h2
  by_cases h3 : σ 0 5 = 3
  · have hf := ite_t hf h3
    rw [h3]
    exact callUV (x := ⟨"ResumableCoder$Form", "begin", "()V"⟩) (C0 := RX6) (owner := "ResumableCoder$Form") (As := []) (rest := rest) C (mX6_begin (j := 13) hI (by decide) hf) (va_cwO 0 hts (GT_in (in6 gt1_211 gt1_213 gt1_212 gt1_215 gt1_216 gt1_8 (cons_in gt1_217))) rfl rfl rfl (by exact gt1_226) ⟨by decide, by decide, by decide +kernel⟩ ⟨Nat.le_trans (Nat.le_of_ble_eq_true rfl) hR.1, Nat.le_trans (Nat.le_of_ble_eq_true rfl) hR.2⟩) (rcvOf C hP (show (wC ad cI cF σ)[13]? = some (ad 13, _) from rfl) rfl) rfl hls rfl hcat hP hS hd kk
  have hf := ite_f hf h3
  by_cases h4 : σ 0 5 = 4
  · have hf := ite_t hf h4
    rw [h4]
    exact callUV (x := ⟨"ResumableCoder$Form", "begin", "()V"⟩) (C0 := RX6) (owner := "ResumableCoder$Form") (As := []) (rest := rest) C (mX6_begin (j := 14) hI (by decide) hf) (va_cwO 0 hts (GT_in (in6 gt1_211 gt1_213 gt1_212 gt1_215 gt1_216 gt1_8 (cons_in gt1_217))) rfl rfl rfl (by exact gt1_226) ⟨by decide, by decide, by decide +kernel⟩ ⟨Nat.le_trans (Nat.le_of_ble_eq_true rfl) hR.1, Nat.le_trans (Nat.le_of_ble_eq_true rfl) hR.2⟩) (rcvOf C hP (show (wC ad cI cF σ)[14]? = some (ad 14, _) from rfl) rfl) rfl hls rfl hcat hP hS hd kk
  have hf := ite_f hf h4
  by_cases h5 : σ 0 5 = 5
  · have hf := ite_t hf h5
    rw [h5]
    exact callUV (x := ⟨"ResumableCoder$Form", "begin", "()V"⟩) (C0 := RX7) (owner := "ResumableCoder$Form") (As := []) (rest := rest) C (mX7_begin hI hf) (va_cwO 0 hts (GT_in (in6 gt1_211 gt1_213 gt1_212 gt1_218 gt1_219 gt1_9 (cons_in gt1_220))) rfl rfl rfl (by exact gt1_226) ⟨by decide, by decide, by decide +kernel⟩ ⟨Nat.le_trans (Nat.le_of_ble_eq_true rfl) hR.1, Nat.le_trans (Nat.le_of_ble_eq_true rfl) hR.2⟩) (rcvOf C hP (show (wC ad cI cF σ)[15]? = some (ad 15, _) from rfl) rfl) rfl hls rfl hcat hP hS hd kk
  have hf := ite_f hf h5
  by_cases h6 : σ 0 5 = 6
  · have hf := ite_t hf h6
    rw [h6]
    exact callUV (x := ⟨"ResumableCoder$Form", "begin", "()V"⟩) (C0 := RX2) (owner := "ResumableCoder$Form") (As := []) (rest := rest) C (mX0_begin hI (a := ad 1) hf) (va_cwU 0 hts (GT_in (in5 gt1_211 gt1_213 gt1_214 gt1_212 gt1_2 (cons_in gt1_226))) rfl rfl rfl rfl ⟨by decide, by decide, by decide +kernel⟩ ⟨Nat.le_trans (Nat.le_of_ble_eq_true rfl) hR.1, Nat.le_trans (Nat.le_of_ble_eq_true rfl) hR.2⟩) (rcvOf C hP (show (wC ad cI cF σ)[1]? = some (ad 1, _) from rfl) rfl) rfl hls rfl hcat hP hS hd kk
  have hf := ite_f hf h6
  exact nomatch (show (none : Option (Int32 × St)) = some (r, σ0) from hf)
def fX9_startAfresh (σ : St) : Option (Int32 × St) := nm (up σ 0 6 0) (fun σ1 => nm (up σ1 0 14 0) (fun σ2 => bd (fv_begin σ2) (fun _ σ4 => some (0, σ4))))
set_option maxHeartbeats 4000000 in
set_option maxRecDepth 100000 in
theorem mX9_startAfresh {l : Launch} {D : va_G} {kS vS : Nat → Nat} {ad : Nat → Nat} {cI cF : ClassId} {σ σ0 : St} {r : Int32} (hI : Inj ad 18) (hf : fX9_startAfresh σ  = some (r, σ0)) : MV l D (tyC cI cF) (inA ad 18) kS vS yX9_startAfresh cX9_startAfresh 1 2 40 [.ref (ad 0)] (wC ad cI cF σ) (wC ad cI cF σ0) := by
  refine MV.of (by decide) (Nat.le_of_ble_eq_true rfl) (fun p e s m args below meth c ls Q hQ C hr hlk hP hS hl => ?_)
  obtain ⟨hx, hb, hml, hown, hts, hK, hKS⟩ := id C
  have hl : lv_has ls 1 [(0, .ref (ad 0))] := hl
  unfold fX9_startAfresh at hf
  refine lv_aload_n hx hb dX9_startAfresh_0 rfl (lv_at hl 0 rfl) ?_
  refine lv_iconst (v := 0) hx hb dX9_startAfresh_1 (by decide) ?_
  refine PX9_6 hI C hP hS gt1_156 rfl rfl dX9_startAfresh_2 (fun σ1 eσ1 H locs hP hS => ?_)
  have hf := nm_at hf σ1 eσ1
  refine lv_aload_n hx hb dX9_startAfresh_5 rfl (lv_at hl 0 rfl) ?_
  refine lv_iconst (v := 0) hx hb dX9_startAfresh_6 (by decide) ?_
  refine PX9_14 hI C hP hS gt1_164 rfl rfl dX9_startAfresh_7 (fun σ2 eσ2 H locs hP hS => ?_)
  have hf := nm_at hf σ2 eσ2
  refine lv_aload_n hx hb dX9_startAfresh_10 rfl (lv_at hl 0 rfl) ?_
  refine GX9_5 C hP gt1_155 dX9_startAfresh_11 ?_
  obtain ⟨v3, σ4, hc, hf⟩ := bd_at hf
  refine dv_begin (rest := []) hI C hc ⟨Nat.le_of_ble_eq_true rfl, Nat.le_of_ble_eq_true rfl⟩ hl.1 (Nat.le_of_ble_eq_true rfl) hP hS dX9_startAfresh_14 (fun H locs hP hS => ?_)
  exact MV.ret (wf := wC ad cI cF) hQ C hr hlk hf hP hS dX9_startAfresh_17
def fX9_open (σ : St) (p1 p2 p3 p4 : Int32) : Option (Int32 × St) := bd (fX9_isBelow σ p1 7) (fun v1 σ2 => (if v1 = 0 then some (0, σ2) else bd (fX9_isBelow σ2 p3 3) (fun v3 σ4 => (if v3 = 0 then some (0, σ4) else bd (fX9_isBelow σ4 p4 3) (fun v5 σ6 => (if v5 = 0 then some (0, σ6) else ck p1 7 (nm (up σ6 0 5 p1) (fun σ7 => zk p2 (nm (up σ7 0 7 p2) (fun σ8 => nm (up σ8 0 8 p3) (fun σ9 => nm (up σ9 0 9 p4) (fun σ10 => bd (fX5_clear 4 σ10) (fun _ σ12 => bd (fX5_clear 6 σ12) (fun _ σ14 => nm (up σ14 0 11 0) (fun σ15 => nm (up σ15 0 12 0) (fun σ16 => nm (up σ16 0 13 0) (fun σ17 => bd (fX9_startAfresh σ17) (fun _ σ19 => some (1, σ19)))))))))))))))))))
set_option maxHeartbeats 4000000 in
set_option maxRecDepth 100000 in
theorem mX9_open {l : Launch} {D : va_G} {kS vS : Nat → Nat} {ad : Nat → Nat} {cI cF : ClassId} {σ σ0 : St} {p1 p2 p3 p4 : Int32} {r : Int32} (hI : Inj ad 18) (hf : fX9_open σ p1 p2 p3 p4 = some (r, σ0)) : MI l D (tyC cI cF) (inA ad 18) kS vS yX9_open cX9_open 5 .boolean 3 60 [.ref (ad 0), .int p1, .int p2, .int p3, .int p4] (wC ad cI cF σ) (wC ad cI cF σ0) r := by
  refine MI.of (by decide) (Nat.le_of_ble_eq_true rfl) (fun p e s m args below meth c ls Q hQ C hr hlk hP hS hl => ?_)
  obtain ⟨hx, hb, hml, hown, hts, hK, hKS⟩ := id C
  have hl : lv_has ls 5 [(0, .ref (ad 0)), (1, .int p1), (2, .int p2), (3, .int p3), (4, .int p4)] := hl
  unfold fX9_open at hf
  refine lv_iload_n hx hb dX9_open_0 rfl (lv_at hl 1 rfl) ?_
  refine lv_bipush (v := 7) hx hb dX9_open_1 (by decide) ?_
  obtain ⟨v1, σ2, hc, hf⟩ := bd_at hf
  refine callSI (As := [.int p1, .int 7]) (rest := []) C (mX9_isBelow hI hc) ⟨gt1_200, gt1_201, gt1_1, gt1_202⟩ okX9_isBelow ⟨Nat.le_of_ble_eq_true rfl, Nat.le_of_ble_eq_true rfl⟩ rfl hl.1 rfl (Nat.le_of_ble_eq_true rfl) hP hS dX9_open_3 (fun H locs hP hS => ?_)
  refine lv_if_eq (tgt := 26) hx hb dX9_open_6 (by decide) (fun hc => ?_) (fun hc => ?_)
  · have hf := ite_t hf hc
    refine lv_iconst (v := 0) hx hb dX9_open_26 (by decide) ?_
    exact MI.ret (wf := wC ad cI cF) hQ C hr hlk rfl hf hP hS dX9_open_27
  · have hf := ite_f hf hc
    refine lv_iload_n hx hb dX9_open_9 rfl (lv_at hl 3 rfl) ?_
    refine lv_iconst (v := 3) hx hb dX9_open_10 (by decide) ?_
    obtain ⟨v3, σ4, hc, hf⟩ := bd_at hf
    refine callSI (As := [.int p3, .int 3]) (rest := []) C (mX9_isBelow hI hc) ⟨gt1_200, gt1_201, gt1_1, gt1_202⟩ okX9_isBelow ⟨Nat.le_of_ble_eq_true rfl, Nat.le_of_ble_eq_true rfl⟩ rfl hl.1 rfl (Nat.le_of_ble_eq_true rfl) hP hS dX9_open_11 (fun H locs hP hS => ?_)
    refine lv_if_eq (tgt := 26) hx hb dX9_open_14 (by decide) (fun hc => ?_) (fun hc => ?_)
    · have hf := ite_t hf hc
      refine lv_iconst (v := 0) hx hb dX9_open_26 (by decide) ?_
      exact MI.ret (wf := wC ad cI cF) hQ C hr hlk rfl hf hP hS dX9_open_27
    · have hf := ite_f hf hc
      refine lv_iload hx hb dX9_open_17 (lv_at hl 4 rfl) ?_
      refine lv_iconst (v := 3) hx hb dX9_open_19 (by decide) ?_
      obtain ⟨v5, σ6, hc, hf⟩ := bd_at hf
      refine callSI (As := [.int p4, .int 3]) (rest := []) C (mX9_isBelow hI hc) ⟨gt1_200, gt1_201, gt1_1, gt1_202⟩ okX9_isBelow ⟨Nat.le_of_ble_eq_true rfl, Nat.le_of_ble_eq_true rfl⟩ rfl hl.1 rfl (Nat.le_of_ble_eq_true rfl) hP hS dX9_open_20 (fun H locs hP hS => ?_)
      refine lv_if_ne (tgt := 28) hx hb dX9_open_23 (by decide) (fun hc => ?_) (fun hc => ?_)
      · have hf := ite_f hf hc
        refine lv_aload_n hx hb dX9_open_28 rfl (lv_at hl 0 rfl) ?_
        refine lv_aload_n hx hb dX9_open_29 rfl (lv_at hl 0 rfl) ?_
        refine GX9_1 C hP gt1_151 dX9_open_30 ?_
        refine lv_iload_n hx hb dX9_open_33 rfl (lv_at hl 1 rfl) ?_
        obtain ⟨hin, hf⟩ := ck_at hf
        refine faload C hP hin dX9_open_34 ?_
        refine PX9_5 hI C hP hS gt1_155 rfl rfl dX9_open_35 (fun σ7 eσ7 H locs hP hS => ?_)
        have hf := nm_at hf σ7 eσ7
        refine lv_aload_n hx hb dX9_open_38 rfl (lv_at hl 0 rfl) ?_
        refine lv_iload_n hx hb dX9_open_39 rfl (lv_at hl 2 rfl) ?_
        obtain ⟨hz, hf⟩ := zk_at hf
        refine PX9_7 hI C hP hS gt1_157 (zn hz) (zf hz) dX9_open_40 (fun σ8 eσ8 H locs hP hS => ?_)
        have hf := nm_at hf σ8 eσ8
        refine lv_aload_n hx hb dX9_open_43 rfl (lv_at hl 0 rfl) ?_
        refine lv_iload_n hx hb dX9_open_44 rfl (lv_at hl 3 rfl) ?_
        refine PX9_8 hI C hP hS gt1_158 rfl rfl dX9_open_45 (fun σ9 eσ9 H locs hP hS => ?_)
        have hf := nm_at hf σ9 eσ9
        refine lv_aload_n hx hb dX9_open_48 rfl (lv_at hl 0 rfl) ?_
        refine lv_iload hx hb dX9_open_49 (lv_at hl 4 rfl) ?_
        refine PX9_9 hI C hP hS gt1_159 rfl rfl dX9_open_51 (fun σ10 eσ10 H locs hP hS => ?_)
        have hf := nm_at hf σ10 eσ10
        refine lv_aload_n hx hb dX9_open_54 rfl (lv_at hl 0 rfl) ?_
        refine GX9_2 C hP gt1_152 dX9_open_55 ?_
        obtain ⟨v11, σ12, hc, hf⟩ := bd_at hf
        refine callVV (As := []) (rest := []) C (mX5_clear (j := 4) hI (by decide) hc) ⟨gt1_203, gt1_204, gt1_205, gt1_5, gt1_206⟩ okX5_clear ⟨Nat.le_of_ble_eq_true rfl, Nat.le_of_ble_eq_true rfl⟩ (rcvOf C hP (show (wC ad cI cF _)[4]? = some (ad 4, _) from rfl) rfl) rfl hl.1 rfl (Nat.le_of_ble_eq_true rfl) hP hS dX9_open_58 (fun H locs hP hS => ?_)
        refine lv_aload_n hx hb dX9_open_61 rfl (lv_at hl 0 rfl) ?_
        refine GX9_3 C hP gt1_153 dX9_open_62 ?_
        obtain ⟨v13, σ14, hc, hf⟩ := bd_at hf
        refine callVV (As := []) (rest := []) C (mX5_clear (j := 6) hI (by decide) hc) ⟨gt1_203, gt1_204, gt1_205, gt1_5, gt1_206⟩ okX5_clear ⟨Nat.le_of_ble_eq_true rfl, Nat.le_of_ble_eq_true rfl⟩ (rcvOf C hP (show (wC ad cI cF _)[6]? = some (ad 6, _) from rfl) rfl) rfl hl.1 rfl (Nat.le_of_ble_eq_true rfl) hP hS dX9_open_65 (fun H locs hP hS => ?_)
        refine lv_aload_n hx hb dX9_open_68 rfl (lv_at hl 0 rfl) ?_
        refine lv_iconst (v := 0) hx hb dX9_open_69 (by decide) ?_
        refine PX9_11 hI C hP hS gt1_161 rfl rfl dX9_open_70 (fun σ15 eσ15 H locs hP hS => ?_)
        have hf := nm_at hf σ15 eσ15
        refine lv_aload_n hx hb dX9_open_73 rfl (lv_at hl 0 rfl) ?_
        refine lv_iconst (v := 0) hx hb dX9_open_74 (by decide) ?_
        refine PX9_12 hI C hP hS gt1_162 rfl rfl dX9_open_75 (fun σ16 eσ16 H locs hP hS => ?_)
        have hf := nm_at hf σ16 eσ16
        refine lv_aload_n hx hb dX9_open_78 rfl (lv_at hl 0 rfl) ?_
        refine lv_iconst (v := 0) hx hb dX9_open_79 (by decide) ?_
        refine PX9_13 hI C hP hS gt1_163 rfl rfl dX9_open_80 (fun σ17 eσ17 H locs hP hS => ?_)
        have hf := nm_at hf σ17 eσ17
        refine lv_aload_n hx hb dX9_open_83 rfl (lv_at hl 0 rfl) ?_
        obtain ⟨v18, σ19, hc, hf⟩ := bd_at hf
        refine callVV (As := []) (rest := []) C (mX9_startAfresh hI hc) ⟨gt1_207, gt1_209, gtp0, gt1_1, gt1_210⟩ okX9_startAfresh ⟨Nat.le_of_ble_eq_true rfl, Nat.le_of_ble_eq_true rfl⟩ (rcvOf C hP (show (wC ad cI cF _)[0]? = some (ad 0, _) from rfl) rfl) rfl hl.1 rfl (Nat.le_of_ble_eq_true rfl) hP hS dX9_open_84 (fun H locs hP hS => ?_)
        refine lv_iconst (v := 1) hx hb dX9_open_87 (by decide) ?_
        exact MI.ret (wf := wC ad cI cF) hQ C hr hlk rfl hf hP hS dX9_open_88
      · have hf := ite_t hf hc
        refine lv_iconst (v := 0) hx hb dX9_open_26 (by decide) ?_
        exact MI.ret (wf := wC ad cI cF) hQ C hr hlk rfl hf hP hS dX9_open_27
def fX2_assign (σ : St) (p1 p2 : Int32) : Option (Int32 × St) := (if p1 < 128 then some (0, σ) else (if 256 ≤ p1 then some (0, σ) else sv σ 2 128 (p1 - 128) p2 (fun σ1 => some (0, σ1))))
set_option maxHeartbeats 4000000 in
set_option maxRecDepth 100000 in
theorem mX2_assign {l : Launch} {D : va_G} {kS vS : Nat → Nat} {ad : Nat → Nat} {cI cF : ClassId} {σ σ0 : St} {p1 p2 : Int32} {r : Int32} (hI : Inj ad 18) (hf : fX2_assign σ p1 p2 = some (r, σ0)) : MV l D (tyC cI cF) (inA ad 18) kS vS yX2_assign cX2_assign 3 0 0 [.ref (ad 1), .int p1, .int p2] (wC ad cI cF σ) (wC ad cI cF σ0) := by
  refine MV.of (by decide) (Nat.le_of_ble_eq_true rfl) (fun p e s m args below meth c ls Q hQ C hr hlk hP hS hl => ?_)
  obtain ⟨hx, hb, hml, hown, hts, hK, hKS⟩ := id C
  have hl : lv_has ls 3 [(0, .ref (ad 1)), (1, .int p1), (2, .int p2)] := hl
  unfold fX2_assign at hf
  refine lv_iload_n hx hb dX2_assign_0 rfl (lv_at hl 1 rfl) ?_
  refine lv_sipush (v := 128) hx hb dX2_assign_1 (by decide) ?_
  refine lv_icmp_lt (tgt := 25) hx hb dX2_assign_4 (by decide) (fun hc => ?_) (fun hc => ?_)
  · have hf := ite_t hf hc
    exact MV.ret (wf := wC ad cI cF) hQ C hr hlk hf hP hS dX2_assign_25
  · have hf := ite_f hf hc
    refine lv_iload_n hx hb dX2_assign_7 rfl (lv_at hl 1 rfl) ?_
    refine lv_sipush (v := 256) hx hb dX2_assign_8 (by decide) ?_
    refine lv_icmp_ge (tgt := 25) hx hb dX2_assign_11 (by decide) (fun hc => ?_) (fun hc => ?_)
    · have hf := ite_t hf hc
      exact MV.ret (wf := wC ad cI cF) hQ C hr hlk hf hP hS dX2_assign_25
    · have hf := ite_f hf hc
      refine lv_aload_n hx hb dX2_assign_14 rfl (lv_at hl 0 rfl) ?_
      refine GX2_0 C hP gt1_40 dX2_assign_15 ?_
      refine lv_iload_n hx hb dX2_assign_18 rfl (lv_at hl 1 rfl) ?_
      refine lv_sipush (v := 128) hx hb dX2_assign_19 (by decide) ?_
      refine lv_isub hx hb dX2_assign_22 ?_
      refine lv_iload_n hx hb dX2_assign_23 rfl (lv_at hl 2 rfl) ?_
      obtain ⟨hin, hf⟩ := sv_at hf
      refine astor (wf := wC ad cI cF) C hP (dC hI _) hS 2 rfl rfl hin (fun _ => rfl) dX2_assign_24 (fun σ1 eσ1 H locs hP hS => ?_)
      have hf := hf σ1 eσ1
      exact MV.ret (wf := wC ad cI cF) hQ C hr hlk hf hP hS dX2_assign_25
def fX9_map (σ : St) (p1 p2 : Int32) : Option (Int32 × St) := (if p1 < 128 then some (0, σ) else (if 256 ≤ p1 then some (0, σ) else (if p2 < (-1) then some (0, σ) else (if p2 < 65536 then bd (fX2_assign σ p1 p2) (fun _ σ2 => nm (up σ2 0 14 0) (fun σ3 => some (1, σ3))) else some (0, σ)))))
set_option maxHeartbeats 4000000 in
set_option maxRecDepth 100000 in
theorem mX9_map {l : Launch} {D : va_G} {kS vS : Nat → Nat} {ad : Nat → Nat} {cI cF : ClassId} {σ σ0 : St} {p1 p2 : Int32} {r : Int32} (hI : Inj ad 18) (hf : fX9_map σ p1 p2 = some (r, σ0)) : MI l D (tyC cI cF) (inA ad 18) kS vS yX9_map cX9_map 3 .boolean 1 22 [.ref (ad 0), .int p1, .int p2] (wC ad cI cF σ) (wC ad cI cF σ0) r := by
  refine MI.of (by decide) (Nat.le_of_ble_eq_true rfl) (fun p e s m args below meth c ls Q hQ C hr hlk hP hS hl => ?_)
  obtain ⟨hx, hb, hml, hown, hts, hK, hKS⟩ := id C
  have hl : lv_has ls 3 [(0, .ref (ad 0)), (1, .int p1), (2, .int p2)] := hl
  unfold fX9_map at hf
  refine lv_iload_n hx hb dX9_map_0 rfl (lv_at hl 1 rfl) ?_
  refine lv_sipush (v := 128) hx hb dX9_map_1 (by decide) ?_
  refine lv_icmp_lt (tgt := 25) hx hb dX9_map_4 (by decide) (fun hc => ?_) (fun hc => ?_)
  · have hf := ite_t hf hc
    refine lv_iconst (v := 0) hx hb dX9_map_25 (by decide) ?_
    exact MI.ret (wf := wC ad cI cF) hQ C hr hlk rfl hf hP hS dX9_map_26
  · have hf := ite_f hf hc
    refine lv_iload_n hx hb dX9_map_7 rfl (lv_at hl 1 rfl) ?_
    refine lv_sipush (v := 256) hx hb dX9_map_8 (by decide) ?_
    refine lv_icmp_ge (tgt := 25) hx hb dX9_map_11 (by decide) (fun hc => ?_) (fun hc => ?_)
    · have hf := ite_t hf hc
      refine lv_iconst (v := 0) hx hb dX9_map_25 (by decide) ?_
      exact MI.ret (wf := wC ad cI cF) hQ C hr hlk rfl hf hP hS dX9_map_26
    · have hf := ite_f hf hc
      refine lv_iload_n hx hb dX9_map_14 rfl (lv_at hl 2 rfl) ?_
      refine lv_iconst (v := (-1)) hx hb dX9_map_15 (by decide) ?_
      refine lv_icmp_lt (tgt := 25) hx hb dX9_map_16 (by decide) (fun hc => ?_) (fun hc => ?_)
      · have hf := ite_t hf hc
        refine lv_iconst (v := 0) hx hb dX9_map_25 (by decide) ?_
        exact MI.ret (wf := wC ad cI cF) hQ C hr hlk rfl hf hP hS dX9_map_26
      · have hf := ite_f hf hc
        refine lv_iload_n hx hb dX9_map_19 rfl (lv_at hl 2 rfl) ?_
        refine lv_ldc hx hb (v := 65536) hown (hts _ gt1_231) dX9_map_20 ?_
        refine lv_icmp_lt (tgt := 27) hx hb dX9_map_22 (by decide) (fun hc => ?_) (fun hc => ?_)
        · have hf := ite_t hf hc
          refine lv_aload_n hx hb dX9_map_27 rfl (lv_at hl 0 rfl) ?_
          refine GX9_0 C hP gt1_150 dX9_map_28 ?_
          refine lv_iload_n hx hb dX9_map_31 rfl (lv_at hl 1 rfl) ?_
          refine lv_iload_n hx hb dX9_map_32 rfl (lv_at hl 2 rfl) ?_
          obtain ⟨v1, σ2, hc, hf⟩ := bd_at hf
          refine callVV (As := [.int p1, .int p2]) (rest := []) C (mX2_assign hI hc) ⟨gt1_232, gt1_233, gt1_234, gt1_3, gt1_235⟩ okX2_assign ⟨Nat.le_of_ble_eq_true rfl, Nat.le_of_ble_eq_true rfl⟩ (rcvOf C hP (show (wC ad cI cF _)[1]? = some (ad 1, _) from rfl) rfl) rfl hl.1 rfl (Nat.le_of_ble_eq_true rfl) hP hS dX9_map_33 (fun H locs hP hS => ?_)
          refine lv_aload_n hx hb dX9_map_36 rfl (lv_at hl 0 rfl) ?_
          refine lv_iconst (v := 0) hx hb dX9_map_37 (by decide) ?_
          refine PX9_14 hI C hP hS gt1_164 rfl rfl dX9_map_38 (fun σ3 eσ3 H locs hP hS => ?_)
          have hf := nm_at hf σ3 eσ3
          refine lv_iconst (v := 1) hx hb dX9_map_41 (by decide) ?_
          exact MI.ret (wf := wC ad cI cF) hQ C hr hlk rfl hf hP hS dX9_map_42
        · have hf := ite_f hf hc
          refine lv_iconst (v := 0) hx hb dX9_map_25 (by decide) ?_
          exact MI.ret (wf := wC ad cI cF) hQ C hr hlk rfl hf hP hS dX9_map_26
def fX5_count (j : Nat) (σ : St) : Option (Int32 × St) := some (σ j 1, σ)
set_option maxHeartbeats 4000000 in
set_option maxRecDepth 100000 in
theorem mX5_count {l : Launch} {D : va_G} {kS vS : Nat → Nat} {ad : Nat → Nat} {cI cF : ClassId} {j : Nat} {σ σ0 : St} {r : Int32} (hI : Inj ad 18) (hj : jX5 j) (hf : fX5_count j σ  = some (r, σ0)) : MI l D (tyC cI cF) (inA ad 18) kS vS yX5_count cX5_count 1 .int 0 0 [.ref (ad j)] (wC ad cI cF σ) (wC ad cI cF σ0) r := by
  refine MI.of (by decide) (Nat.le_of_ble_eq_true rfl) (fun p e s m args below meth c ls Q hQ C hr hlk hP hS hl => ?_)
  obtain ⟨hx, hb, hml, hown, hts, hK, hKS⟩ := id C
  have hl : lv_has ls 1 [(0, .ref (ad j))] := hl
  unfold fX5_count at hf
  refine lv_aload_n hx hb dX5_count_0 rfl (lv_at hl 0 rfl) ?_
  refine GX5_1 C hP hj gt1_52 dX5_count_1 ?_
  exact MI.ret (wf := wC ad cI cF) hQ C hr hlk rfl hf hP hS dX5_count_4
def fX5_add (j : Nat) (σ : St) (p1 : Int32) : Option (Int32 × St) := (if (Int32.ofNat (capU j)) ≤ (σ j 1) then some (0, σ) else sv σ (j + 1) (capU j) (σ j 1) p1 (fun σ1 => nm (up σ1 j 1 ((σ1 j 1) + 1)) (fun σ2 => some (0, σ2))))
set_option maxHeartbeats 4000000 in
set_option maxRecDepth 100000 in
theorem mX5_add {l : Launch} {D : va_G} {kS vS : Nat → Nat} {ad : Nat → Nat} {cI cF : ClassId} {j : Nat} {σ σ0 : St} {p1 : Int32} {r : Int32} (hI : Inj ad 18) (hj : jX5 j) (hf : fX5_add j σ p1 = some (r, σ0)) : MV l D (tyC cI cF) (inA ad 18) kS vS yX5_add cX5_add 2 0 0 [.ref (ad j), .int p1] (wC ad cI cF σ) (wC ad cI cF σ0) := by
  refine MV.of (by decide) (Nat.le_of_ble_eq_true rfl) (fun p e s m args below meth c ls Q hQ C hr hlk hP hS hl => ?_)
  obtain ⟨hx, hb, hml, hown, hts, hK, hKS⟩ := id C
  have hl : lv_has ls 2 [(0, .ref (ad j)), (1, .int p1)] := hl
  unfold fX5_add at hf
  refine lv_aload_n hx hb dX5_add_0 rfl (lv_at hl 0 rfl) ?_
  refine GX5_1 C hP hj gt1_52 dX5_add_1 ?_
  refine lv_aload_n hx hb dX5_add_4 rfl (lv_at hl 0 rfl) ?_
  refine GX5_0 C hP hj gt1_51 dX5_add_5 ?_
  refine alen (v := Int32.ofNat (capU j)) C hP (j + 1) (eX5r hj) rfl rfl dX5_add_8 ?_
  refine lv_icmp_ge (tgt := 32) hx hb dX5_add_9 (by decide) (fun hc => ?_) (fun hc => ?_)
  · have hf := ite_t hf hc
    exact MV.ret (wf := wC ad cI cF) hQ C hr hlk hf hP hS dX5_add_32
  · have hf := ite_f hf hc
    refine lv_aload_n hx hb dX5_add_12 rfl (lv_at hl 0 rfl) ?_
    refine GX5_0 C hP hj gt1_51 dX5_add_13 ?_
    refine lv_aload_n hx hb dX5_add_16 rfl (lv_at hl 0 rfl) ?_
    refine GX5_1 C hP hj gt1_52 dX5_add_17 ?_
    refine lv_iload_n hx hb dX5_add_20 rfl (lv_at hl 1 rfl) ?_
    obtain ⟨hin, hf⟩ := sv_at hf
    refine astor (wf := wC ad cI cF) C hP (dC hI _) hS (j + 1) (eX5r hj) rfl hin (sX5r hj) dX5_add_21 (fun σ1 eσ1 H locs hP hS => ?_)
    have hf := hf σ1 eσ1
    refine lv_aload_n hx hb dX5_add_22 rfl (lv_at hl 0 rfl) ?_
    refine lv_dup hx hb dX5_add_23 rfl ?_
    refine GX5_1 C hP hj gt1_52 dX5_add_24 ?_
    refine lv_iconst (v := 1) hx hb dX5_add_27 (by decide) ?_
    refine lv_iadd hx hb dX5_add_28 ?_
    refine PX5_1 hI C hP hS hj gt1_52 rfl rfl dX5_add_29 (fun σ2 eσ2 H locs hP hS => ?_)
    have hf := nm_at hf σ2 eσ2
    exact MV.ret (wf := wC ad cI cF) hQ C hr hlk hf hP hS dX5_add_32
def fX9_give_b38 (σ : St) (x1 y0 y1 : Int32) : Option (Int32 × St) := bd (fX9_isBelow σ y1 y0) (fun v3 σ4 => (if v3 = 0 then some (0, σ4) else bd (fX5_add 4 σ4 x1) (fun _ σ6 => nm (up σ6 0 14 0) (fun σ7 => some (1, σ7)))))
def fX9_give (σ : St) (p1 : Int32) : Option (Int32 × St) := (if (σ 0 6) = (-1) then some (0, σ) else bd (fX5_count 4 σ) (fun v1 σ2 => (if v1 = 24 then some (0, σ2) else (if (σ2 0 7) = 0 then fX9_give_b38 σ2 p1 256 p1 else fX9_give_b38 σ2 p1 65536 p1))))
set_option maxHeartbeats 4000000 in
set_option maxRecDepth 100000 in
theorem mX9_give {l : Launch} {D : va_G} {kS vS : Nat → Nat} {ad : Nat → Nat} {cI cF : ClassId} {σ σ0 : St} {p1 : Int32} {r : Int32} (hI : Inj ad 18) (hf : fX9_give σ p1 = some (r, σ0)) : MI l D (tyC cI cF) (inA ad 18) kS vS yX9_give cX9_give 2 .boolean 1 21 [.ref (ad 0), .int p1] (wC ad cI cF σ) (wC ad cI cF σ0) r := by
  refine MI.of (by decide) (Nat.le_of_ble_eq_true rfl) (fun p e s m args below meth c ls Q hQ C hr hlk hP hS hl => ?_)
  obtain ⟨hx, hb, hml, hown, hts, hK, hKS⟩ := id C
  have hl : lv_has ls 2 [(0, .ref (ad 0)), (1, .int p1)] := hl
  have B38 : ∀ (σ : St) (x1 y0 y1 : Int32) (H : Heap) (locs : List Loc) (ls : Array Slot), va_P D vwCl (wC ad cI cF σ) H → va_S (inA ad 18) s.heap H locs → lv_has ls 2 [(0, .ref (ad 0)), (1, .int x1)] → fX9_give_b38 σ x1 y0 y1 = some (r, σ0) → W p l e (rmN 1 21) s m args below meth c H locs 0 0 Q (F0 m 38 ls [.int y0, .int y1]) := by
    intro σ x1 y0 y1 H locs ls hP hS hl hf
    unfold fX9_give_b38 at hf
    obtain ⟨v3, σ4, hc, hf⟩ := bd_at hf
    refine callSI (As := [.int y1, .int y0]) (rest := []) C (mX9_isBelow hI hc) ⟨gt1_200, gt1_201, gt1_1, gt1_202⟩ okX9_isBelow ⟨Nat.le_of_ble_eq_true rfl, Nat.le_of_ble_eq_true rfl⟩ rfl hl.1 rfl (Nat.le_of_ble_eq_true rfl) hP hS dX9_give_38 (fun H locs hP hS => ?_)
    refine lv_if_ne (tgt := 46) hx hb dX9_give_41 (by decide) (fun hc => ?_) (fun hc => ?_)
    · have hf := ite_f hf hc
      refine lv_aload_n hx hb dX9_give_46 rfl (lv_at hl 0 rfl) ?_
      refine GX9_2 C hP gt1_152 dX9_give_47 ?_
      refine lv_iload_n hx hb dX9_give_50 rfl (lv_at hl 1 rfl) ?_
      obtain ⟨v5, σ6, hc, hf⟩ := bd_at hf
      refine callVV (As := [.int x1]) (rest := []) C (mX5_add (j := 4) hI (by decide) hc) ⟨gt2_4, gt2_5, gt2_6, gt1_5, gt2_7⟩ okX5_add ⟨Nat.le_of_ble_eq_true rfl, Nat.le_of_ble_eq_true rfl⟩ (rcvOf C hP (show (wC ad cI cF _)[4]? = some (ad 4, _) from rfl) rfl) rfl hl.1 rfl (Nat.le_of_ble_eq_true rfl) hP hS dX9_give_51 (fun H locs hP hS => ?_)
      refine lv_aload_n hx hb dX9_give_54 rfl (lv_at hl 0 rfl) ?_
      refine lv_iconst (v := 0) hx hb dX9_give_55 (by decide) ?_
      refine PX9_14 hI C hP hS gt1_164 rfl rfl dX9_give_56 (fun σ7 eσ7 H locs hP hS => ?_)
      have hf := nm_at hf σ7 eσ7
      refine lv_iconst (v := 1) hx hb dX9_give_59 (by decide) ?_
      exact MI.ret (wf := wC ad cI cF) hQ C hr hlk rfl hf hP hS dX9_give_60
    · have hf := ite_t hf hc
      refine lv_iconst (v := 0) hx hb dX9_give_44 (by decide) ?_
      exact MI.ret (wf := wC ad cI cF) hQ C hr hlk rfl hf hP hS dX9_give_45
  unfold fX9_give at hf
  refine lv_aload_n hx hb dX9_give_0 rfl (lv_at hl 0 rfl) ?_
  refine GX9_6 C hP gt1_156 dX9_give_1 ?_
  refine lv_iconst (v := (-1)) hx hb dX9_give_4 (by decide) ?_
  refine lv_icmp_eq (tgt := 20) hx hb dX9_give_5 (by decide) (fun hc => ?_) (fun hc => ?_)
  · have hf := ite_t hf hc
    refine lv_iconst (v := 0) hx hb dX9_give_20 (by decide) ?_
    exact MI.ret (wf := wC ad cI cF) hQ C hr hlk rfl hf hP hS dX9_give_21
  · have hf := ite_f hf hc
    refine lv_aload_n hx hb dX9_give_8 rfl (lv_at hl 0 rfl) ?_
    refine GX9_2 C hP gt1_152 dX9_give_9 ?_
    obtain ⟨v1, σ2, hc, hf⟩ := bd_at hf
    refine callVI (As := []) (rest := []) C (mX5_count (j := 4) hI (by decide) hc) ⟨gt2_0, gt2_1, gt2_2, gt1_5, gt2_3⟩ okX5_count ⟨Nat.le_of_ble_eq_true rfl, Nat.le_of_ble_eq_true rfl⟩ (rcvOf C hP (show (wC ad cI cF _)[4]? = some (ad 4, _) from rfl) rfl) rfl hl.1 rfl (Nat.le_of_ble_eq_true rfl) hP hS dX9_give_12 (fun H locs hP hS => ?_)
    refine lv_bipush (v := 24) hx hb dX9_give_15 (by decide) ?_
    refine lv_icmp_ne (tgt := 22) hx hb dX9_give_17 (by decide) (fun hc => ?_) (fun hc => ?_)
    · have hf := ite_f hf hc
      refine lv_iload_n hx hb dX9_give_22 rfl (lv_at hl 1 rfl) ?_
      refine lv_aload_n hx hb dX9_give_23 rfl (lv_at hl 0 rfl) ?_
      refine GX9_7 C hP gt1_157 dX9_give_24 ?_
      refine lv_if_eq (tgt := 35) hx hb dX9_give_27 (by decide) (fun hc => ?_) (fun hc => ?_)
      · have hf := ite_t hf hc
        refine lv_sipush (v := 256) hx hb dX9_give_35 (by decide) ?_
        exact B38 σ2 p1 256 p1 _ _ _ hP hS (lv_sub hl [0, 1] rfl) hf
      · have hf := ite_f hf hc
        refine lv_ldc hx hb (v := 65536) hown (hts _ gt1_231) dX9_give_30 ?_
        refine lv_goto (tgt := 38) hx hb dX9_give_32 (by decide) ?_
        exact B38 σ2 p1 65536 p1 _ _ _ hP hS (lv_sub hl [0, 1] rfl) hf
    · have hf := ite_t hf hc
      refine lv_iconst (v := 0) hx hb dX9_give_20 (by decide) ?_
      exact MI.ret (wf := wC ad cI cF) hQ C hr hlk rfl hf hP hS dX9_give_21
def fX9_room (σ : St) (p1 : Int32) : Option (Int32 × St) := (if p1 < 0 then some (0, σ) else (if p1 ≤ 16 then nm (up σ 0 10 p1) (fun σ1 => some (1, σ1)) else some (0, σ)))
set_option maxHeartbeats 4000000 in
set_option maxRecDepth 100000 in
theorem mX9_room {l : Launch} {D : va_G} {kS vS : Nat → Nat} {ad : Nat → Nat} {cI cF : ClassId} {σ σ0 : St} {p1 : Int32} {r : Int32} (hI : Inj ad 18) (hf : fX9_room σ p1 = some (r, σ0)) : MI l D (tyC cI cF) (inA ad 18) kS vS yX9_room cX9_room 2 .boolean 0 0 [.ref (ad 0), .int p1] (wC ad cI cF σ) (wC ad cI cF σ0) r := by
  refine MI.of (by decide) (Nat.le_of_ble_eq_true rfl) (fun p e s m args below meth c ls Q hQ C hr hlk hP hS hl => ?_)
  obtain ⟨hx, hb, hml, hown, hts, hK, hKS⟩ := id C
  have hl : lv_has ls 2 [(0, .ref (ad 0)), (1, .int p1)] := hl
  unfold fX9_room at hf
  refine lv_iload_n hx hb dX9_room_0 rfl (lv_at hl 1 rfl) ?_
  refine lv_if_lt (tgt := 10) hx hb dX9_room_1 (by decide) (fun hc => ?_) (fun hc => ?_)
  · have hf := ite_t hf hc
    refine lv_iconst (v := 0) hx hb dX9_room_10 (by decide) ?_
    exact MI.ret (wf := wC ad cI cF) hQ C hr hlk rfl hf hP hS dX9_room_11
  · have hf := ite_f hf hc
    refine lv_iload_n hx hb dX9_room_4 rfl (lv_at hl 1 rfl) ?_
    refine lv_bipush (v := 16) hx hb dX9_room_5 (by decide) ?_
    refine lv_icmp_le (tgt := 12) hx hb dX9_room_7 (by decide) (fun hc => ?_) (fun hc => ?_)
    · have hf := ite_t hf hc
      refine lv_aload_n hx hb dX9_room_12 rfl (lv_at hl 0 rfl) ?_
      refine lv_iload_n hx hb dX9_room_13 rfl (lv_at hl 1 rfl) ?_
      refine PX9_10 hI C hP hS gt1_160 rfl rfl dX9_room_14 (fun σ1 eσ1 H locs hP hS => ?_)
      have hf := nm_at hf σ1 eσ1
      refine lv_iconst (v := 1) hx hb dX9_room_17 (by decide) ?_
      exact MI.ret (wf := wC ad cI cF) hQ C hr hlk rfl hf hP hS dX9_room_18
    · have hf := ite_f hf hc
      refine lv_iconst (v := 0) hx hb dX9_room_10 (by decide) ?_
      exact MI.ret (wf := wC ad cI cF) hQ C hr hlk rfl hf hP hS dX9_room_11
def fX5_at (j : Nat) (σ : St) (p1 : Int32) : Option (Int32 × St) := (if p1 < 0 then some ((-1), σ) else (if (σ j 1) ≤ p1 then some ((-1), σ) else ld (σ (j + 1)) (capU j) p1 (fun v1 => some (v1, σ))))
set_option maxHeartbeats 4000000 in
set_option maxRecDepth 100000 in
theorem mX5_at {l : Launch} {D : va_G} {kS vS : Nat → Nat} {ad : Nat → Nat} {cI cF : ClassId} {j : Nat} {σ σ0 : St} {p1 : Int32} {r : Int32} (hI : Inj ad 18) (hj : jX5 j) (hf : fX5_at j σ p1 = some (r, σ0)) : MI l D (tyC cI cF) (inA ad 18) kS vS yX5_at cX5_at 2 .int 0 0 [.ref (ad j), .int p1] (wC ad cI cF σ) (wC ad cI cF σ0) r := by
  refine MI.of (by decide) (Nat.le_of_ble_eq_true rfl) (fun p e s m args below meth c ls Q hQ C hr hlk hP hS hl => ?_)
  obtain ⟨hx, hb, hml, hown, hts, hK, hKS⟩ := id C
  have hl : lv_has ls 2 [(0, .ref (ad j)), (1, .int p1)] := hl
  unfold fX5_at at hf
  refine lv_iload_n hx hb dX5_at_0 rfl (lv_at hl 1 rfl) ?_
  refine lv_if_lt (tgt := 21) hx hb dX5_at_1 (by decide) (fun hc => ?_) (fun hc => ?_)
  · have hf := ite_t hf hc
    refine lv_iconst (v := (-1)) hx hb dX5_at_21 (by decide) ?_
    exact MI.ret (wf := wC ad cI cF) hQ C hr hlk rfl hf hP hS dX5_at_22
  · have hf := ite_f hf hc
    refine lv_iload_n hx hb dX5_at_4 rfl (lv_at hl 1 rfl) ?_
    refine lv_aload_n hx hb dX5_at_5 rfl (lv_at hl 0 rfl) ?_
    refine GX5_1 C hP hj gt1_52 dX5_at_6 ?_
    refine lv_icmp_ge (tgt := 21) hx hb dX5_at_9 (by decide) (fun hc => ?_) (fun hc => ?_)
    · have hf := ite_t hf hc
      refine lv_iconst (v := (-1)) hx hb dX5_at_21 (by decide) ?_
      exact MI.ret (wf := wC ad cI cF) hQ C hr hlk rfl hf hP hS dX5_at_22
    · have hf := ite_f hf hc
      refine lv_aload_n hx hb dX5_at_12 rfl (lv_at hl 0 rfl) ?_
      refine GX5_0 C hP hj gt1_51 dX5_at_13 ?_
      refine lv_iload_n hx hb dX5_at_16 rfl (lv_at hl 1 rfl) ?_
      obtain ⟨hin, hf⟩ := ld_at hf
      refine aload C hP (j + 1) (eX5r hj) rfl hin dX5_at_17 (fun v1 ev1 => ?_)
      have hf := hf v1 ev1
      refine lv_goto (tgt := 22) hx hb dX5_at_18 (by decide) ?_
      exact MI.ret (wf := wC ad cI cF) hQ C hr hlk rfl hf hP hS dX5_at_22
def fX8_lengthBehind (j : Nat) (σ : St) (p1 : Int32) : Option (Int32 × St) := (if 128 ≤ p1 then (if 194 ≤ p1 then (if 224 ≤ p1 then (if 240 ≤ p1 then (if (σ j 0) = 0 then (if 245 ≤ p1 then some (0, σ) else some (4, σ)) else some (0, σ)) else some (3, σ)) else some (2, σ)) else (if (σ j 0) = 0 then some (0, σ) else (if p1 = 192 then some (2, σ) else some (0, σ)))) else (if (σ j 0) = 0 then some (1, σ) else (if p1 = 0 then some (0, σ) else some (1, σ))))
set_option maxHeartbeats 4000000 in
set_option maxRecDepth 100000 in
theorem mX8_lengthBehind {l : Launch} {D : va_G} {kS vS : Nat → Nat} {ad : Nat → Nat} {cI cF : ClassId} {j : Nat} {σ σ0 : St} {p1 : Int32} {r : Int32} (hI : Inj ad 18) (hj : jX8 j) (hf : fX8_lengthBehind j σ p1 = some (r, σ0)) : MI l D (tyC cI cF) (inA ad 18) kS vS yX8_lengthBehind cX8_lengthBehind 2 .int 0 0 [.ref (ad j), .int p1] (wC ad cI cF σ) (wC ad cI cF σ0) r := by
  refine MI.of (by decide) (Nat.le_of_ble_eq_true rfl) (fun p e s m args below meth c ls Q hQ C hr hlk hP hS hl => ?_)
  obtain ⟨hx, hb, hml, hown, hts, hK, hKS⟩ := id C
  have hl : lv_has ls 2 [(0, .ref (ad j)), (1, .int p1)] := hl
  unfold fX8_lengthBehind at hf
  refine lv_iload_n hx hb dX8_lengthBehind_0 rfl (lv_at hl 1 rfl) ?_
  refine lv_sipush (v := 128) hx hb dX8_lengthBehind_1 (by decide) ?_
  refine lv_icmp_ge (tgt := 24) hx hb dX8_lengthBehind_4 (by decide) (fun hc => ?_) (fun hc => ?_)
  · have hf := ite_t hf hc
    refine lv_iload_n hx hb dX8_lengthBehind_24 rfl (lv_at hl 1 rfl) ?_
    refine lv_sipush (v := 194) hx hb dX8_lengthBehind_25 (by decide) ?_
    refine lv_icmp_ge (tgt := 51) hx hb dX8_lengthBehind_28 (by decide) (fun hc => ?_) (fun hc => ?_)
    · have hf := ite_t hf hc
      refine lv_iload_n hx hb dX8_lengthBehind_51 rfl (lv_at hl 1 rfl) ?_
      refine lv_sipush (v := 224) hx hb dX8_lengthBehind_52 (by decide) ?_
      refine lv_icmp_ge (tgt := 60) hx hb dX8_lengthBehind_55 (by decide) (fun hc => ?_) (fun hc => ?_)
      · have hf := ite_t hf hc
        refine lv_iload_n hx hb dX8_lengthBehind_60 rfl (lv_at hl 1 rfl) ?_
        refine lv_sipush (v := 240) hx hb dX8_lengthBehind_61 (by decide) ?_
        refine lv_icmp_ge (tgt := 69) hx hb dX8_lengthBehind_64 (by decide) (fun hc => ?_) (fun hc => ?_)
        · have hf := ite_t hf hc
          refine lv_aload_n hx hb dX8_lengthBehind_69 rfl (lv_at hl 0 rfl) ?_
          refine GX8_0 C hP hj gt1_88 dX8_lengthBehind_70 ?_
          refine lv_if_ne (tgt := 87) hx hb dX8_lengthBehind_73 (by decide) (fun hc => ?_) (fun hc => ?_)
          · have hf := ite_f hf hc
            refine lv_iconst (v := 0) hx hb dX8_lengthBehind_87 (by decide) ?_
            exact MI.ret (wf := wC ad cI cF) hQ C hr hlk rfl hf hP hS dX8_lengthBehind_88
          · have hf := ite_t hf hc
            refine lv_iload_n hx hb dX8_lengthBehind_76 rfl (lv_at hl 1 rfl) ?_
            refine lv_sipush (v := 245) hx hb dX8_lengthBehind_77 (by decide) ?_
            refine lv_icmp_ge (tgt := 87) hx hb dX8_lengthBehind_80 (by decide) (fun hc => ?_) (fun hc => ?_)
            · have hf := ite_t hf hc
              refine lv_iconst (v := 0) hx hb dX8_lengthBehind_87 (by decide) ?_
              exact MI.ret (wf := wC ad cI cF) hQ C hr hlk rfl hf hP hS dX8_lengthBehind_88
            · have hf := ite_f hf hc
              refine lv_iconst (v := 4) hx hb dX8_lengthBehind_83 (by decide) ?_
              refine lv_goto (tgt := 88) hx hb dX8_lengthBehind_84 (by decide) ?_
              exact MI.ret (wf := wC ad cI cF) hQ C hr hlk rfl hf hP hS dX8_lengthBehind_88
        · have hf := ite_f hf hc
          refine lv_iconst (v := 3) hx hb dX8_lengthBehind_67 (by decide) ?_
          exact MI.ret (wf := wC ad cI cF) hQ C hr hlk rfl hf hP hS dX8_lengthBehind_68
      · have hf := ite_f hf hc
        refine lv_iconst (v := 2) hx hb dX8_lengthBehind_58 (by decide) ?_
        exact MI.ret (wf := wC ad cI cF) hQ C hr hlk rfl hf hP hS dX8_lengthBehind_59
    · have hf := ite_f hf hc
      refine lv_aload_n hx hb dX8_lengthBehind_31 rfl (lv_at hl 0 rfl) ?_
      refine GX8_0 C hP hj gt1_88 dX8_lengthBehind_32 ?_
      refine lv_if_eq (tgt := 49) hx hb dX8_lengthBehind_35 (by decide) (fun hc => ?_) (fun hc => ?_)
      · have hf := ite_t hf hc
        refine lv_iconst (v := 0) hx hb dX8_lengthBehind_49 (by decide) ?_
        exact MI.ret (wf := wC ad cI cF) hQ C hr hlk rfl hf hP hS dX8_lengthBehind_50
      · have hf := ite_f hf hc
        refine lv_iload_n hx hb dX8_lengthBehind_38 rfl (lv_at hl 1 rfl) ?_
        refine lv_sipush (v := 192) hx hb dX8_lengthBehind_39 (by decide) ?_
        refine lv_icmp_ne (tgt := 49) hx hb dX8_lengthBehind_42 (by decide) (fun hc => ?_) (fun hc => ?_)
        · have hf := ite_f hf hc
          refine lv_iconst (v := 0) hx hb dX8_lengthBehind_49 (by decide) ?_
          exact MI.ret (wf := wC ad cI cF) hQ C hr hlk rfl hf hP hS dX8_lengthBehind_50
        · have hf := ite_t hf hc
          refine lv_iconst (v := 2) hx hb dX8_lengthBehind_45 (by decide) ?_
          refine lv_goto (tgt := 50) hx hb dX8_lengthBehind_46 (by decide) ?_
          exact MI.ret (wf := wC ad cI cF) hQ C hr hlk rfl hf hP hS dX8_lengthBehind_50
  · have hf := ite_f hf hc
    refine lv_aload_n hx hb dX8_lengthBehind_7 rfl (lv_at hl 0 rfl) ?_
    refine GX8_0 C hP hj gt1_88 dX8_lengthBehind_8 ?_
    refine lv_if_eq (tgt := 22) hx hb dX8_lengthBehind_11 (by decide) (fun hc => ?_) (fun hc => ?_)
    · have hf := ite_t hf hc
      refine lv_iconst (v := 1) hx hb dX8_lengthBehind_22 (by decide) ?_
      exact MI.ret (wf := wC ad cI cF) hQ C hr hlk rfl hf hP hS dX8_lengthBehind_23
    · have hf := ite_f hf hc
      refine lv_iload_n hx hb dX8_lengthBehind_14 rfl (lv_at hl 1 rfl) ?_
      refine lv_if_ne (tgt := 22) hx hb dX8_lengthBehind_15 (by decide) (fun hc => ?_) (fun hc => ?_)
      · have hf := ite_f hf hc
        refine lv_iconst (v := 1) hx hb dX8_lengthBehind_22 (by decide) ?_
        exact MI.ret (wf := wC ad cI cF) hQ C hr hlk rfl hf hP hS dX8_lengthBehind_23
      · have hf := ite_t hf hc
        refine lv_iconst (v := 0) hx hb dX8_lengthBehind_18 (by decide) ?_
        refine lv_goto (tgt := 23) hx hb dX8_lengthBehind_19 (by decide) ?_
        exact MI.ret (wf := wC ad cI cF) hQ C hr hlk rfl hf hP hS dX8_lengthBehind_23
def fX8_leastSecond (σ : St) (p0 : Int32) : Option (Int32 × St) := (if p0 = 224 then some (160, σ) else (if p0 = 240 then some (144, σ) else some (128, σ)))
set_option maxHeartbeats 4000000 in
set_option maxRecDepth 100000 in
theorem mX8_leastSecond {l : Launch} {D : va_G} {kS vS : Nat → Nat} {ad : Nat → Nat} {cI cF : ClassId} {σ σ0 : St} {p0 : Int32} {r : Int32} (hI : Inj ad 18) (hf : fX8_leastSecond σ p0 = some (r, σ0)) : MI l D (tyC cI cF) (inA ad 18) kS vS yX8_leastSecond cX8_leastSecond 1 .int 0 0 [.int p0] (wC ad cI cF σ) (wC ad cI cF σ0) r := by
  refine MI.of (by decide) (Nat.le_of_ble_eq_true rfl) (fun p e s m args below meth c ls Q hQ C hr hlk hP hS hl => ?_)
  obtain ⟨hx, hb, hml, hown, hts, hK, hKS⟩ := id C
  have hl : lv_has ls 1 [(0, .int p0)] := hl
  unfold fX8_leastSecond at hf
  refine lv_iload_n hx hb dX8_leastSecond_0 rfl (lv_at hl 0 rfl) ?_
  refine lv_sipush (v := 224) hx hb dX8_leastSecond_1 (by decide) ?_
  refine lv_icmp_ne (tgt := 13) hx hb dX8_leastSecond_4 (by decide) (fun hc => ?_) (fun hc => ?_)
  · have hf := ite_f hf hc
    refine lv_iload_n hx hb dX8_leastSecond_13 rfl (lv_at hl 0 rfl) ?_
    refine lv_sipush (v := 240) hx hb dX8_leastSecond_14 (by decide) ?_
    refine lv_icmp_ne (tgt := 26) hx hb dX8_leastSecond_17 (by decide) (fun hc => ?_) (fun hc => ?_)
    · have hf := ite_f hf hc
      refine lv_sipush (v := 128) hx hb dX8_leastSecond_26 (by decide) ?_
      exact MI.ret (wf := wC ad cI cF) hQ C hr hlk rfl hf hP hS dX8_leastSecond_29
    · have hf := ite_t hf hc
      refine lv_sipush (v := 144) hx hb dX8_leastSecond_20 (by decide) ?_
      refine lv_goto (tgt := 29) hx hb dX8_leastSecond_23 (by decide) ?_
      exact MI.ret (wf := wC ad cI cF) hQ C hr hlk rfl hf hP hS dX8_leastSecond_29
  · have hf := ite_t hf hc
    refine lv_sipush (v := 160) hx hb dX8_leastSecond_7 (by decide) ?_
    refine lv_goto (tgt := 29) hx hb dX8_leastSecond_10 (by decide) ?_
    exact MI.ret (wf := wC ad cI cF) hQ C hr hlk rfl hf hP hS dX8_leastSecond_29
def fX8_greatestSecond (j : Nat) (σ : St) (p1 : Int32) : Option (Int32 × St) := (if p1 = 192 then some (128, σ) else (if p1 = 237 then (if (σ j 0) = 0 then some (159, σ) else (if p1 = 244 then some (143, σ) else some (191, σ))) else (if p1 = 244 then some (143, σ) else some (191, σ))))
set_option maxHeartbeats 4000000 in
set_option maxRecDepth 100000 in
theorem mX8_greatestSecond {l : Launch} {D : va_G} {kS vS : Nat → Nat} {ad : Nat → Nat} {cI cF : ClassId} {j : Nat} {σ σ0 : St} {p1 : Int32} {r : Int32} (hI : Inj ad 18) (hj : jX8 j) (hf : fX8_greatestSecond j σ p1 = some (r, σ0)) : MI l D (tyC cI cF) (inA ad 18) kS vS yX8_greatestSecond cX8_greatestSecond 2 .int 0 0 [.ref (ad j), .int p1] (wC ad cI cF σ) (wC ad cI cF σ0) r := by
  refine MI.of (by decide) (Nat.le_of_ble_eq_true rfl) (fun p e s m args below meth c ls Q hQ C hr hlk hP hS hl => ?_)
  obtain ⟨hx, hb, hml, hown, hts, hK, hKS⟩ := id C
  have hl : lv_has ls 2 [(0, .ref (ad j)), (1, .int p1)] := hl
  unfold fX8_greatestSecond at hf
  refine lv_iload_n hx hb dX8_greatestSecond_0 rfl (lv_at hl 1 rfl) ?_
  refine lv_sipush (v := 192) hx hb dX8_greatestSecond_1 (by decide) ?_
  refine lv_icmp_ne (tgt := 11) hx hb dX8_greatestSecond_4 (by decide) (fun hc => ?_) (fun hc => ?_)
  · have hf := ite_f hf hc
    refine lv_iload_n hx hb dX8_greatestSecond_11 rfl (lv_at hl 1 rfl) ?_
    refine lv_sipush (v := 237) hx hb dX8_greatestSecond_12 (by decide) ?_
    refine lv_icmp_ne (tgt := 29) hx hb dX8_greatestSecond_15 (by decide) (fun hc => ?_) (fun hc => ?_)
    · have hf := ite_f hf hc
      refine lv_iload_n hx hb dX8_greatestSecond_29 rfl (lv_at hl 1 rfl) ?_
      refine lv_sipush (v := 244) hx hb dX8_greatestSecond_30 (by decide) ?_
      refine lv_icmp_ne (tgt := 42) hx hb dX8_greatestSecond_33 (by decide) (fun hc => ?_) (fun hc => ?_)
      · have hf := ite_f hf hc
        refine lv_sipush (v := 191) hx hb dX8_greatestSecond_42 (by decide) ?_
        exact MI.ret (wf := wC ad cI cF) hQ C hr hlk rfl hf hP hS dX8_greatestSecond_45
      · have hf := ite_t hf hc
        refine lv_sipush (v := 143) hx hb dX8_greatestSecond_36 (by decide) ?_
        refine lv_goto (tgt := 45) hx hb dX8_greatestSecond_39 (by decide) ?_
        exact MI.ret (wf := wC ad cI cF) hQ C hr hlk rfl hf hP hS dX8_greatestSecond_45
    · have hf := ite_t hf hc
      refine lv_aload_n hx hb dX8_greatestSecond_18 rfl (lv_at hl 0 rfl) ?_
      refine GX8_0 C hP hj gt1_88 dX8_greatestSecond_19 ?_
      refine lv_if_ne (tgt := 29) hx hb dX8_greatestSecond_22 (by decide) (fun hc => ?_) (fun hc => ?_)
      · have hf := ite_f hf hc
        refine lv_iload_n hx hb dX8_greatestSecond_29 rfl (lv_at hl 1 rfl) ?_
        refine lv_sipush (v := 244) hx hb dX8_greatestSecond_30 (by decide) ?_
        refine lv_icmp_ne (tgt := 42) hx hb dX8_greatestSecond_33 (by decide) (fun hc => ?_) (fun hc => ?_)
        · have hf := ite_f hf hc
          refine lv_sipush (v := 191) hx hb dX8_greatestSecond_42 (by decide) ?_
          exact MI.ret (wf := wC ad cI cF) hQ C hr hlk rfl hf hP hS dX8_greatestSecond_45
        · have hf := ite_t hf hc
          refine lv_sipush (v := 143) hx hb dX8_greatestSecond_36 (by decide) ?_
          refine lv_goto (tgt := 45) hx hb dX8_greatestSecond_39 (by decide) ?_
          exact MI.ret (wf := wC ad cI cF) hQ C hr hlk rfl hf hP hS dX8_greatestSecond_45
      · have hf := ite_t hf hc
        refine lv_sipush (v := 159) hx hb dX8_greatestSecond_25 (by decide) ?_
        exact MI.ret (wf := wC ad cI cF) hQ C hr hlk rfl hf hP hS dX8_greatestSecond_28
  · have hf := ite_t hf hc
    refine lv_sipush (v := 128) hx hb dX8_greatestSecond_7 (by decide) ?_
    exact MI.ret (wf := wC ad cI cF) hQ C hr hlk rfl hf hP hS dX8_greatestSecond_10
def fX8_isNext (j : Nat) (σ : St) (p2 : Int32) : Option (Int32 × St) := bd (fX5_at 4 σ p2) (fun v1 σ2 => (if p2 ≤ 1 then bd (fX5_at 4 σ2 0) (fun v3 σ4 => bd (fX8_leastSecond σ4 v3) (fun v5 σ6 => (if v1 < v5 then some (0, σ6) else bd (fX5_at 4 σ6 0) (fun v7 σ8 => bd (fX8_greatestSecond j σ8 v7) (fun v9 σ10 => (if v9 < v1 then some (0, σ10) else some (1, σ10))))))) else (if v1 < 128 then some (0, σ2) else (if 191 < v1 then some (0, σ2) else some (1, σ2)))))
set_option maxHeartbeats 4000000 in
set_option maxRecDepth 100000 in
theorem mX8_isNext {l : Launch} {D : va_G} {kS vS : Nat → Nat} {ad : Nat → Nat} {cI cF : ClassId} {j : Nat} {σ σ0 : St} {p2 : Int32} {r : Int32} (hI : Inj ad 18) (hj : jX8 j) (hf : fX8_isNext j σ p2 = some (r, σ0)) : MI l D (tyC cI cF) (inA ad 18) kS vS yX8_isNext cX8_isNext 4 .boolean 1 21 [.ref (ad j), .ref (ad 4), .int p2] (wC ad cI cF σ) (wC ad cI cF σ0) r := by
  refine MI.of (by decide) (Nat.le_of_ble_eq_true rfl) (fun p e s m args below meth c ls Q hQ C hr hlk hP hS hl => ?_)
  obtain ⟨hx, hb, hml, hown, hts, hK, hKS⟩ := id C
  have hl : lv_has ls 4 [(0, .ref (ad j)), (1, .ref (ad 4)), (2, .int p2)] := hl
  unfold fX8_isNext at hf
  refine lv_aload_n hx hb dX8_isNext_0 rfl (lv_at hl 1 rfl) ?_
  refine lv_iload_n hx hb dX8_isNext_1 rfl (lv_at hl 2 rfl) ?_
  obtain ⟨v1, σ2, hc, hf⟩ := bd_at hf
  refine callVI (As := [.int p2]) (rest := []) C (mX5_at (j := 4) hI (by decide) hc) ⟨gt3_5, gt2_39, gt2_40, gt1_5, gt2_41⟩ okX5_at ⟨Nat.le_of_ble_eq_true rfl, Nat.le_of_ble_eq_true rfl⟩ (rcvOf C hP (show (wC ad cI cF _)[4]? = some (ad 4, _) from rfl) rfl) rfl hl.1 rfl (Nat.le_of_ble_eq_true rfl) hP hS dX8_isNext_2 (fun H locs hP hS => ?_)
  refine lv_istore_n (lv' := [(3, .int v1), (0, .ref (ad j)), (1, .ref (ad 4)), (2, .int p2)]) hx hb dX8_isNext_5 rfl hl (by decide) rfl (fun ls hl => ?_)
  refine lv_iload_n hx hb dX8_isNext_6 rfl (lv_at hl 3 rfl) ?_
  refine lv_iconst (v := 1) hx hb dX8_isNext_7 (by decide) ?_
  refine lv_icmp_le (tgt := 31) hx hb dX8_isNext_8 (by decide) (fun hc => ?_) (fun hc => ?_)
  · have hf := ite_t hf hc
    refine lv_iload_n hx hb dX8_isNext_31 rfl (lv_at hl 0 rfl) ?_
    refine lv_aload_n hx hb dX8_isNext_32 rfl (lv_at hl 2 rfl) ?_
    refine lv_iconst (v := 0) hx hb dX8_isNext_33 (by decide) ?_
    obtain ⟨v3, σ4, hc, hf⟩ := bd_at hf
    refine callVI (As := [.int 0]) (rest := [.int v1]) C (mX5_at (j := 4) hI (by decide) hc) ⟨gt3_5, gt2_39, gt2_40, gt1_5, gt2_41⟩ okX5_at ⟨Nat.le_of_ble_eq_true rfl, Nat.le_of_ble_eq_true rfl⟩ (rcvOf C hP (show (wC ad cI cF _)[4]? = some (ad 4, _) from rfl) rfl) rfl hl.1 rfl (Nat.le_of_ble_eq_true rfl) hP hS dX8_isNext_34 (fun H locs hP hS => ?_)
    obtain ⟨v5, σ6, hc, hf⟩ := bd_at hf
    refine callSI (As := [.int v3]) (rest := [.int v1]) C (mX8_leastSecond hI hc) ⟨gt3_89, gt3_90, gt1_7, gt3_91⟩ okX8_leastSecond ⟨Nat.le_of_ble_eq_true rfl, Nat.le_of_ble_eq_true rfl⟩ rfl hl.1 rfl (Nat.le_of_ble_eq_true rfl) hP hS dX8_isNext_37 (fun H locs hP hS => ?_)
    refine lv_icmp_lt (tgt := 60) hx hb dX8_isNext_40 (by decide) (fun hc => ?_) (fun hc => ?_)
    · have hf := ite_t hf hc
      refine lv_iconst (v := 0) hx hb dX8_isNext_60 (by decide) ?_
      exact MI.ret (wf := wC ad cI cF) hQ C hr hlk rfl hf hP hS dX8_isNext_61
    · have hf := ite_f hf hc
      refine lv_iload_n hx hb dX8_isNext_43 rfl (lv_at hl 0 rfl) ?_
      refine lv_aload_n hx hb dX8_isNext_44 rfl (lv_at hl 1 rfl) ?_
      refine lv_aload_n hx hb dX8_isNext_45 rfl (lv_at hl 2 rfl) ?_
      refine lv_iconst (v := 0) hx hb dX8_isNext_46 (by decide) ?_
      obtain ⟨v7, σ8, hc, hf⟩ := bd_at hf
      refine callVI (As := [.int 0]) (rest := [.ref (ad j), .int v1]) C (mX5_at (j := 4) hI (by decide) hc) ⟨gt3_5, gt2_39, gt2_40, gt1_5, gt2_41⟩ okX5_at ⟨Nat.le_of_ble_eq_true rfl, Nat.le_of_ble_eq_true rfl⟩ (rcvOf C hP (show (wC ad cI cF _)[4]? = some (ad 4, _) from rfl) rfl) rfl hl.1 rfl (Nat.le_of_ble_eq_true rfl) hP hS dX8_isNext_47 (fun H locs hP hS => ?_)
      obtain ⟨v9, σ10, hc, hf⟩ := bd_at hf
      refine callVI (As := [.int v7]) (rest := [.int v1]) C (mX8_greatestSecond (j := j) hI hj hc) ⟨gt3_92, gt3_94, gtp18, gt1_7, gt3_95⟩ okX8_greatestSecond ⟨Nat.le_of_ble_eq_true rfl, Nat.le_of_ble_eq_true rfl⟩ (rcvOf C hP (eX8 hj) rfl) rfl hl.1 rfl (Nat.le_of_ble_eq_true rfl) hP hS dX8_isNext_50 (fun H locs hP hS => ?_)
      refine lv_icmp_gt (tgt := 60) hx hb dX8_isNext_53 (by decide) (fun hc => ?_) (fun hc => ?_)
      · have hf := ite_t hf hc
        refine lv_iconst (v := 0) hx hb dX8_isNext_60 (by decide) ?_
        exact MI.ret (wf := wC ad cI cF) hQ C hr hlk rfl hf hP hS dX8_isNext_61
      · have hf := ite_f hf hc
        refine lv_iconst (v := 1) hx hb dX8_isNext_56 (by decide) ?_
        refine lv_goto (tgt := 61) hx hb dX8_isNext_57 (by decide) ?_
        exact MI.ret (wf := wC ad cI cF) hQ C hr hlk rfl hf hP hS dX8_isNext_61
  · have hf := ite_f hf hc
    refine lv_iload_n hx hb dX8_isNext_11 rfl (lv_at hl 0 rfl) ?_
    refine lv_sipush (v := 128) hx hb dX8_isNext_12 (by decide) ?_
    refine lv_icmp_lt (tgt := 29) hx hb dX8_isNext_15 (by decide) (fun hc => ?_) (fun hc => ?_)
    · have hf := ite_t hf hc
      refine lv_iconst (v := 0) hx hb dX8_isNext_29 (by decide) ?_
      exact MI.ret (wf := wC ad cI cF) hQ C hr hlk rfl hf hP hS dX8_isNext_30
    · have hf := ite_f hf hc
      refine lv_iload_n hx hb dX8_isNext_18 rfl (lv_at hl 0 rfl) ?_
      refine lv_sipush (v := 191) hx hb dX8_isNext_19 (by decide) ?_
      refine lv_icmp_gt (tgt := 29) hx hb dX8_isNext_22 (by decide) (fun hc => ?_) (fun hc => ?_)
      · have hf := ite_t hf hc
        refine lv_iconst (v := 0) hx hb dX8_isNext_29 (by decide) ?_
        exact MI.ret (wf := wC ad cI cF) hQ C hr hlk rfl hf hP hS dX8_isNext_30
      · have hf := ite_f hf hc
        refine lv_iconst (v := 1) hx hb dX8_isNext_25 (by decide) ?_
        refine lv_goto (tgt := 30) hx hb dX8_isNext_26 (by decide) ?_
        exact MI.ret (wf := wC ad cI cF) hQ C hr hlk rfl hf hP hS dX8_isNext_30
def fX8_countFitting_b16 (j : Nat) : Nat → St → Int32 → Int32 → Option (Int32 × St)
  | 0, _, _, _ => none
  | n + 1, σ, x3, x4 => (if x4 ≤ 0 then some (x4, σ) else (if x3 ≤ x4 then some (x4, σ) else bd (fX8_isNext j σ x4) (fun v5 σ6 => (if v5 = 0 then some (x4, σ6) else nm (x4 + 1) (fun v7 => fX8_countFitting_b16 j n σ6 x3 v7)))))
def fX8_countFitting (j : Nat) (σ : St) (p2 : Int32) : Option (Int32 × St) := bd (fX5_count 4 σ) (fun v1 σ2 => nm (if v1 < p2 then v1 else p2) (fun v3 => nm (if v3 < 1 then v3 else 1) (fun v4 => fX8_countFitting_b16 j 200 σ2 v3 v4)))
set_option maxHeartbeats 4000000 in
set_option maxRecDepth 100000 in
theorem mX8_countFitting {l : Launch} {D : va_G} {kS vS : Nat → Nat} {ad : Nat → Nat} {cI cF : ClassId} {j : Nat} {σ σ0 : St} {p2 : Int32} {r : Int32} (hI : Inj ad 18) (hj : jX8 j) (hf : fX8_countFitting j σ p2 = some (r, σ0)) : MI l D (tyC cI cF) (inA ad 18) kS vS yX8_countFitting cX8_countFitting 5 .int 2 44 [.ref (ad j), .ref (ad 4), .int p2] (wC ad cI cF σ) (wC ad cI cF σ0) r := by
  refine MI.of (by decide) (Nat.le_of_ble_eq_true rfl) (fun p e s m args below meth c ls Q hQ C hr hlk hP hS hl => ?_)
  obtain ⟨hx, hb, hml, hown, hts, hK, hKS⟩ := id C
  have hl : lv_has ls 5 [(0, .ref (ad j)), (1, .ref (ad 4)), (2, .int p2)] := hl
  have B16 : ∀ n : Nat, ∀ (σ : St) (x3 x4 : Int32) (H : Heap) (locs : List Loc) (ls : Array Slot), va_P D vwCl (wC ad cI cF σ) H → va_S (inA ad 18) s.heap H locs → lv_has ls 5 [(0, .ref (ad j)), (1, .ref (ad 4)), (3, .int x3), (4, .int x4)] → fX8_countFitting_b16 j n σ x3 x4 = some (r, σ0) → W p l e (rmN 2 44) s m args below meth c H locs 0 0 Q (F0 m 16 ls []) := by
    intro n
    induction n with
    | zero =>
      intro σ x3 x4 H locs ls hP hS hl hf
      exact nomatch (show (none : Option (Int32 × St)) = some (r, σ0) from hf)
    | succ n ih =>
      intro σ x3 x4 H locs ls hP hS hl hf
      rw [fX8_countFitting_b16] at hf
      refine lv_iload hx hb dX8_countFitting_16 (lv_at hl 3 rfl) ?_
      refine lv_if_le (tgt := 43) hx hb dX8_countFitting_18 (by decide) (fun hc => ?_) (fun hc => ?_)
      · have hf := ite_t hf hc
        refine lv_iload hx hb dX8_countFitting_43 (lv_at hl 3 rfl) ?_
        exact MI.ret (wf := wC ad cI cF) hQ C hr hlk rfl hf hP hS dX8_countFitting_45
      · have hf := ite_f hf hc
        refine lv_iload hx hb dX8_countFitting_21 (lv_at hl 3 rfl) ?_
        refine lv_iload_n hx hb dX8_countFitting_23 rfl (lv_at hl 2 rfl) ?_
        refine lv_icmp_ge (tgt := 43) hx hb dX8_countFitting_24 (by decide) (fun hc => ?_) (fun hc => ?_)
        · have hf := ite_t hf hc
          refine lv_iload hx hb dX8_countFitting_43 (lv_at hl 3 rfl) ?_
          exact MI.ret (wf := wC ad cI cF) hQ C hr hlk rfl hf hP hS dX8_countFitting_45
        · have hf := ite_f hf hc
          refine lv_aload_n hx hb dX8_countFitting_27 rfl (lv_at hl 0 rfl) ?_
          refine lv_aload_n hx hb dX8_countFitting_28 rfl (lv_at hl 1 rfl) ?_
          refine lv_iload hx hb dX8_countFitting_29 (lv_at hl 3 rfl) ?_
          obtain ⟨v5, σ6, hc, hf⟩ := bd_at hf
          refine callVI (As := [.ref (ad 4), .int x4]) (rest := []) C (mX8_isNext (j := j) hI hj hc) ⟨gt3_85, gt3_87, gtp17, gt1_7, gt3_88⟩ okX8_isNext ⟨Nat.le_of_ble_eq_true rfl, Nat.le_of_ble_eq_true rfl⟩ (rcvOf C hP (eX8 hj) rfl) rfl hl.1 rfl (Nat.le_of_ble_eq_true rfl) hP hS dX8_countFitting_31 (fun H locs hP hS => ?_)
          refine lv_if_eq (tgt := 43) hx hb dX8_countFitting_34 (by decide) (fun hc => ?_) (fun hc => ?_)
          · have hf := ite_t hf hc
            refine lv_iload hx hb dX8_countFitting_43 (lv_at hl 3 rfl) ?_
            exact MI.ret (wf := wC ad cI cF) hQ C hr hlk rfl hf hP hS dX8_countFitting_45
          · have hf := ite_f hf hc
            obtain ⟨v7, ev7⟩ : ∃ y : Int32, y = x4 + 1 := ⟨_, rfl⟩
            have hf := nm_at hf v7 ev7
            refine lv_iinc (v := v7) (lv' := [(4, .int v7), (0, .ref (ad j)), (1, .ref (ad 4)), (3, .int x3)]) hx hb dX8_countFitting_37 hl (k := 3) rfl (by rw [ev7]; rfl) (by decide) rfl (fun ls hl => ?_)
            refine lv_goto (tgt := 16) hx hb dX8_countFitting_40 (by decide) ?_
            exact ih σ6 x3 v7 _ _ _ hP hS (lv_sub hl [1, 2, 3, 0] rfl) hf
  unfold fX8_countFitting at hf
  refine lv_iload_n hx hb dX8_countFitting_0 rfl (lv_at hl 2 rfl) ?_
  refine lv_aload_n hx hb dX8_countFitting_1 rfl (lv_at hl 1 rfl) ?_
  obtain ⟨v1, σ2, hc, hf⟩ := bd_at hf
  refine callVI (As := []) (rest := [.int p2]) C (mX5_count (j := 4) hI (by decide) hc) ⟨gt3_83, gt2_1, gt2_2, gt1_5, gt2_3⟩ okX5_count ⟨Nat.le_of_ble_eq_true rfl, Nat.le_of_ble_eq_true rfl⟩ (rcvOf C hP (show (wC ad cI cF _)[4]? = some (ad 4, _) from rfl) rfl) rfl hl.1 rfl (Nat.le_of_ble_eq_true rfl) hP hS dX8_countFitting_2 (fun H locs hP hS => ?_)
  refine va_mmin hx hb (hml.trans hl.1.symm) hown (hts _ gt3_84) (hts _ gt2_144) (hts _ gt1_15) (hts _ gt2_145) (Nat.le_of_ble_eq_true rfl) (Nat.le_of_ble_eq_true rfl) (Nat.zero_le _) (Nat.zero_le _) dX8_countFitting_5 ?_
  refine lv_topi (fun v3 ev3 => ?_)
  have hf := nm_at hf v3 ev3
  refine lv_istore_n (lv' := [(3, .int v3), (0, .ref (ad j)), (1, .ref (ad 4)), (2, .int p2)]) hx hb dX8_countFitting_8 rfl hl (by decide) rfl (fun ls hl => ?_)
  refine lv_iconst (v := 1) hx hb dX8_countFitting_9 (by decide) ?_
  refine lv_iload_n hx hb dX8_countFitting_10 rfl (lv_at hl 0 rfl) ?_
  refine va_mmin hx hb (hml.trans hl.1.symm) hown (hts _ gt3_84) (hts _ gt2_144) (hts _ gt1_15) (hts _ gt2_145) (Nat.le_of_ble_eq_true rfl) (Nat.le_of_ble_eq_true rfl) (Nat.zero_le _) (Nat.zero_le _) dX8_countFitting_11 ?_
  refine lv_topi (fun v4 ev4 => ?_)
  have hf := nm_at hf v4 ev4
  refine lv_istore (lv' := [(4, .int v4), (3, .int v3), (0, .ref (ad j)), (1, .ref (ad 4)), (2, .int p2)]) hx hb dX8_countFitting_14 hl (by decide) rfl (fun ls hl => ?_)
  exact B16 200 σ2 v3 v4 _ _ _ hP hS (lv_sub hl [2, 3, 1, 0] rfl) hf
def fX1_set (σ : St) (p1 p2 : Int32) : Option (Int32 × St) := nm (up σ 8 1 p1) (fun σ1 => nm (up σ1 8 2 p2) (fun σ2 => nm (up σ2 8 3 0) (fun σ3 => some (0, σ3))))
set_option maxHeartbeats 4000000 in
set_option maxRecDepth 100000 in
theorem mX1_set {l : Launch} {D : va_G} {kS vS : Nat → Nat} {ad : Nat → Nat} {cI cF : ClassId} {σ σ0 : St} {p1 p2 : Int32} {r : Int32} (hI : Inj ad 18) (hf : fX1_set σ p1 p2 = some (r, σ0)) : MV l D (tyC cI cF) (inA ad 18) kS vS yX1_set cX1_set 3 0 0 [.ref (ad 8), .int p1, .int p2] (wC ad cI cF σ) (wC ad cI cF σ0) := by
  refine MV.of (by decide) (Nat.le_of_ble_eq_true rfl) (fun p e s m args below meth c ls Q hQ C hr hlk hP hS hl => ?_)
  obtain ⟨hx, hb, hml, hown, hts, hK, hKS⟩ := id C
  have hl : lv_has ls 3 [(0, .ref (ad 8)), (1, .int p1), (2, .int p2)] := hl
  unfold fX1_set at hf
  refine lv_aload_n hx hb dX1_set_0 rfl (lv_at hl 0 rfl) ?_
  refine lv_iload_n hx hb dX1_set_1 rfl (lv_at hl 1 rfl) ?_
  refine PX1_1 hI C hP hS gt1_65 rfl rfl dX1_set_2 (fun σ1 eσ1 H locs hP hS => ?_)
  have hf := nm_at hf σ1 eσ1
  refine lv_aload_n hx hb dX1_set_5 rfl (lv_at hl 0 rfl) ?_
  refine lv_iload_n hx hb dX1_set_6 rfl (lv_at hl 2 rfl) ?_
  refine PX1_2 hI C hP hS gt1_67 rfl rfl dX1_set_7 (fun σ2 eσ2 H locs hP hS => ?_)
  have hf := nm_at hf σ2 eσ2
  refine lv_aload_n hx hb dX1_set_10 rfl (lv_at hl 0 rfl) ?_
  refine lv_iconst (v := 0) hx hb dX1_set_11 (by decide) ?_
  refine PX1_3 hI C hP hS gt1_69 rfl rfl dX1_set_12 (fun σ3 eσ3 H locs hP hS => ?_)
  have hf := nm_at hf σ3 eσ3
  exact MV.ret (wf := wC ad cI cF) hQ C hr hlk hf hP hS dX1_set_15
def fX1_setBad (σ : St) (p1 : Int32) : Option (Int32 × St) := bd (fX1_set σ 2 p1) (fun _ σ2 => some (0, σ2))
set_option maxHeartbeats 4000000 in
set_option maxRecDepth 100000 in
theorem mX1_setBad {l : Launch} {D : va_G} {kS vS : Nat → Nat} {ad : Nat → Nat} {cI cF : ClassId} {σ σ0 : St} {p1 : Int32} {r : Int32} (hI : Inj ad 18) (hf : fX1_setBad σ p1 = some (r, σ0)) : MV l D (tyC cI cF) (inA ad 18) kS vS yX1_setBad cX1_setBad 2 1 22 [.ref (ad 8), .int p1] (wC ad cI cF σ) (wC ad cI cF σ0) := by
  refine MV.of (by decide) (Nat.le_of_ble_eq_true rfl) (fun p e s m args below meth c ls Q hQ C hr hlk hP hS hl => ?_)
  obtain ⟨hx, hb, hml, hown, hts, hK, hKS⟩ := id C
  have hl : lv_has ls 2 [(0, .ref (ad 8)), (1, .int p1)] := hl
  unfold fX1_setBad at hf
  refine lv_aload_n hx hb dX1_setBad_0 rfl (lv_at hl 0 rfl) ?_
  refine lv_iconst (v := 2) hx hb dX1_setBad_1 (by decide) ?_
  refine lv_iload_n hx hb dX1_setBad_2 rfl (lv_at hl 1 rfl) ?_
  obtain ⟨v1, σ2, hc, hf⟩ := bd_at hf
  refine callVV (As := [.int 2, .int p1]) (rest := []) C (mX1_set hI hc) ⟨gt2_28, gt2_30, gtp3, gt1_6, gt2_31⟩ okX1_set ⟨Nat.le_of_ble_eq_true rfl, Nat.le_of_ble_eq_true rfl⟩ (rcvOf C hP (show (wC ad cI cF _)[8]? = some (ad 8, _) from rfl) rfl) rfl hl.1 rfl (Nat.le_of_ble_eq_true rfl) hP hS dX1_setBad_3 (fun H locs hP hS => ?_)
  exact MV.ret (wf := wC ad cI cF) hQ C hr hlk hf hP hS dX1_setBad_6
def fX1_setNeed (σ : St) : Option (Int32 × St) := bd (fX1_set σ 0 0) (fun _ σ2 => some (0, σ2))
set_option maxHeartbeats 4000000 in
set_option maxRecDepth 100000 in
theorem mX1_setNeed {l : Launch} {D : va_G} {kS vS : Nat → Nat} {ad : Nat → Nat} {cI cF : ClassId} {σ σ0 : St} {r : Int32} (hI : Inj ad 18) (hf : fX1_setNeed σ  = some (r, σ0)) : MV l D (tyC cI cF) (inA ad 18) kS vS yX1_setNeed cX1_setNeed 1 1 22 [.ref (ad 8)] (wC ad cI cF σ) (wC ad cI cF σ0) := by
  refine MV.of (by decide) (Nat.le_of_ble_eq_true rfl) (fun p e s m args below meth c ls Q hQ C hr hlk hP hS hl => ?_)
  obtain ⟨hx, hb, hml, hown, hts, hK, hKS⟩ := id C
  have hl : lv_has ls 1 [(0, .ref (ad 8))] := hl
  unfold fX1_setNeed at hf
  refine lv_aload_n hx hb dX1_setNeed_0 rfl (lv_at hl 0 rfl) ?_
  refine lv_iconst (v := 0) hx hb dX1_setNeed_1 (by decide) ?_
  refine lv_iconst (v := 0) hx hb dX1_setNeed_2 (by decide) ?_
  obtain ⟨v1, σ2, hc, hf⟩ := bd_at hf
  refine callVV (As := [.int 0, .int 0]) (rest := []) C (mX1_set hI hc) ⟨gt2_28, gt2_30, gtp3, gt1_6, gt2_31⟩ okX1_set ⟨Nat.le_of_ble_eq_true rfl, Nat.le_of_ble_eq_true rfl⟩ (rcvOf C hP (show (wC ad cI cF _)[8]? = some (ad 8, _) from rfl) rfl) rfl hl.1 rfl (Nat.le_of_ble_eq_true rfl) hP hS dX1_setNeed_3 (fun H locs hP hS => ?_)
  exact MV.ret (wf := wC ad cI cF) hQ C hr hlk hf hP hS dX1_setNeed_6
def fX1_setStep (σ : St) (p1 : Int32) : Option (Int32 × St) := bd (fX1_set σ 1 p1) (fun _ σ2 => some (0, σ2))
set_option maxHeartbeats 4000000 in
set_option maxRecDepth 100000 in
theorem mX1_setStep {l : Launch} {D : va_G} {kS vS : Nat → Nat} {ad : Nat → Nat} {cI cF : ClassId} {σ σ0 : St} {p1 : Int32} {r : Int32} (hI : Inj ad 18) (hf : fX1_setStep σ p1 = some (r, σ0)) : MV l D (tyC cI cF) (inA ad 18) kS vS yX1_setStep cX1_setStep 2 1 22 [.ref (ad 8), .int p1] (wC ad cI cF σ) (wC ad cI cF σ0) := by
  refine MV.of (by decide) (Nat.le_of_ble_eq_true rfl) (fun p e s m args below meth c ls Q hQ C hr hlk hP hS hl => ?_)
  obtain ⟨hx, hb, hml, hown, hts, hK, hKS⟩ := id C
  have hl : lv_has ls 2 [(0, .ref (ad 8)), (1, .int p1)] := hl
  unfold fX1_setStep at hf
  refine lv_aload_n hx hb dX1_setStep_0 rfl (lv_at hl 0 rfl) ?_
  refine lv_iconst (v := 1) hx hb dX1_setStep_1 (by decide) ?_
  refine lv_iload_n hx hb dX1_setStep_2 rfl (lv_at hl 1 rfl) ?_
  obtain ⟨v1, σ2, hc, hf⟩ := bd_at hf
  refine callVV (As := [.int 1, .int p1]) (rest := []) C (mX1_set hI hc) ⟨gt2_28, gt2_30, gtp3, gt1_6, gt2_31⟩ okX1_set ⟨Nat.le_of_ble_eq_true rfl, Nat.le_of_ble_eq_true rfl⟩ (rcvOf C hP (show (wC ad cI cF _)[8]? = some (ad 8, _) from rfl) rfl) rfl hl.1 rfl (Nat.le_of_ble_eq_true rfl) hP hS dX1_setStep_3 (fun H locs hP hS => ?_)
  exact MV.ret (wf := wC ad cI cF) hQ C hr hlk hf hP hS dX1_setStep_6
