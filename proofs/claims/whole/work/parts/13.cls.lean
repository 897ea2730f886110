def fX7_decode (σ : St) : Option (Int32 × St) := bd (fX5_at 4 σ 0) (fun v1 σ2 => bd (fX3_copy 17 16 σ2) (fun _ σ4 => (if v1 < 128 then (if (σ4 16 0) = 0 then bd (fX7_decodePlain σ4 v1) (fun _ σ14 => some (0, σ14)) else bd (fX7_valueOf σ4 v1) (fun v5 σ6 => (if v5 < 0 then bd (fX7_decodeEnd σ6 v1) (fun _ σ8 => some (0, σ8)) else bd (fX7_valueOf σ6 v1) (fun v9 σ10 => bd (fX7_decodeSign σ10 v9) (fun _ σ12 => some (0, σ12)))))) else bd (fX1_setBad σ4 1) (fun _ σ16 => some (0, σ16)))))
set_option maxHeartbeats 4000000 in
set_option maxRecDepth 100000 in
theorem mX7_decode {l : Launch} {D : va_G} {kS vS : Nat → Nat} {ad : Nat → Nat} {cI cF : ClassId} {σ σ0 : St} {r : Int32} (hI : Inj ad 18) (hf : fX7_decode σ  = some (r, σ0)) : MV l D (tyC cI cF) (inA ad 18) kS vS yX7_decode cX7_decode 4 5 111 [.ref (ad 15), .ref (ad 4), .ref (ad 8)] (wC ad cI cF σ) (wC ad cI cF σ0) := by
  refine MV.of (by decide) (Nat.le_of_ble_eq_true rfl) (fun p e s m args below meth c ls Q hQ C hr hlk hP hS hl => ?_)
  obtain ⟨hx, hb, hml, hown, hts, hK, hKS⟩ := id C
  have hl : lv_has ls 4 [(0, .ref (ad 15)), (1, .ref (ad 4)), (2, .ref (ad 8))] := hl
  unfold fX7_decode at hf
  refine lv_aload_n hx hb dX7_decode_0 rfl (lv_at hl 1 rfl) ?_
  refine lv_iconst (v := 0) hx hb dX7_decode_1 (by decide) ?_
  obtain ⟨v1, σ2, hc, hf⟩ := bd_at hf
  refine callVI (As := [.int 0]) (rest := []) C (mX5_at (j := 4) hI (by decide) hc) ⟨gt2_99, gt2_39, gt2_40, gt1_5, gt2_41⟩ okX5_at ⟨Nat.le_of_ble_eq_true rfl, Nat.le_of_ble_eq_true rfl⟩ (rcvOf C hP (show (wC ad cI cF _)[4]? = some (ad 4, _) from rfl) rfl) rfl hl.1 rfl (Nat.le_of_ble_eq_true rfl) hP hS dX7_decode_2 (fun H locs hP hS => ?_)
  refine lv_istore_n (lv' := [(3, .int v1), (0, .ref (ad 15)), (1, .ref (ad 4)), (2, .ref (ad 8))]) hx hb dX7_decode_5 rfl hl (by decide) rfl (fun ls hl => ?_)
  refine lv_aload_n hx hb dX7_decode_6 rfl (lv_at hl 1 rfl) ?_
  refine GX7_1 C hP gt1_144 dX7_decode_7 ?_
  refine lv_aload_n hx hb dX7_decode_10 rfl (lv_at hl 1 rfl) ?_
  refine GX7_0 C hP gt1_143 dX7_decode_11 ?_
  obtain ⟨v3, σ4, hc, hf⟩ := bd_at hf
  refine callVV (As := [.ref (ad 16)]) (rest := []) C (mX3_copy (j := 17) (j2 := 16) hI (by decide) (by decide) hc) ⟨gt2_100, gt2_101, gt2_102, gt1_10, gt2_103⟩ okX3_copy ⟨Nat.le_of_ble_eq_true rfl, Nat.le_of_ble_eq_true rfl⟩ (rcvOf C hP (show (wC ad cI cF _)[17]? = some (ad 17, _) from rfl) rfl) rfl hl.1 rfl (Nat.le_of_ble_eq_true rfl) hP hS dX7_decode_14 (fun H locs hP hS => ?_)
  refine lv_iload_n hx hb dX7_decode_17 rfl (lv_at hl 0 rfl) ?_
  refine lv_sipush (v := 128) hx hb dX7_decode_18 (by decide) ?_
  refine lv_icmp_lt (tgt := 32) hx hb dX7_decode_21 (by decide) (fun hc => ?_) (fun hc => ?_)
  · have hf := ite_t hf hc
    refine lv_aload_n hx hb dX7_decode_32 rfl (lv_at hl 1 rfl) ?_
    refine GX7_0 C hP gt1_143 dX7_decode_33 ?_
    refine GX3_0N C hP (j := 16) (by decide) (by decide) dX7_decode_36 ?_
    refine lv_if_ne (tgt := 51) hx hb dX7_decode_39 (by decide) (fun hc => ?_) (fun hc => ?_)
    · have hf := ite_f hf hc
      refine lv_iload_n hx hb dX7_decode_51 rfl (lv_at hl 0 rfl) ?_
      obtain ⟨v5, σ6, hc, hf⟩ := bd_at hf
      refine callSI (As := [.int v1]) (rest := []) C (mX7_valueOf hI hc) ⟨gt2_108, gt2_109, gt1_9, gt2_110⟩ okX7_valueOf ⟨Nat.le_of_ble_eq_true rfl, Nat.le_of_ble_eq_true rfl⟩ rfl hl.1 rfl (Nat.le_of_ble_eq_true rfl) hP hS dX7_decode_52 (fun H locs hP hS => ?_)
      refine lv_if_lt (tgt := 70) hx hb dX7_decode_55 (by decide) (fun hc => ?_) (fun hc => ?_)
      · have hf := ite_t hf hc
        refine lv_aload_n hx hb dX7_decode_70 rfl (lv_at hl 1 rfl) ?_
        refine lv_iload_n hx hb dX7_decode_71 rfl (lv_at hl 0 rfl) ?_
        refine lv_aload_n hx hb dX7_decode_72 rfl (lv_at hl 3 rfl) ?_
        obtain ⟨v7, σ8, hc, hf⟩ := bd_at hf
        refine callVV (As := [.int v1, .ref (ad 8)]) (rest := []) C (mX7_decodeEnd hI hc) ⟨gt3_64, gt3_66, gtp14, gt1_9, gt3_67⟩ okX7_decodeEnd ⟨Nat.le_of_ble_eq_true rfl, Nat.le_of_ble_eq_true rfl⟩ (rcvOf C hP (show (wC ad cI cF _)[15]? = some (ad 15, _) from rfl) rfl) rfl hl.1 rfl (Nat.le_of_ble_eq_true rfl) hP hS dX7_decode_73 (fun H locs hP hS => ?_)
        exact MV.ret (wf := wC ad cI cF) hQ C hr hlk hf hP hS dX7_decode_76
      · have hf := ite_f hf hc
        refine lv_aload_n hx hb dX7_decode_58 rfl (lv_at hl 1 rfl) ?_
        refine lv_iload_n hx hb dX7_decode_59 rfl (lv_at hl 0 rfl) ?_
        obtain ⟨v9, σ10, hc, hf⟩ := bd_at hf
        refine callSI (As := [.int v1]) (rest := [.ref (ad 15)]) C (mX7_valueOf hI hc) ⟨gt2_108, gt2_109, gt1_9, gt2_110⟩ okX7_valueOf ⟨Nat.le_of_ble_eq_true rfl, Nat.le_of_ble_eq_true rfl⟩ rfl hl.1 rfl (Nat.le_of_ble_eq_true rfl) hP hS dX7_decode_60 (fun H locs hP hS => ?_)
        refine lv_aload_n hx hb dX7_decode_63 rfl (lv_at hl 3 rfl) ?_
        obtain ⟨v11, σ12, hc, hf⟩ := bd_at hf
        refine callVV (As := [.int v9, .ref (ad 8)]) (rest := []) C (mX7_decodeSign hI hc) ⟨gt3_60, gt3_62, gtp13, gt1_9, gt3_63⟩ okX7_decodeSign ⟨Nat.le_of_ble_eq_true rfl, Nat.le_of_ble_eq_true rfl⟩ (rcvOf C hP (show (wC ad cI cF _)[15]? = some (ad 15, _) from rfl) rfl) rfl hl.1 rfl (Nat.le_of_ble_eq_true rfl) hP hS dX7_decode_64 (fun H locs hP hS => ?_)
        refine lv_goto (tgt := 76) hx hb dX7_decode_67 (by decide) ?_
        exact MV.ret (wf := wC ad cI cF) hQ C hr hlk hf hP hS dX7_decode_76
    · have hf := ite_t hf hc
      refine lv_aload_n hx hb dX7_decode_42 rfl (lv_at hl 1 rfl) ?_
      refine lv_iload_n hx hb dX7_decode_43 rfl (lv_at hl 0 rfl) ?_
      refine lv_aload_n hx hb dX7_decode_44 rfl (lv_at hl 3 rfl) ?_
      obtain ⟨v13, σ14, hc, hf⟩ := bd_at hf
      refine callVV (As := [.int v1, .ref (ad 8)]) (rest := []) C (mX7_decodePlain hI hc) ⟨gt3_56, gt3_58, gtp12, gt1_9, gt3_59⟩ okX7_decodePlain ⟨Nat.le_of_ble_eq_true rfl, Nat.le_of_ble_eq_true rfl⟩ (rcvOf C hP (show (wC ad cI cF _)[15]? = some (ad 15, _) from rfl) rfl) rfl hl.1 rfl (Nat.le_of_ble_eq_true rfl) hP hS dX7_decode_45 (fun H locs hP hS => ?_)
      refine lv_goto (tgt := 76) hx hb dX7_decode_48 (by decide) ?_
      exact MV.ret (wf := wC ad cI cF) hQ C hr hlk hf hP hS dX7_decode_76
  · have hf := ite_f hf hc
    refine lv_aload_n hx hb dX7_decode_24 rfl (lv_at hl 3 rfl) ?_
    refine lv_iconst (v := 1) hx hb dX7_decode_25 (by decide) ?_
    obtain ⟨v15, σ16, hc, hf⟩ := bd_at hf
    refine callVV (As := [.int 1]) (rest := []) C (mX1_setBad hI hc) ⟨gt3_55, gt2_80, gt2_81, gt1_6, gt2_82⟩ okX1_setBad ⟨Nat.le_of_ble_eq_true rfl, Nat.le_of_ble_eq_true rfl⟩ (rcvOf C hP (show (wC ad cI cF _)[8]? = some (ad 8, _) from rfl) rfl) rfl hl.1 rfl (Nat.le_of_ble_eq_true rfl) hP hS dX7_decode_26 (fun H locs hP hS => ?_)
    refine lv_goto (tgt := 76) hx hb dX7_decode_29 (by decide) ?_
    exact MV.ret (wf := wC ad cI cF) hQ C hr hlk hf hP hS dX7_decode_76
def fX2_characterOf (σ : St) (p1 : Int32) : Option (Int32 × St) := (if 128 ≤ p1 then (if 256 ≤ p1 then some ((-1), σ) else ld (σ 2) 128 (p1 - 128) (fun v1 => some (v1, σ))) else some (p1, σ))
set_option maxHeartbeats 4000000 in
set_option maxRecDepth 100000 in
theorem mX2_characterOf {l : Launch} {D : va_G} {kS vS : Nat → Nat} {ad : Nat → Nat} {cI cF : ClassId} {σ σ0 : St} {p1 : Int32} {r : Int32} (hI : Inj ad 18) (hf : fX2_characterOf σ p1 = some (r, σ0)) : MI l D (tyC cI cF) (inA ad 18) kS vS yX2_characterOf cX2_characterOf 2 .int 0 0 [.ref (ad 1), .int p1] (wC ad cI cF σ) (wC ad cI cF σ0) r := by
  refine MI.of (by decide) (Nat.le_of_ble_eq_true rfl) (fun p e s m args below meth c ls Q hQ C hr hlk hP hS hl => ?_)
  obtain ⟨hx, hb, hml, hown, hts, hK, hKS⟩ := id C
  have hl : lv_has ls 2 [(0, .ref (ad 1)), (1, .int p1)] := hl
  unfold fX2_characterOf at hf
  refine lv_iload_n hx hb dX2_characterOf_0 rfl (lv_at hl 1 rfl) ?_
  refine lv_sipush (v := 128) hx hb dX2_characterOf_1 (by decide) ?_
  refine lv_icmp_ge (tgt := 9) hx hb dX2_characterOf_4 (by decide) (fun hc => ?_) (fun hc => ?_)
  · have hf := ite_t hf hc
    refine lv_iload_n hx hb dX2_characterOf_9 rfl (lv_at hl 1 rfl) ?_
    refine lv_sipush (v := 256) hx hb dX2_characterOf_10 (by decide) ?_
    refine lv_icmp_ge (tgt := 29) hx hb dX2_characterOf_13 (by decide) (fun hc => ?_) (fun hc => ?_)
    · have hf := ite_t hf hc
      refine lv_iconst (v := (-1)) hx hb dX2_characterOf_29 (by decide) ?_
      exact MI.ret (wf := wC ad cI cF) hQ C hr hlk rfl hf hP hS dX2_characterOf_30
    · have hf := ite_f hf hc
      refine lv_aload_n hx hb dX2_characterOf_16 rfl (lv_at hl 0 rfl) ?_
      refine GX2_0 C hP gt1_40 dX2_characterOf_17 ?_
      refine lv_iload_n hx hb dX2_characterOf_20 rfl (lv_at hl 1 rfl) ?_
      refine lv_sipush (v := 128) hx hb dX2_characterOf_21 (by decide) ?_
      refine lv_isub hx hb dX2_characterOf_24 ?_
      obtain ⟨hin, hf⟩ := ld_at hf
      refine aload C hP 2 rfl rfl hin dX2_characterOf_25 (fun v1 ev1 => ?_)
      have hf := hf v1 ev1
      refine lv_goto (tgt := 30) hx hb dX2_characterOf_26 (by decide) ?_
      exact MI.ret (wf := wC ad cI cF) hQ C hr hlk rfl hf hP hS dX2_characterOf_30
  · have hf := ite_f hf hc
    refine lv_iload_n hx hb dX2_characterOf_7 rfl (lv_at hl 1 rfl) ?_
    exact MI.ret (wf := wC ad cI cF) hQ C hr hlk rfl hf hP hS dX2_characterOf_8
def fX1_setUnknown (σ : St) (p1 : Int32) : Option (Int32 × St) := bd (fX1_set σ 3 p1) (fun _ σ2 => some (0, σ2))
set_option maxHeartbeats 4000000 in
set_option maxRecDepth 100000 in
theorem mX1_setUnknown {l : Launch} {D : va_G} {kS vS : Nat → Nat} {ad : Nat → Nat} {cI cF : ClassId} {σ σ0 : St} {p1 : Int32} {r : Int32} (hI : Inj ad 18) (hf : fX1_setUnknown σ p1 = some (r, σ0)) : MV l D (tyC cI cF) (inA ad 18) kS vS yX1_setUnknown cX1_setUnknown 2 1 22 [.ref (ad 8), .int p1] (wC ad cI cF σ) (wC ad cI cF σ0) := by
  refine MV.of (by decide) (Nat.le_of_ble_eq_true rfl) (fun p e s m args below meth c ls Q hQ C hr hlk hP hS hl => ?_)
  obtain ⟨hx, hb, hml, hown, hts, hK, hKS⟩ := id C
  have hl : lv_has ls 2 [(0, .ref (ad 8)), (1, .int p1)] := hl
  unfold fX1_setUnknown at hf
  refine lv_aload_n hx hb dX1_setUnknown_0 rfl (lv_at hl 0 rfl) ?_
  refine lv_iconst (v := 3) hx hb dX1_setUnknown_1 (by decide) ?_
  refine lv_iload_n hx hb dX1_setUnknown_2 rfl (lv_at hl 1 rfl) ?_
  obtain ⟨v1, σ2, hc, hf⟩ := bd_at hf
  refine callVV (As := [.int 3, .int p1]) (rest := []) C (mX1_set hI hc) ⟨gt2_28, gt2_30, gtp3, gt1_6, gt2_31⟩ okX1_set ⟨Nat.le_of_ble_eq_true rfl, Nat.le_of_ble_eq_true rfl⟩ (rcvOf C hP (show (wC ad cI cF _)[8]? = some (ad 8, _) from rfl) rfl) rfl hl.1 rfl (Nat.le_of_ble_eq_true rfl) hP hS dX1_setUnknown_3 (fun H locs hP hS => ?_)
  exact MV.ret (wf := wC ad cI cF) hQ C hr hlk hf hP hS dX1_setUnknown_6
def fX2_decode (σ : St) : Option (Int32 × St) := bd (fX5_at 4 σ 0) (fun v1 σ2 => bd (fX2_characterOf σ2 v1) (fun v3 σ4 => (if v3 < 0 then bd (fX1_setUnknown σ4 1) (fun _ σ6 => some (0, σ6)) else bd (fX1_setStep σ4 1) (fun _ σ8 => bd (fX1_add σ8 v3) (fun _ σ10 => some (0, σ10))))))
set_option maxHeartbeats 4000000 in
set_option maxRecDepth 100000 in
theorem mX2_decode {l : Launch} {D : va_G} {kS vS : Nat → Nat} {ad : Nat → Nat} {cI cF : ClassId} {σ σ0 : St} {r : Int32} (hI : Inj ad 18) (hf : fX2_decode σ  = some (r, σ0)) : MV l D (tyC cI cF) (inA ad 18) kS vS yX2_decode cX2_decode 4 2 43 [.ref (ad 1), .ref (ad 4), .ref (ad 8)] (wC ad cI cF σ) (wC ad cI cF σ0) := by
  refine MV.of (by decide) (Nat.le_of_ble_eq_true rfl) (fun p e s m args below meth c ls Q hQ C hr hlk hP hS hl => ?_)
  obtain ⟨hx, hb, hml, hown, hts, hK, hKS⟩ := id C
  have hl : lv_has ls 4 [(0, .ref (ad 1)), (1, .ref (ad 4)), (2, .ref (ad 8))] := hl
  unfold fX2_decode at hf
  refine lv_aload_n hx hb dX2_decode_0 rfl (lv_at hl 0 rfl) ?_
  refine lv_aload_n hx hb dX2_decode_1 rfl (lv_at hl 1 rfl) ?_
  refine lv_iconst (v := 0) hx hb dX2_decode_2 (by decide) ?_
  obtain ⟨v1, σ2, hc, hf⟩ := bd_at hf
  refine callVI (As := [.int 0]) (rest := [.ref (ad 1)]) C (mX5_at (j := 4) hI (by decide) hc) ⟨gt2_38, gt2_39, gt2_40, gt1_5, gt2_41⟩ okX5_at ⟨Nat.le_of_ble_eq_true rfl, Nat.le_of_ble_eq_true rfl⟩ (rcvOf C hP (show (wC ad cI cF _)[4]? = some (ad 4, _) from rfl) rfl) rfl hl.1 rfl (Nat.le_of_ble_eq_true rfl) hP hS dX2_decode_3 (fun H locs hP hS => ?_)
  obtain ⟨v3, σ4, hc, hf⟩ := bd_at hf
  refine callVI (As := [.int v1]) (rest := []) C (mX2_characterOf hI hc) ⟨gt3_30, gt3_32, gtp9, gt1_3, gt3_33⟩ okX2_characterOf ⟨Nat.le_of_ble_eq_true rfl, Nat.le_of_ble_eq_true rfl⟩ (rcvOf C hP (show (wC ad cI cF _)[1]? = some (ad 1, _) from rfl) rfl) rfl hl.1 rfl (Nat.le_of_ble_eq_true rfl) hP hS dX2_decode_6 (fun H locs hP hS => ?_)
  refine lv_istore_n (lv' := [(3, .int v3), (0, .ref (ad 1)), (1, .ref (ad 4)), (2, .ref (ad 8))]) hx hb dX2_decode_9 rfl hl (by decide) rfl (fun ls hl => ?_)
  refine lv_iload_n hx hb dX2_decode_10 rfl (lv_at hl 0 rfl) ?_
  refine lv_if_lt (tgt := 27) hx hb dX2_decode_11 (by decide) (fun hc => ?_) (fun hc => ?_)
  · have hf := ite_t hf hc
    refine lv_aload_n hx hb dX2_decode_27 rfl (lv_at hl 3 rfl) ?_
    refine lv_iconst (v := 1) hx hb dX2_decode_28 (by decide) ?_
    obtain ⟨v5, σ6, hc, hf⟩ := bd_at hf
    refine callVV (As := [.int 1]) (rest := []) C (mX1_setUnknown hI hc) ⟨gt2_66, gt2_67, gt2_68, gt1_6, gt2_69⟩ okX1_setUnknown ⟨Nat.le_of_ble_eq_true rfl, Nat.le_of_ble_eq_true rfl⟩ (rcvOf C hP (show (wC ad cI cF _)[8]? = some (ad 8, _) from rfl) rfl) rfl hl.1 rfl (Nat.le_of_ble_eq_true rfl) hP hS dX2_decode_29 (fun H locs hP hS => ?_)
    exact MV.ret (wf := wC ad cI cF) hQ C hr hlk hf hP hS dX2_decode_32
  · have hf := ite_f hf hc
    refine lv_aload_n hx hb dX2_decode_14 rfl (lv_at hl 3 rfl) ?_
    refine lv_iconst (v := 1) hx hb dX2_decode_15 (by decide) ?_
    obtain ⟨v7, σ8, hc, hf⟩ := bd_at hf
    refine callVV (As := [.int 1]) (rest := []) C (mX1_setStep hI hc) ⟨gt2_46, gt2_47, gt2_48, gt1_6, gt2_49⟩ okX1_setStep ⟨Nat.le_of_ble_eq_true rfl, Nat.le_of_ble_eq_true rfl⟩ (rcvOf C hP (show (wC ad cI cF _)[8]? = some (ad 8, _) from rfl) rfl) rfl hl.1 rfl (Nat.le_of_ble_eq_true rfl) hP hS dX2_decode_16 (fun H locs hP hS => ?_)
    refine lv_aload_n hx hb dX2_decode_19 rfl (lv_at hl 3 rfl) ?_
    refine lv_iload_n hx hb dX2_decode_20 rfl (lv_at hl 0 rfl) ?_
    obtain ⟨v9, σ10, hc, hf⟩ := bd_at hf
    refine callVV (As := [.int v3]) (rest := []) C (mX1_add hI hc) ⟨gt2_50, gt2_51, gt2_52, gt1_6, gt2_53⟩ okX1_add ⟨Nat.le_of_ble_eq_true rfl, Nat.le_of_ble_eq_true rfl⟩ (rcvOf C hP (show (wC ad cI cF _)[8]? = some (ad 8, _) from rfl) rfl) rfl hl.1 rfl (Nat.le_of_ble_eq_true rfl) hP hS dX2_decode_21 (fun H locs hP hS => ?_)
    refine lv_goto (tgt := 32) hx hb dX2_decode_24 (by decide) ?_
    exact MV.ret (wf := wC ad cI cF) hQ C hr hlk hf hP hS dX2_decode_32
def fv_decode (σ : St) : Option (Int32 × St) := if σ 0 5 = 0 then fX8_decode 10 σ else if σ 0 5 = 1 then fX8_decode 11 σ else if σ 0 5 = 2 then fX6_decode 12 σ else if σ 0 5 = 3 then fX6_decode 13 σ else if σ 0 5 = 4 then fX6_decode 14 σ else if σ 0 5 = 5 then fX7_decode σ else if σ 0 5 = 6 then fX2_decode σ else none
set_option maxHeartbeats 4000000 in
set_option maxRecDepth 100000 in
theorem dv_decode {p : Program} {l : Launch} {e : Env} {R : Room} {s : State} {m : MethodId} {args : Array Value} {below : List Frame} {meth : Method} {c : Code} {H : Heap} {locs : List Loc} {Q : State → Prop} {cc : ByteArray} {pc nL : Nat} {ls : Array Slot} {rest : List Value} {D : va_G} {kS vS : Nat → Nat} {ad : Nat → Nat} {cI cF : ClassId} {σ σ0 : St} {r : Int32} (hI : Inj ad 18) (C : Cx p c cc nL s m args RX9 D (tyC cI cF) (inA ad 18) kS vS) (hf : fv_decode σ = some (r, σ0)) (hR : 6 ≤ R.frames ∧ 134 ≤ R.locals) (hls : ls.size = nL) (hcat : (rest.map fun v => v.category).sum ≤ 8) (hP : va_P D vwCl (wC ad cI cF σ) H) (hS : va_S (inA ad 18) s.heap H locs) (hd : decode cc pc = .ok (.invokevirtual 152, 3))
    (kk : ∀ (H1 : Heap) (locs1 : List Loc), va_P D vwCl (wC ad cI cF σ0) H1 → va_S (inA ad 18) s.heap H1 locs1 → W p l e R s m args below meth c H1 locs1 0 0 Q (F0 m (pc + 3) ls (rest))) : W p l e R s m args below meth c H locs 0 0 Q (F0 m pc ls (.ref (ad 8) :: .ref (ad 4) :: .ref (ad (fK (σ 0 5).toNatClampNeg)) :: rest)) := by
  obtain ⟨hx, hb, hml, hown, hts, hK, hKS⟩ := id C
  unfold fv_decode at hf
  by_cases h0 : σ 0 5 = 0
  · have hf := ite_t hf h0
    rw [h0]
    exact callUV (x := ⟨"ResumableCoder$Form", "decode", "(LResumableCoder$Units;LResumableCoder$Move;)V"⟩) (C0 := RX8) (owner := "ResumableCoder$Form") (As := [.ref (ad 4), .ref (ad 8)]) (rest := rest) C (mX8_decode (j := 10) hI (by decide) hf) (va_cwA 2 hts (GT_in (in5 gt3_24 gt3_26 gt3_72 gt3_73 gt1_7 (cons_in gt3_74))) rfl rfl rfl (hKS.2.2.2.2.2.1 _ (by decide)) ⟨by decide, by decide, by decide +kernel⟩ ⟨Nat.le_trans (Nat.le_of_ble_eq_true rfl) hR.1, Nat.le_trans (Nat.le_of_ble_eq_true rfl) hR.2⟩) (rcvOf C hP (show (wC ad cI cF σ)[10]? = some (ad 10, _) from rfl) rfl) rfl hls rfl hcat hP hS hd kk
  have hf := ite_f hf h0
  by_cases h1 : σ 0 5 = 1
  · have hf := ite_t hf h1
    rw [h1]
    exact callUV (x := ⟨"ResumableCoder$Form", "decode", "(LResumableCoder$Units;LResumableCoder$Move;)V"⟩) (C0 := RX8) (owner := "ResumableCoder$Form") (As := [.ref (ad 4), .ref (ad 8)]) (rest := rest) C (mX8_decode (j := 11) hI (by decide) hf) (va_cwA 2 hts (GT_in (in5 gt3_24 gt3_26 gt3_72 gt3_73 gt1_7 (cons_in gt3_74))) rfl rfl rfl (hKS.2.2.2.2.2.1 _ (by decide)) ⟨by decide, by decide, by decide +kernel⟩ ⟨Nat.le_trans (Nat.le_of_ble_eq_true rfl) hR.1, Nat.le_trans (Nat.le_of_ble_eq_true rfl) hR.2⟩) (rcvOf C hP (show (wC ad cI cF σ)[11]? = some (ad 11, _) from rfl) rfl) rfl hls rfl hcat hP hS hd kk
  have hf := ite_f hf h1
  by_cases h2 : σ 0 5 = 2
  · have hf := ite_t hf h2
    rw [h2]
    exact callUV (x := ⟨"ResumableCoder$Form", "decode", "(LResumableCoder$Units;LResumableCoder$Move;)V"⟩) (C0 := RX6) (owner := "ResumableCoder$Form") (As := [.ref (ad 4), .ref (ad 8)]) (rest := rest) C (mX6_decode (j := 12) hI (by decide) hf) (va_cwA 2 hts (GT_in (in5 gt3_24 gt3_26 gt3_34 gt3_35 gt1_8 (cons_in gt3_36))) rfl rfl rfl (hKS.2.2.2.2.2.1 _ (by decide)) ⟨by decide, by decide, by decide +kernel⟩ ⟨Nat.le_trans (Nat.le_of_ble_eq_true rfl) hR.1, Nat.le_trans (Nat.le_of_ble_eq_true rfl) hR.2⟩) (rcvOf C hP (show (wC ad cI cF σ)[12]? = some (ad 12, _) from rfl) rfl) rfl hls rfl hcat hP hS hd kk
  have hf := ite_f hf h2
  by_cases h3 : σ 0 5 = 3
  · have hf := ite_t hf h3
    rw [h3]
    exact callUV (x := ⟨"ResumableCoder$Form", "decode", "(LResumableCoder$Units;LResumableCoder$Move;)V"⟩) (C0 := RX6) (owner := "ResumableCoder$Form") (As := [.ref (ad 4), .ref (ad 8)]) (rest := rest) C (mX6_decode (j := 13) hI (by decide) hf) (va_cwA 2 hts (GT_in (in5 gt3_24 gt3_26 gt3_34 gt3_35 gt1_8 (cons_in gt3_36))) rfl rfl rfl (hKS.2.2.2.2.2.1 _ (by decide)) ⟨by decide, by decide, by decide +kernel⟩ ⟨Nat.le_trans (Nat.le_of_ble_eq_true rfl) hR.1, Nat.le_trans (Nat.le_of_ble_eq_true rfl) hR.2⟩) (rcvOf C hP (show (wC ad cI cF σ)[13]? = some (ad 13, _) from rfl) rfl) rfl hls rfl hcat hP hS hd kk
  have hf := ite_f hf h3
  by_cases h4 : σ 0 5 = 4
  · have hf := ite_t hf h4
    rw [h4]
    exact callUV (x := ⟨"ResumableCoder$Form", "decode", "(LResumableCoder$Units;LResumableCoder$Move;)V"⟩) (C0 := RX6) (owner := "ResumableCoder$Form") (As := [.ref (ad 4), .ref (ad 8)]) (rest := rest) C (mX6_decode (j := 14) hI (by decide) hf) (va_cwA 2 hts (GT_in (in5 gt3_24 gt3_26 gt3_34 gt3_35 gt1_8 (cons_in gt3_36))) rfl rfl rfl (hKS.2.2.2.2.2.1 _ (by decide)) ⟨by decide, by decide, by decide +kernel⟩ ⟨Nat.le_trans (Nat.le_of_ble_eq_true rfl) hR.1, Nat.le_trans (Nat.le_of_ble_eq_true rfl) hR.2⟩) (rcvOf C hP (show (wC ad cI cF σ)[14]? = some (ad 14, _) from rfl) rfl) rfl hls rfl hcat hP hS hd kk
  have hf := ite_f hf h4
  by_cases h5 : σ 0 5 = 5
  · have hf := ite_t hf h5
    rw [h5]
    exact callUV (x := ⟨"ResumableCoder$Form", "decode", "(LResumableCoder$Units;LResumableCoder$Move;)V"⟩) (C0 := RX7) (owner := "ResumableCoder$Form") (As := [.ref (ad 4), .ref (ad 8)]) (rest := rest) C (mX7_decode hI hf) (va_cwA 2 hts (GT_in (in5 gt3_24 gt3_26 gt3_52 gt3_53 gt1_9 (cons_in gt3_54))) rfl rfl rfl (hKS.2.2.2.2.2.1 _ (by decide)) ⟨by decide, by decide, by decide +kernel⟩ ⟨Nat.le_trans (Nat.le_of_ble_eq_true rfl) hR.1, Nat.le_trans (Nat.le_of_ble_eq_true rfl) hR.2⟩) (rcvOf C hP (show (wC ad cI cF σ)[15]? = some (ad 15, _) from rfl) rfl) rfl hls rfl hcat hP hS hd kk
  have hf := ite_f hf h5
  by_cases h6 : σ 0 5 = 6
  · have hf := ite_t hf h6
    rw [h6]
    exact callUV (x := ⟨"ResumableCoder$Form", "decode", "(LResumableCoder$Units;LResumableCoder$Move;)V"⟩) (C0 := RX2) (owner := "ResumableCoder$Form") (As := [.ref (ad 4), .ref (ad 8)]) (rest := rest) C (mX2_decode hI hf) (va_cwA 2 hts (GT_in (in5 gt3_24 gt3_26 gt3_27 gt3_28 gt1_3 (cons_in gt3_29))) rfl rfl rfl (hKS.2.2.2.2.2.1 _ (by decide)) ⟨by decide, by decide, by decide +kernel⟩ ⟨Nat.le_trans (Nat.le_of_ble_eq_true rfl) hR.1, Nat.le_trans (Nat.le_of_ble_eq_true rfl) hR.2⟩) (rcvOf C hP (show (wC ad cI cF σ)[1]? = some (ad 1, _) from rfl) rfl) rfl hls rfl hcat hP hS hd kk
  have hf := ite_f hf h6
  exact nomatch (show (none : Option (Int32 × St)) = some (r, σ0) from hf)
def fX8_addLast_b4 : Nat → St → Int32 → Int32 → Option (Int32 × St)
  | 0, _, _, _ => none
  | n + 1, σ, x0, x3 => (if x3 < 0 then some (0, σ) else bd (fX1_add σ (128 + ((x0 >>> ((6 * x3) &&& 31)) &&& 63))) (fun _ σ3 => nm (x3 + (-1)) (fun v4 => fX8_addLast_b4 n σ3 x0 v4)))
def fX8_addLast (σ : St) (p0 p1 : Int32) : Option (Int32 × St) := nm (p1 - 1) (fun v1 => fX8_addLast_b4 200 σ p0 v1)
set_option maxHeartbeats 4000000 in
set_option maxRecDepth 100000 in
theorem mX8_addLast {l : Launch} {D : va_G} {kS vS : Nat → Nat} {ad : Nat → Nat} {cI cF : ClassId} {σ σ0 : St} {p0 p1 : Int32} {r : Int32} (hI : Inj ad 18) (hf : fX8_addLast σ p0 p1 = some (r, σ0)) : MV l D (tyC cI cF) (inA ad 18) kS vS yX8_addLast cX8_addLast 4 1 21 [.int p0, .int p1, .ref (ad 8)] (wC ad cI cF σ) (wC ad cI cF σ0) := by
  refine MV.of (by decide) (Nat.le_of_ble_eq_true rfl) (fun p e s m args below meth c ls Q hQ C hr hlk hP hS hl => ?_)
  obtain ⟨hx, hb, hml, hown, hts, hK, hKS⟩ := id C
  have hl : lv_has ls 4 [(0, .int p0), (1, .int p1), (2, .ref (ad 8))] := hl
  have B4 : ∀ n : Nat, ∀ (σ : St) (x0 x3 : Int32) (H : Heap) (locs : List Loc) (ls : Array Slot), va_P D vwCl (wC ad cI cF σ) H → va_S (inA ad 18) s.heap H locs → lv_has ls 4 [(0, .int x0), (2, .ref (ad 8)), (3, .int x3)] → fX8_addLast_b4 n σ x0 x3 = some (r, σ0) → W p l e (rmN 1 21) s m args below meth c H locs 0 0 Q (F0 m 4 ls []) := by
    intro n
    induction n with
    | zero =>
      intro σ x0 x3 H locs ls hP hS hl hf
      exact nomatch (show (none : Option (Int32 × St)) = some (r, σ0) from hf)
    | succ n ih =>
      intro σ x0 x3 H locs ls hP hS hl hf
      rw [fX8_addLast_b4] at hf
      refine lv_iload_n hx hb dX8_addLast_4 rfl (lv_at hl 2 rfl) ?_
      refine lv_if_lt (tgt := 31) hx hb dX8_addLast_5 (by decide) (fun hc => ?_) (fun hc => ?_)
      · have hf := ite_t hf hc
        exact MV.ret (wf := wC ad cI cF) hQ C hr hlk hf hP hS dX8_addLast_31
      · have hf := ite_f hf hc
        refine lv_aload_n hx hb dX8_addLast_8 rfl (lv_at hl 1 rfl) ?_
        refine lv_sipush (v := 128) hx hb dX8_addLast_9 (by decide) ?_
        refine lv_iload_n hx hb dX8_addLast_12 rfl (lv_at hl 0 rfl) ?_
        refine lv_bipush (v := 6) hx hb dX8_addLast_13 (by decide) ?_
        refine lv_iload_n hx hb dX8_addLast_15 rfl (lv_at hl 2 rfl) ?_
        refine lv_imul hx hb dX8_addLast_16 ?_
        refine lv_ishr hx hb dX8_addLast_17 ?_
        refine lv_bipush (v := 63) hx hb dX8_addLast_18 (by decide) ?_
        refine lv_iand hx hb dX8_addLast_20 ?_
        refine lv_iadd hx hb dX8_addLast_21 ?_
        obtain ⟨v2, σ3, hc, hf⟩ := bd_at hf
        refine callVV (As := [.int (128 + ((x0 >>> ((6 * x3) &&& 31)) &&& 63))]) (rest := []) C (mX1_add hI hc) ⟨gt3_12, gt2_51, gt2_52, gt1_6, gt2_53⟩ okX1_add ⟨Nat.le_of_ble_eq_true rfl, Nat.le_of_ble_eq_true rfl⟩ (rcvOf C hP (show (wC ad cI cF _)[8]? = some (ad 8, _) from rfl) rfl) rfl hl.1 rfl (Nat.le_of_ble_eq_true rfl) hP hS dX8_addLast_22 (fun H locs hP hS => ?_)
        obtain ⟨v4, ev4⟩ : ∃ y : Int32, y = x3 + (-1) := ⟨_, rfl⟩
        have hf := nm_at hf v4 ev4
        refine lv_iinc (v := v4) (lv' := [(3, .int v4), (0, .int x0), (2, .ref (ad 8))]) hx hb dX8_addLast_25 hl (k := 2) rfl (by rw [ev4]; rfl) (by decide) rfl (fun ls hl => ?_)
        refine lv_goto (tgt := 4) hx hb dX8_addLast_28 (by decide) ?_
        exact ih σ3 x0 v4 _ _ _ hP hS (lv_sub hl [1, 2, 0] rfl) hf
  unfold fX8_addLast at hf
  refine lv_iload_n hx hb dX8_addLast_0 rfl (lv_at hl 1 rfl) ?_
  refine lv_iconst (v := 1) hx hb dX8_addLast_1 (by decide) ?_
  refine lv_isub hx hb dX8_addLast_2 ?_
  refine lv_topi (fun v1 ev1 => ?_)
  have hf := nm_at hf v1 ev1
  refine lv_istore_n (lv' := [(3, .int v1), (0, .int p0), (1, .int p1), (2, .ref (ad 8))]) hx hb dX8_addLast_3 rfl hl (by decide) rfl (fun ls hl => ?_)
  exact B4 200 σ p0 v1 _ _ _ hP hS (lv_sub hl [1, 3, 0] rfl) hf
def fX8_addEncoding_b26 (j : Nat) (σ : St) (x1 : Int32) : Option (Int32 × St) := (if 2048 ≤ x1 then (if 65536 ≤ x1 then bd (fX1_add σ (240 + (x1 / 262144))) (fun _ σ2 => bd (fX8_addLast σ2 x1 3) (fun _ σ4 => some (0, σ4))) else bd (fX1_add σ (224 + (x1 / 4096))) (fun _ σ6 => bd (fX8_addLast σ6 x1 2) (fun _ σ8 => some (0, σ8)))) else bd (fX1_add σ (192 + (x1 / 64))) (fun _ σ10 => bd (fX8_addLast σ10 x1 1) (fun _ σ12 => some (0, σ12))))
def fX8_addEncoding (j : Nat) (σ : St) (p1 : Int32) : Option (Int32 × St) := (if 128 ≤ p1 then fX8_addEncoding_b26 j σ p1 else (if (σ j 0) = 0 then bd (fX1_add σ p1) (fun _ σ14 => some (0, σ14)) else (if p1 = 0 then fX8_addEncoding_b26 j σ p1 else bd (fX1_add σ p1) (fun _ σ16 => some (0, σ16)))))
set_option maxHeartbeats 4000000 in
set_option maxRecDepth 100000 in
theorem mX8_addEncoding {l : Launch} {D : va_G} {kS vS : Nat → Nat} {ad : Nat → Nat} {cI cF : ClassId} {j : Nat} {σ σ0 : St} {p1 : Int32} {r : Int32} (hI : Inj ad 18) (hj : jX8 j) (hf : fX8_addEncoding j σ p1 = some (r, σ0)) : MV l D (tyC cI cF) (inA ad 18) kS vS yX8_addEncoding cX8_addEncoding 3 2 44 [.ref (ad j), .int p1, .ref (ad 8)] (wC ad cI cF σ) (wC ad cI cF σ0) := by
  refine MV.of (by decide) (Nat.le_of_ble_eq_true rfl) (fun p e s m args below meth c ls Q hQ C hr hlk hP hS hl => ?_)
  obtain ⟨hx, hb, hml, hown, hts, hK, hKS⟩ := id C
  have hl : lv_has ls 3 [(0, .ref (ad j)), (1, .int p1), (2, .ref (ad 8))] := hl
  have B26 : ∀ (σ : St) (x1 : Int32) (H : Heap) (locs : List Loc) (ls : Array Slot), va_P D vwCl (wC ad cI cF σ) H → va_S (inA ad 18) s.heap H locs → lv_has ls 3 [(1, .int x1), (2, .ref (ad 8))] → fX8_addEncoding_b26 j σ x1 = some (r, σ0) → W p l e (rmN 2 44) s m args below meth c H locs 0 0 Q (F0 m 26 ls []) := by
    intro σ x1 H locs ls hP hS hl hf
    unfold fX8_addEncoding_b26 at hf
    refine lv_iload_n hx hb dX8_addEncoding_26 rfl (lv_at hl 0 rfl) ?_
    refine lv_sipush (v := 2048) hx hb dX8_addEncoding_27 (by decide) ?_
    refine lv_icmp_ge (tgt := 54) hx hb dX8_addEncoding_30 (by decide) (fun hc => ?_) (fun hc => ?_)
    · have hf := ite_t hf hc
      refine lv_iload_n hx hb dX8_addEncoding_54 rfl (lv_at hl 0 rfl) ?_
      refine lv_ldc hx hb (v := 65536) hown (hts _ gt3_16) dX8_addEncoding_55 ?_
      refine lv_icmp_ge (tgt := 82) hx hb dX8_addEncoding_57 (by decide) (fun hc => ?_) (fun hc => ?_)
      · have hf := ite_t hf hc
        refine lv_aload_n hx hb dX8_addEncoding_82 rfl (lv_at hl 1 rfl) ?_
        refine lv_sipush (v := 240) hx hb dX8_addEncoding_83 (by decide) ?_
        refine lv_iload_n hx hb dX8_addEncoding_86 rfl (lv_at hl 0 rfl) ?_
        refine lv_ldc hx hb (v := 262144) hown (hts _ gt3_17) dX8_addEncoding_87 ?_
        refine lv_idiv hx hb dX8_addEncoding_89 (by decide) ?_
        refine lv_iadd hx hb dX8_addEncoding_90 ?_
        obtain ⟨v1, σ2, hc, hf⟩ := bd_at hf
        refine callVV (As := [.int (240 + (x1 / 262144))]) (rest := []) C (mX1_add hI hc) ⟨gt3_12, gt2_51, gt2_52, gt1_6, gt2_53⟩ okX1_add ⟨Nat.le_of_ble_eq_true rfl, Nat.le_of_ble_eq_true rfl⟩ (rcvOf C hP (show (wC ad cI cF _)[8]? = some (ad 8, _) from rfl) rfl) rfl hl.1 rfl (Nat.le_of_ble_eq_true rfl) hP hS dX8_addEncoding_91 (fun H locs hP hS => ?_)
        refine lv_iload_n hx hb dX8_addEncoding_94 rfl (lv_at hl 0 rfl) ?_
        refine lv_iconst (v := 3) hx hb dX8_addEncoding_95 (by decide) ?_
        refine lv_aload_n hx hb dX8_addEncoding_96 rfl (lv_at hl 1 rfl) ?_
        obtain ⟨v3, σ4, hc, hf⟩ := bd_at hf
        refine callSV (As := [.int x1, .int 3, .ref (ad 8)]) (rest := []) C (mX8_addLast hI hc) ⟨gt3_13, gt3_14, gt1_7, gt3_15⟩ okX8_addLast ⟨Nat.le_of_ble_eq_true rfl, Nat.le_of_ble_eq_true rfl⟩ rfl hl.1 rfl (Nat.le_of_ble_eq_true rfl) hP hS dX8_addEncoding_97 (fun H locs hP hS => ?_)
        exact MV.ret (wf := wC ad cI cF) hQ C hr hlk hf hP hS dX8_addEncoding_100
      · have hf := ite_f hf hc
        refine lv_aload_n hx hb dX8_addEncoding_60 rfl (lv_at hl 1 rfl) ?_
        refine lv_sipush (v := 224) hx hb dX8_addEncoding_61 (by decide) ?_
        refine lv_iload_n hx hb dX8_addEncoding_64 rfl (lv_at hl 0 rfl) ?_
        refine lv_sipush (v := 4096) hx hb dX8_addEncoding_65 (by decide) ?_
        refine lv_idiv hx hb dX8_addEncoding_68 (by decide) ?_
        refine lv_iadd hx hb dX8_addEncoding_69 ?_
        obtain ⟨v5, σ6, hc, hf⟩ := bd_at hf
        refine callVV (As := [.int (224 + (x1 / 4096))]) (rest := []) C (mX1_add hI hc) ⟨gt3_12, gt2_51, gt2_52, gt1_6, gt2_53⟩ okX1_add ⟨Nat.le_of_ble_eq_true rfl, Nat.le_of_ble_eq_true rfl⟩ (rcvOf C hP (show (wC ad cI cF _)[8]? = some (ad 8, _) from rfl) rfl) rfl hl.1 rfl (Nat.le_of_ble_eq_true rfl) hP hS dX8_addEncoding_70 (fun H locs hP hS => ?_)
        refine lv_iload_n hx hb dX8_addEncoding_73 rfl (lv_at hl 0 rfl) ?_
        refine lv_iconst (v := 2) hx hb dX8_addEncoding_74 (by decide) ?_
        refine lv_aload_n hx hb dX8_addEncoding_75 rfl (lv_at hl 1 rfl) ?_
        obtain ⟨v7, σ8, hc, hf⟩ := bd_at hf
        refine callSV (As := [.int x1, .int 2, .ref (ad 8)]) (rest := []) C (mX8_addLast hI hc) ⟨gt3_13, gt3_14, gt1_7, gt3_15⟩ okX8_addLast ⟨Nat.le_of_ble_eq_true rfl, Nat.le_of_ble_eq_true rfl⟩ rfl hl.1 rfl (Nat.le_of_ble_eq_true rfl) hP hS dX8_addEncoding_76 (fun H locs hP hS => ?_)
        refine lv_goto (tgt := 100) hx hb dX8_addEncoding_79 (by decide) ?_
        exact MV.ret (wf := wC ad cI cF) hQ C hr hlk hf hP hS dX8_addEncoding_100
    · have hf := ite_f hf hc
      refine lv_aload_n hx hb dX8_addEncoding_33 rfl (lv_at hl 1 rfl) ?_
      refine lv_sipush (v := 192) hx hb dX8_addEncoding_34 (by decide) ?_
      refine lv_iload_n hx hb dX8_addEncoding_37 rfl (lv_at hl 0 rfl) ?_
      refine lv_bipush (v := 64) hx hb dX8_addEncoding_38 (by decide) ?_
      refine lv_idiv hx hb dX8_addEncoding_40 (by decide) ?_
      refine lv_iadd hx hb dX8_addEncoding_41 ?_
      obtain ⟨v9, σ10, hc, hf⟩ := bd_at hf
      refine callVV (As := [.int (192 + (x1 / 64))]) (rest := []) C (mX1_add hI hc) ⟨gt3_12, gt2_51, gt2_52, gt1_6, gt2_53⟩ okX1_add ⟨Nat.le_of_ble_eq_true rfl, Nat.le_of_ble_eq_true rfl⟩ (rcvOf C hP (show (wC ad cI cF _)[8]? = some (ad 8, _) from rfl) rfl) rfl hl.1 rfl (Nat.le_of_ble_eq_true rfl) hP hS dX8_addEncoding_42 (fun H locs hP hS => ?_)
      refine lv_iload_n hx hb dX8_addEncoding_45 rfl (lv_at hl 0 rfl) ?_
      refine lv_iconst (v := 1) hx hb dX8_addEncoding_46 (by decide) ?_
      refine lv_aload_n hx hb dX8_addEncoding_47 rfl (lv_at hl 1 rfl) ?_
      obtain ⟨v11, σ12, hc, hf⟩ := bd_at hf
      refine callSV (As := [.int x1, .int 1, .ref (ad 8)]) (rest := []) C (mX8_addLast hI hc) ⟨gt3_13, gt3_14, gt1_7, gt3_15⟩ okX8_addLast ⟨Nat.le_of_ble_eq_true rfl, Nat.le_of_ble_eq_true rfl⟩ rfl hl.1 rfl (Nat.le_of_ble_eq_true rfl) hP hS dX8_addEncoding_48 (fun H locs hP hS => ?_)
      refine lv_goto (tgt := 100) hx hb dX8_addEncoding_51 (by decide) ?_
      exact MV.ret (wf := wC ad cI cF) hQ C hr hlk hf hP hS dX8_addEncoding_100
  unfold fX8_addEncoding at hf
  refine lv_iload_n hx hb dX8_addEncoding_0 rfl (lv_at hl 1 rfl) ?_
  refine lv_sipush (v := 128) hx hb dX8_addEncoding_1 (by decide) ?_
  refine lv_icmp_ge (tgt := 26) hx hb dX8_addEncoding_4 (by decide) (fun hc => ?_) (fun hc => ?_)
  · have hf := ite_t hf hc
    exact B26 σ p1 _ _ _ hP hS (lv_sub hl [1, 2] rfl) hf
  · have hf := ite_f hf hc
    refine lv_aload_n hx hb dX8_addEncoding_7 rfl (lv_at hl 0 rfl) ?_
    refine GX8_0 C hP hj gt1_88 dX8_addEncoding_8 ?_
    refine lv_if_eq (tgt := 18) hx hb dX8_addEncoding_11 (by decide) (fun hc => ?_) (fun hc => ?_)
    · have hf := ite_t hf hc
      refine lv_aload_n hx hb dX8_addEncoding_18 rfl (lv_at hl 2 rfl) ?_
      refine lv_iload_n hx hb dX8_addEncoding_19 rfl (lv_at hl 1 rfl) ?_
      obtain ⟨v13, σ14, hc, hf⟩ := bd_at hf
      refine callVV (As := [.int p1]) (rest := []) C (mX1_add hI hc) ⟨gt3_12, gt2_51, gt2_52, gt1_6, gt2_53⟩ okX1_add ⟨Nat.le_of_ble_eq_true rfl, Nat.le_of_ble_eq_true rfl⟩ (rcvOf C hP (show (wC ad cI cF _)[8]? = some (ad 8, _) from rfl) rfl) rfl hl.1 rfl (Nat.le_of_ble_eq_true rfl) hP hS dX8_addEncoding_20 (fun H locs hP hS => ?_)
      refine lv_goto (tgt := 100) hx hb dX8_addEncoding_23 (by decide) ?_
      exact MV.ret (wf := wC ad cI cF) hQ C hr hlk hf hP hS dX8_addEncoding_100
    · have hf := ite_f hf hc
      refine lv_iload_n hx hb dX8_addEncoding_14 rfl (lv_at hl 1 rfl) ?_
      refine lv_if_eq (tgt := 26) hx hb dX8_addEncoding_15 (by decide) (fun hc => ?_) (fun hc => ?_)
      · have hf := ite_t hf hc
        exact B26 σ p1 _ _ _ hP hS (lv_sub hl [1, 2] rfl) hf
      · have hf := ite_f hf hc
        refine lv_aload_n hx hb dX8_addEncoding_18 rfl (lv_at hl 2 rfl) ?_
        refine lv_iload_n hx hb dX8_addEncoding_19 rfl (lv_at hl 1 rfl) ?_
        obtain ⟨v15, σ16, hc, hf⟩ := bd_at hf
        refine callVV (As := [.int p1]) (rest := []) C (mX1_add hI hc) ⟨gt3_12, gt2_51, gt2_52, gt1_6, gt2_53⟩ okX1_add ⟨Nat.le_of_ble_eq_true rfl, Nat.le_of_ble_eq_true rfl⟩ (rcvOf C hP (show (wC ad cI cF _)[8]? = some (ad 8, _) from rfl) rfl) rfl hl.1 rfl (Nat.le_of_ble_eq_true rfl) hP hS dX8_addEncoding_20 (fun H locs hP hS => ?_)
        refine lv_goto (tgt := 100) hx hb dX8_addEncoding_23 (by decide) ?_
        exact MV.ret (wf := wC ad cI cF) hQ C hr hlk hf hP hS dX8_addEncoding_100
def fX4_isHigh (σ : St) (p0 : Int32) : Option (Int32 × St) := (if p0 < 55296 then some (0, σ) else (if 56320 ≤ p0 then some (0, σ) else some (1, σ)))
set_option maxHeartbeats 4000000 in
set_option maxRecDepth 100000 in
theorem mX4_isHigh {l : Launch} {D : va_G} {kS vS : Nat → Nat} {ad : Nat → Nat} {cI cF : ClassId} {σ σ0 : St} {p0 : Int32} {r : Int32} (hI : Inj ad 18) (hf : fX4_isHigh σ p0 = some (r, σ0)) : MI l D (tyC cI cF) (inA ad 18) kS vS yX4_isHigh cX4_isHigh 1 .boolean 0 0 [.int p0] (wC ad cI cF σ) (wC ad cI cF σ0) r := by
  refine MI.of (by decide) (Nat.le_of_ble_eq_true rfl) (fun p e s m args below meth c ls Q hQ C hr hlk hP hS hl => ?_)
  obtain ⟨hx, hb, hml, hown, hts, hK, hKS⟩ := id C
  have hl : lv_has ls 1 [(0, .int p0)] := hl
  unfold fX4_isHigh at hf
  refine lv_iload_n hx hb dX4_isHigh_0 rfl (lv_at hl 0 rfl) ?_
  refine lv_ldc hx hb (v := 55296) hown (hts _ gt2_60) dX4_isHigh_1 ?_
  refine lv_icmp_lt (tgt := 16) hx hb dX4_isHigh_3 (by decide) (fun hc => ?_) (fun hc => ?_)
  · have hf := ite_t hf hc
    refine lv_iconst (v := 0) hx hb dX4_isHigh_16 (by decide) ?_
    exact MI.ret (wf := wC ad cI cF) hQ C hr hlk rfl hf hP hS dX4_isHigh_17
  · have hf := ite_f hf hc
    refine lv_iload_n hx hb dX4_isHigh_6 rfl (lv_at hl 0 rfl) ?_
    refine lv_ldc hx hb (v := 56320) hown (hts _ gt2_61) dX4_isHigh_7 ?_
    refine lv_icmp_ge (tgt := 16) hx hb dX4_isHigh_9 (by decide) (fun hc => ?_) (fun hc => ?_)
    · have hf := ite_t hf hc
      refine lv_iconst (v := 0) hx hb dX4_isHigh_16 (by decide) ?_
      exact MI.ret (wf := wC ad cI cF) hQ C hr hlk rfl hf hP hS dX4_isHigh_17
    · have hf := ite_f hf hc
      refine lv_iconst (v := 1) hx hb dX4_isHigh_12 (by decide) ?_
      refine lv_goto (tgt := 17) hx hb dX4_isHigh_13 (by decide) ?_
      exact MI.ret (wf := wC ad cI cF) hQ C hr hlk rfl hf hP hS dX4_isHigh_17
def fX4_isPair (σ : St) (p0 p1 : Int32) : Option (Int32 × St) := bd (fX4_isHigh σ p0) (fun v1 σ2 => (if v1 = 0 then some (0, σ2) else bd (fX4_isLow σ2 p1) (fun v3 σ4 => (if v3 = 0 then some (0, σ4) else some (1, σ4)))))
set_option maxHeartbeats 4000000 in
set_option maxRecDepth 100000 in
theorem mX4_isPair {l : Launch} {D : va_G} {kS vS : Nat → Nat} {ad : Nat → Nat} {cI cF : ClassId} {σ σ0 : St} {p0 p1 : Int32} {r : Int32} (hI : Inj ad 18) (hf : fX4_isPair σ p0 p1 = some (r, σ0)) : MI l D (tyC cI cF) (inA ad 18) kS vS yX4_isPair cX4_isPair 2 .boolean 1 20 [.int p0, .int p1] (wC ad cI cF σ) (wC ad cI cF σ0) r := by
  refine MI.of (by decide) (Nat.le_of_ble_eq_true rfl) (fun p e s m args below meth c ls Q hQ C hr hlk hP hS hl => ?_)
  obtain ⟨hx, hb, hml, hown, hts, hK, hKS⟩ := id C
  have hl : lv_has ls 2 [(0, .int p0), (1, .int p1)] := hl
  unfold fX4_isPair at hf
  refine lv_iload_n hx hb dX4_isPair_0 rfl (lv_at hl 0 rfl) ?_
  obtain ⟨v1, σ2, hc, hf⟩ := bd_at hf
  refine callSI (As := [.int p0]) (rest := []) C (mX4_isHigh hI hc) ⟨gt2_57, gt2_58, gt1_12, gt2_59⟩ okX4_isHigh ⟨Nat.le_of_ble_eq_true rfl, Nat.le_of_ble_eq_true rfl⟩ rfl hl.1 rfl (Nat.le_of_ble_eq_true rfl) hP hS dX4_isPair_1 (fun H locs hP hS => ?_)
  refine lv_if_eq (tgt := 18) hx hb dX4_isPair_4 (by decide) (fun hc => ?_) (fun hc => ?_)
  · have hf := ite_t hf hc
    refine lv_iconst (v := 0) hx hb dX4_isPair_18 (by decide) ?_
    exact MI.ret (wf := wC ad cI cF) hQ C hr hlk rfl hf hP hS dX4_isPair_19
  · have hf := ite_f hf hc
    refine lv_iload_n hx hb dX4_isPair_7 rfl (lv_at hl 1 rfl) ?_
    obtain ⟨v3, σ4, hc, hf⟩ := bd_at hf
    refine callSI (As := [.int p1]) (rest := []) C (mX4_isLow hI hc) ⟨gt2_62, gt2_63, gt1_12, gt2_64⟩ okX4_isLow ⟨Nat.le_of_ble_eq_true rfl, Nat.le_of_ble_eq_true rfl⟩ rfl hl.1 rfl (Nat.le_of_ble_eq_true rfl) hP hS dX4_isPair_8 (fun H locs hP hS => ?_)
    refine lv_if_eq (tgt := 18) hx hb dX4_isPair_11 (by decide) (fun hc => ?_) (fun hc => ?_)
    · have hf := ite_t hf hc
      refine lv_iconst (v := 0) hx hb dX4_isPair_18 (by decide) ?_
      exact MI.ret (wf := wC ad cI cF) hQ C hr hlk rfl hf hP hS dX4_isPair_19
    · have hf := ite_f hf hc
      refine lv_iconst (v := 1) hx hb dX4_isPair_14 (by decide) ?_
      refine lv_goto (tgt := 19) hx hb dX4_isPair_15 (by decide) ?_
      exact MI.ret (wf := wC ad cI cF) hQ C hr hlk rfl hf hP hS dX4_isPair_19
def fX4_setForUnpaired (σ : St) : Option (Int32 × St) := bd (fX5_count 4 σ) (fun v1 σ2 => (if v1 = 1 then bd (fX5_at 4 σ2 0) (fun v5 σ6 => bd (fX4_isHigh σ6 v5) (fun v7 σ8 => (if v7 = 0 then bd (fX1_setBad σ8 1) (fun _ σ10 => some (0, σ10)) else bd (fX1_setNeed σ8) (fun _ σ12 => some (0, σ12))))) else bd (fX1_setBad σ2 1) (fun _ σ4 => some (0, σ4))))
set_option maxHeartbeats 4000000 in
set_option maxRecDepth 100000 in
theorem mX4_setForUnpaired {l : Launch} {D : va_G} {kS vS : Nat → Nat} {ad : Nat → Nat} {cI cF : ClassId} {σ σ0 : St} {r : Int32} (hI : Inj ad 18) (hf : fX4_setForUnpaired σ  = some (r, σ0)) : MV l D (tyC cI cF) (inA ad 18) kS vS yX4_setForUnpaired cX4_setForUnpaired 2 2 43 [.ref (ad 4), .ref (ad 8)] (wC ad cI cF σ) (wC ad cI cF σ0) := by
  refine MV.of (by decide) (Nat.le_of_ble_eq_true rfl) (fun p e s m args below meth c ls Q hQ C hr hlk hP hS hl => ?_)
  obtain ⟨hx, hb, hml, hown, hts, hK, hKS⟩ := id C
  have hl : lv_has ls 2 [(0, .ref (ad 4)), (1, .ref (ad 8))] := hl
  unfold fX4_setForUnpaired at hf
  refine lv_aload_n hx hb dX4_setForUnpaired_0 rfl (lv_at hl 0 rfl) ?_
  obtain ⟨v1, σ2, hc, hf⟩ := bd_at hf
  refine callVI (As := []) (rest := []) C (mX5_count (j := 4) hI (by decide) hc) ⟨gt2_76, gt2_1, gt2_2, gt1_5, gt2_3⟩ okX5_count ⟨Nat.le_of_ble_eq_true rfl, Nat.le_of_ble_eq_true rfl⟩ (rcvOf C hP (show (wC ad cI cF _)[4]? = some (ad 4, _) from rfl) rfl) rfl hl.1 rfl (Nat.le_of_ble_eq_true rfl) hP hS dX4_setForUnpaired_1 (fun H locs hP hS => ?_)
  refine lv_iconst (v := 1) hx hb dX4_setForUnpaired_4 (by decide) ?_
  refine lv_icmp_ne (tgt := 26) hx hb dX4_setForUnpaired_5 (by decide) (fun hc => ?_) (fun hc => ?_)
  · have hf := ite_f hf hc
    refine lv_aload_n hx hb dX4_setForUnpaired_26 rfl (lv_at hl 1 rfl) ?_
    refine lv_iconst (v := 1) hx hb dX4_setForUnpaired_27 (by decide) ?_
    obtain ⟨v3, σ4, hc, hf⟩ := bd_at hf
    refine callVV (As := [.int 1]) (rest := []) C (mX1_setBad hI hc) ⟨gt2_79, gt2_80, gt2_81, gt1_6, gt2_82⟩ okX1_setBad ⟨Nat.le_of_ble_eq_true rfl, Nat.le_of_ble_eq_true rfl⟩ (rcvOf C hP (show (wC ad cI cF _)[8]? = some (ad 8, _) from rfl) rfl) rfl hl.1 rfl (Nat.le_of_ble_eq_true rfl) hP hS dX4_setForUnpaired_28 (fun H locs hP hS => ?_)
    exact MV.ret (wf := wC ad cI cF) hQ C hr hlk hf hP hS dX4_setForUnpaired_31
  · have hf := ite_t hf hc
    refine lv_aload_n hx hb dX4_setForUnpaired_8 rfl (lv_at hl 0 rfl) ?_
    refine lv_iconst (v := 0) hx hb dX4_setForUnpaired_9 (by decide) ?_
    obtain ⟨v5, σ6, hc, hf⟩ := bd_at hf
    refine callVI (As := [.int 0]) (rest := []) C (mX5_at (j := 4) hI (by decide) hc) ⟨gt2_77, gt2_39, gt2_40, gt1_5, gt2_41⟩ okX5_at ⟨Nat.le_of_ble_eq_true rfl, Nat.le_of_ble_eq_true rfl⟩ (rcvOf C hP (show (wC ad cI cF _)[4]? = some (ad 4, _) from rfl) rfl) rfl hl.1 rfl (Nat.le_of_ble_eq_true rfl) hP hS dX4_setForUnpaired_10 (fun H locs hP hS => ?_)
    obtain ⟨v7, σ8, hc, hf⟩ := bd_at hf
    refine callSI (As := [.int v5]) (rest := []) C (mX4_isHigh hI hc) ⟨gt2_57, gt2_58, gt1_12, gt2_59⟩ okX4_isHigh ⟨Nat.le_of_ble_eq_true rfl, Nat.le_of_ble_eq_true rfl⟩ rfl hl.1 rfl (Nat.le_of_ble_eq_true rfl) hP hS dX4_setForUnpaired_13 (fun H locs hP hS => ?_)
    refine lv_if_eq (tgt := 26) hx hb dX4_setForUnpaired_16 (by decide) (fun hc => ?_) (fun hc => ?_)
    · have hf := ite_t hf hc
      refine lv_aload_n hx hb dX4_setForUnpaired_26 rfl (lv_at hl 1 rfl) ?_
      refine lv_iconst (v := 1) hx hb dX4_setForUnpaired_27 (by decide) ?_
      obtain ⟨v9, σ10, hc, hf⟩ := bd_at hf
      refine callVV (As := [.int 1]) (rest := []) C (mX1_setBad hI hc) ⟨gt2_79, gt2_80, gt2_81, gt1_6, gt2_82⟩ okX1_setBad ⟨Nat.le_of_ble_eq_true rfl, Nat.le_of_ble_eq_true rfl⟩ (rcvOf C hP (show (wC ad cI cF _)[8]? = some (ad 8, _) from rfl) rfl) rfl hl.1 rfl (Nat.le_of_ble_eq_true rfl) hP hS dX4_setForUnpaired_28 (fun H locs hP hS => ?_)
      exact MV.ret (wf := wC ad cI cF) hQ C hr hlk hf hP hS dX4_setForUnpaired_31
    · have hf := ite_f hf hc
      refine lv_aload_n hx hb dX4_setForUnpaired_19 rfl (lv_at hl 1 rfl) ?_
      obtain ⟨v11, σ12, hc, hf⟩ := bd_at hf
      refine callVV (As := []) (rest := []) C (mX1_setNeed hI hc) ⟨gt2_78, gt2_25, gt2_26, gt1_6, gt2_27⟩ okX1_setNeed ⟨Nat.le_of_ble_eq_true rfl, Nat.le_of_ble_eq_true rfl⟩ (rcvOf C hP (show (wC ad cI cF _)[8]? = some (ad 8, _) from rfl) rfl) rfl hl.1 rfl (Nat.le_of_ble_eq_true rfl) hP hS dX4_setForUnpaired_20 (fun H locs hP hS => ?_)
      refine lv_goto (tgt := 31) hx hb dX4_setForUnpaired_23 (by decide) ?_
      exact MV.ret (wf := wC ad cI cF) hQ C hr hlk hf hP hS dX4_setForUnpaired_31
def fX4_codePoint (σ : St) (p0 p1 : Int32) : Option (Int32 × St) := some ((65536 + ((p0 - 55296) * 1024)) + (p1 - 56320), σ)
set_option maxHeartbeats 4000000 in
set_option maxRecDepth 100000 in
theorem mX4_codePoint {l : Launch} {D : va_G} {kS vS : Nat → Nat} {ad : Nat → Nat} {cI cF : ClassId} {σ σ0 : St} {p0 p1 : Int32} {r : Int32} (hI : Inj ad 18) (hf : fX4_codePoint σ p0 p1 = some (r, σ0)) : MI l D (tyC cI cF) (inA ad 18) kS vS yX4_codePoint cX4_codePoint 2 .int 0 0 [.int p0, .int p1] (wC ad cI cF σ) (wC ad cI cF σ0) r := by
  refine MI.of (by decide) (Nat.le_of_ble_eq_true rfl) (fun p e s m args below meth c ls Q hQ C hr hlk hP hS hl => ?_)
  obtain ⟨hx, hb, hml, hown, hts, hK, hKS⟩ := id C
  have hl : lv_has ls 2 [(0, .int p0), (1, .int p1)] := hl
  unfold fX4_codePoint at hf
  refine lv_ldc hx hb (v := 65536) hown (hts _ gt3_22) dX4_codePoint_0 ?_
  refine lv_iload_n hx hb dX4_codePoint_2 rfl (lv_at hl 0 rfl) ?_
  refine lv_ldc hx hb (v := 55296) hown (hts _ gt2_60) dX4_codePoint_3 ?_
  refine lv_isub hx hb dX4_codePoint_5 ?_
  refine lv_sipush (v := 1024) hx hb dX4_codePoint_6 (by decide) ?_
  refine lv_imul hx hb dX4_codePoint_9 ?_
  refine lv_iadd hx hb dX4_codePoint_10 ?_
  refine lv_iload_n hx hb dX4_codePoint_11 rfl (lv_at hl 1 rfl) ?_
  refine lv_ldc hx hb (v := 56320) hown (hts _ gt2_61) dX4_codePoint_12 ?_
  refine lv_isub hx hb dX4_codePoint_14 ?_
  refine lv_iadd hx hb dX4_codePoint_15 ?_
  exact MI.ret (wf := wC ad cI cF) hQ C hr hlk rfl hf hP hS dX4_codePoint_16
def fX8_encode_b20 (j : Nat) (σ : St) (x3 : Int32) : Option (Int32 × St) := bd (fX1_setStep σ 1) (fun _ σ4 => bd (fX8_addEncoding j σ4 x3) (fun _ σ6 => some (0, σ6)))
def fX8_encode (j : Nat) (σ : St) : Option (Int32 × St) := bd (fX5_at 4 σ 0) (fun v1 σ2 => (if (σ2 j 0) = 0 then bd (fX4_isEither σ2 v1) (fun v7 σ8 => (if v7 = 0 then fX8_encode_b20 j σ8 v1 else bd (fX5_at 4 σ8 1) (fun v9 σ10 => bd (fX4_isPair σ10 v1 v9) (fun v11 σ12 => (if v11 = 0 then bd (fX4_setForUnpaired σ12) (fun _ σ14 => some (0, σ14)) else bd (fX1_setStep σ12 2) (fun _ σ16 => bd (fX5_at 4 σ16 1) (fun v17 σ18 => bd (fX4_codePoint σ18 v1 v17) (fun v19 σ20 => bd (fX8_addEncoding j σ20 v19) (fun _ σ22 => some (0, σ22)))))))))) else fX8_encode_b20 j σ2 v1))
set_option maxHeartbeats 4000000 in
set_option maxRecDepth 100000 in
theorem mX8_encode {l : Launch} {D : va_G} {kS vS : Nat → Nat} {ad : Nat → Nat} {cI cF : ClassId} {j : Nat} {σ σ0 : St} {r : Int32} (hI : Inj ad 18) (hj : jX8 j) (hf : fX8_encode j σ  = some (r, σ0)) : MV l D (tyC cI cF) (inA ad 18) kS vS yX8_encode cX8_encode 4 3 66 [.ref (ad j), .ref (ad 4), .ref (ad 8)] (wC ad cI cF σ) (wC ad cI cF σ0) := by
  refine MV.of (by decide) (Nat.le_of_ble_eq_true rfl) (fun p e s m args below meth c ls Q hQ C hr hlk hP hS hl => ?_)
  obtain ⟨hx, hb, hml, hown, hts, hK, hKS⟩ := id C
  have hl : lv_has ls 4 [(0, .ref (ad j)), (1, .ref (ad 4)), (2, .ref (ad 8))] := hl
  have B20 : ∀ (σ : St) (x3 : Int32) (H : Heap) (locs : List Loc) (ls : Array Slot), va_P D vwCl (wC ad cI cF σ) H → va_S (inA ad 18) s.heap H locs → lv_has ls 4 [(0, .ref (ad j)), (2, .ref (ad 8)), (3, .int x3)] → fX8_encode_b20 j σ x3 = some (r, σ0) → W p l e (rmN 3 66) s m args below meth c H locs 0 0 Q (F0 m 20 ls []) := by
    intro σ x3 H locs ls hP hS hl hf
    unfold fX8_encode_b20 at hf
    refine lv_aload_n hx hb dX8_encode_20 rfl (lv_at hl 1 rfl) ?_
    refine lv_iconst (v := 1) hx hb dX8_encode_21 (by decide) ?_
    obtain ⟨v3, σ4, hc, hf⟩ := bd_at hf
    refine callVV (As := [.int 1]) (rest := []) C (mX1_setStep hI hc) ⟨gt3_7, gt2_47, gt2_48, gt1_6, gt2_49⟩ okX1_setStep ⟨Nat.le_of_ble_eq_true rfl, Nat.le_of_ble_eq_true rfl⟩ (rcvOf C hP (show (wC ad cI cF _)[8]? = some (ad 8, _) from rfl) rfl) rfl hl.1 rfl (Nat.le_of_ble_eq_true rfl) hP hS dX8_encode_22 (fun H locs hP hS => ?_)
    refine lv_aload_n hx hb dX8_encode_25 rfl (lv_at hl 0 rfl) ?_
    refine lv_iload_n hx hb dX8_encode_26 rfl (lv_at hl 2 rfl) ?_
    refine lv_aload_n hx hb dX8_encode_27 rfl (lv_at hl 1 rfl) ?_
    obtain ⟨v5, σ6, hc, hf⟩ := bd_at hf
    refine callVV (As := [.int x3, .ref (ad 8)]) (rest := []) C (mX8_addEncoding (j := j) hI hj hc) ⟨gt3_8, gt3_10, gtp8, gt1_7, gt3_11⟩ okX8_addEncoding ⟨Nat.le_of_ble_eq_true rfl, Nat.le_of_ble_eq_true rfl⟩ (rcvOf C hP (eX8 hj) rfl) rfl hl.1 rfl (Nat.le_of_ble_eq_true rfl) hP hS dX8_encode_28 (fun H locs hP hS => ?_)
    refine lv_goto (tgt := 73) hx hb dX8_encode_31 (by decide) ?_
    exact MV.ret (wf := wC ad cI cF) hQ C hr hlk hf hP hS dX8_encode_73
  unfold fX8_encode at hf
  refine lv_aload_n hx hb dX8_encode_0 rfl (lv_at hl 1 rfl) ?_
  refine lv_iconst (v := 0) hx hb dX8_encode_1 (by decide) ?_
  obtain ⟨v1, σ2, hc, hf⟩ := bd_at hf
  refine callVI (As := [.int 0]) (rest := []) C (mX5_at (j := 4) hI (by decide) hc) ⟨gt3_5, gt2_39, gt2_40, gt1_5, gt2_41⟩ okX5_at ⟨Nat.le_of_ble_eq_true rfl, Nat.le_of_ble_eq_true rfl⟩ (rcvOf C hP (show (wC ad cI cF _)[4]? = some (ad 4, _) from rfl) rfl) rfl hl.1 rfl (Nat.le_of_ble_eq_true rfl) hP hS dX8_encode_2 (fun H locs hP hS => ?_)
  refine lv_istore_n (lv' := [(3, .int v1), (0, .ref (ad j)), (1, .ref (ad 4)), (2, .ref (ad 8))]) hx hb dX8_encode_5 rfl hl (by decide) rfl (fun ls hl => ?_)
  refine lv_aload_n hx hb dX8_encode_6 rfl (lv_at hl 1 rfl) ?_
  refine GX8_0 C hP hj gt1_88 dX8_encode_7 ?_
  refine lv_if_ne (tgt := 20) hx hb dX8_encode_10 (by decide) (fun hc => ?_) (fun hc => ?_)
  · have hf := ite_f hf hc
    exact B20 σ2 v1 _ _ _ hP hS (lv_sub hl [1, 3, 0] rfl) hf
  · have hf := ite_t hf hc
    refine lv_iload_n hx hb dX8_encode_13 rfl (lv_at hl 0 rfl) ?_
    obtain ⟨v7, σ8, hc, hf⟩ := bd_at hf
    refine callSI (As := [.int v1]) (rest := []) C (mX4_isEither hI hc) ⟨gt3_6, gt2_71, gt1_12, gt2_72⟩ okX4_isEither ⟨Nat.le_of_ble_eq_true rfl, Nat.le_of_ble_eq_true rfl⟩ rfl hl.1 rfl (Nat.le_of_ble_eq_true rfl) hP hS dX8_encode_14 (fun H locs hP hS => ?_)
    refine lv_if_ne (tgt := 34) hx hb dX8_encode_17 (by decide) (fun hc => ?_) (fun hc => ?_)
    · have hf := ite_f hf hc
      refine lv_iload_n hx hb dX8_encode_34 rfl (lv_at hl 0 rfl) ?_
      refine lv_aload_n hx hb dX8_encode_35 rfl (lv_at hl 2 rfl) ?_
      refine lv_iconst (v := 1) hx hb dX8_encode_36 (by decide) ?_
      obtain ⟨v9, σ10, hc, hf⟩ := bd_at hf
      refine callVI (As := [.int 1]) (rest := [.int v1]) C (mX5_at (j := 4) hI (by decide) hc) ⟨gt3_5, gt2_39, gt2_40, gt1_5, gt2_41⟩ okX5_at ⟨Nat.le_of_ble_eq_true rfl, Nat.le_of_ble_eq_true rfl⟩ (rcvOf C hP (show (wC ad cI cF _)[4]? = some (ad 4, _) from rfl) rfl) rfl hl.1 rfl (Nat.le_of_ble_eq_true rfl) hP hS dX8_encode_37 (fun H locs hP hS => ?_)
      obtain ⟨v11, σ12, hc, hf⟩ := bd_at hf
      refine callSI (As := [.int v1, .int v9]) (rest := []) C (mX4_isPair hI hc) ⟨gt3_18, gt2_55, gt1_12, gt2_56⟩ okX4_isPair ⟨Nat.le_of_ble_eq_true rfl, Nat.le_of_ble_eq_true rfl⟩ rfl hl.1 rfl (Nat.le_of_ble_eq_true rfl) hP hS dX8_encode_40 (fun H locs hP hS => ?_)
      refine lv_if_eq (tgt := 68) hx hb dX8_encode_43 (by decide) (fun hc => ?_) (fun hc => ?_)
      · have hf := ite_t hf hc
        refine lv_aload_n hx hb dX8_encode_68 rfl (lv_at hl 2 rfl) ?_
        refine lv_aload_n hx hb dX8_encode_69 rfl (lv_at hl 3 rfl) ?_
        obtain ⟨v13, σ14, hc, hf⟩ := bd_at hf
        refine callSV (As := [.ref (ad 4), .ref (ad 8)]) (rest := []) C (mX4_setForUnpaired hI hc) ⟨gt3_23, gt2_74, gt1_12, gt2_75⟩ okX4_setForUnpaired ⟨Nat.le_of_ble_eq_true rfl, Nat.le_of_ble_eq_true rfl⟩ rfl hl.1 rfl (Nat.le_of_ble_eq_true rfl) hP hS dX8_encode_70 (fun H locs hP hS => ?_)
        exact MV.ret (wf := wC ad cI cF) hQ C hr hlk hf hP hS dX8_encode_73
      · have hf := ite_f hf hc
        refine lv_aload_n hx hb dX8_encode_46 rfl (lv_at hl 3 rfl) ?_
        refine lv_iconst (v := 2) hx hb dX8_encode_47 (by decide) ?_
        obtain ⟨v15, σ16, hc, hf⟩ := bd_at hf
        refine callVV (As := [.int 2]) (rest := []) C (mX1_setStep hI hc) ⟨gt3_7, gt2_47, gt2_48, gt1_6, gt2_49⟩ okX1_setStep ⟨Nat.le_of_ble_eq_true rfl, Nat.le_of_ble_eq_true rfl⟩ (rcvOf C hP (show (wC ad cI cF _)[8]? = some (ad 8, _) from rfl) rfl) rfl hl.1 rfl (Nat.le_of_ble_eq_true rfl) hP hS dX8_encode_48 (fun H locs hP hS => ?_)
        refine lv_aload_n hx hb dX8_encode_51 rfl (lv_at hl 1 rfl) ?_
        refine lv_iload_n hx hb dX8_encode_52 rfl (lv_at hl 0 rfl) ?_
        refine lv_aload_n hx hb dX8_encode_53 rfl (lv_at hl 2 rfl) ?_
        refine lv_iconst (v := 1) hx hb dX8_encode_54 (by decide) ?_
        obtain ⟨v17, σ18, hc, hf⟩ := bd_at hf
        refine callVI (As := [.int 1]) (rest := [.int v1, .ref (ad j)]) C (mX5_at (j := 4) hI (by decide) hc) ⟨gt3_5, gt2_39, gt2_40, gt1_5, gt2_41⟩ okX5_at ⟨Nat.le_of_ble_eq_true rfl, Nat.le_of_ble_eq_true rfl⟩ (rcvOf C hP (show (wC ad cI cF _)[4]? = some (ad 4, _) from rfl) rfl) rfl hl.1 rfl (Nat.le_of_ble_eq_true rfl) hP hS dX8_encode_55 (fun H locs hP hS => ?_)
        obtain ⟨v19, σ20, hc, hf⟩ := bd_at hf
        refine callSI (As := [.int v1, .int v17]) (rest := [.ref (ad j)]) C (mX4_codePoint hI hc) ⟨gt3_19, gt3_20, gt1_12, gt3_21⟩ okX4_codePoint ⟨Nat.le_of_ble_eq_true rfl, Nat.le_of_ble_eq_true rfl⟩ rfl hl.1 rfl (Nat.le_of_ble_eq_true rfl) hP hS dX8_encode_58 (fun H locs hP hS => ?_)
        refine lv_aload_n hx hb dX8_encode_61 rfl (lv_at hl 3 rfl) ?_
        obtain ⟨v21, σ22, hc, hf⟩ := bd_at hf
        refine callVV (As := [.int v19, .ref (ad 8)]) (rest := []) C (mX8_addEncoding (j := j) hI hj hc) ⟨gt3_8, gt3_10, gtp8, gt1_7, gt3_11⟩ okX8_addEncoding ⟨Nat.le_of_ble_eq_true rfl, Nat.le_of_ble_eq_true rfl⟩ (rcvOf C hP (eX8 hj) rfl) rfl hl.1 rfl (Nat.le_of_ble_eq_true rfl) hP hS dX8_encode_62 (fun H locs hP hS => ?_)
        refine lv_goto (tgt := 73) hx hb dX8_encode_65 (by decide) ?_
        exact MV.ret (wf := wC ad cI cF) hQ C hr hlk hf hP hS dX8_encode_73
    · have hf := ite_t hf hc
      exact B20 σ8 v1 _ _ _ hP hS (lv_sub hl [1, 3, 0] rfl) hf
def fX6_addBytes_b21 (j : Nat) (σ : St) (x1 y0 : Int32) : Option (Int32 × St) := bd (fX1_add σ y0) (fun _ σ2 => (if (σ2 j 3) = 0 then bd (fX1_add σ2 (x1 - x1 / 256 * 256)) (fun _ σ4 => some (0, σ4)) else bd (fX1_add σ2 (x1 / 256)) (fun _ σ6 => some (0, σ6))))
def fX6_addBytes (j : Nat) (σ : St) (p1 : Int32) : Option (Int32 × St) := (if (σ j 3) = 0 then fX6_addBytes_b21 j σ p1 (p1 / 256) else fX6_addBytes_b21 j σ p1 (p1 - p1 / 256 * 256))
set_option maxHeartbeats 4000000 in
set_option maxRecDepth 100000 in
theorem mX6_addBytes {l : Launch} {D : va_G} {kS vS : Nat → Nat} {ad : Nat → Nat} {cI cF : ClassId} {j : Nat} {σ σ0 : St} {p1 : Int32} {r : Int32} (hI : Inj ad 18) (hj : jX6 j) (hf : fX6_addBytes j σ p1 = some (r, σ0)) : MV l D (tyC cI cF) (inA ad 18) kS vS yX6_addBytes cX6_addBytes 3 1 21 [.ref (ad j), .int p1, .ref (ad 8)] (wC ad cI cF σ) (wC ad cI cF σ0) := by
  refine MV.of (by decide) (Nat.le_of_ble_eq_true rfl) (fun p e s m args below meth c ls Q hQ C hr hlk hP hS hl => ?_)
  obtain ⟨hx, hb, hml, hown, hts, hK, hKS⟩ := id C
  have hl : lv_has ls 3 [(0, .ref (ad j)), (1, .int p1), (2, .ref (ad 8))] := hl
  have B21 : ∀ (σ : St) (x1 y0 : Int32) (H : Heap) (locs : List Loc) (ls : Array Slot), va_P D vwCl (wC ad cI cF σ) H → va_S (inA ad 18) s.heap H locs → lv_has ls 3 [(0, .ref (ad j)), (1, .int x1), (2, .ref (ad 8))] → fX6_addBytes_b21 j σ x1 y0 = some (r, σ0) → W p l e (rmN 1 21) s m args below meth c H locs 0 0 Q (F0 m 21 ls [.int y0, .ref (ad 8)]) := by
    intro σ x1 y0 H locs ls hP hS hl hf
    unfold fX6_addBytes_b21 at hf
    obtain ⟨v1, σ2, hc, hf⟩ := bd_at hf
    refine callVV (As := [.int y0]) (rest := []) C (mX1_add hI hc) ⟨gt2_88, gt2_51, gt2_52, gt1_6, gt2_53⟩ okX1_add ⟨Nat.le_of_ble_eq_true rfl, Nat.le_of_ble_eq_true rfl⟩ (rcvOf C hP (show (wC ad cI cF _)[8]? = some (ad 8, _) from rfl) rfl) rfl hl.1 rfl (Nat.le_of_ble_eq_true rfl) hP hS dX6_addBytes_21 (fun H locs hP hS => ?_)
    refine lv_aload_n hx hb dX6_addBytes_24 rfl (lv_at hl 2 rfl) ?_
    refine lv_aload_n hx hb dX6_addBytes_25 rfl (lv_at hl 0 rfl) ?_
    refine GX6_3 C hP hj gt1_101 dX6_addBytes_26 ?_
    refine lv_if_eq (tgt := 40) hx hb dX6_addBytes_29 (by decide) (fun hc => ?_) (fun hc => ?_)
    · have hf := ite_t hf hc
      refine lv_iload_n hx hb dX6_addBytes_40 rfl (lv_at hl 1 rfl) ?_
      refine lv_sipush (v := 256) hx hb dX6_addBytes_41 (by decide) ?_
      refine lv_irem hx hb dX6_addBytes_44 (by decide) ?_
      obtain ⟨v3, σ4, hc, hf⟩ := bd_at hf
      refine callVV (As := [.int (x1 - x1 / 256 * 256)]) (rest := []) C (mX1_add hI hc) ⟨gt2_88, gt2_51, gt2_52, gt1_6, gt2_53⟩ okX1_add ⟨Nat.le_of_ble_eq_true rfl, Nat.le_of_ble_eq_true rfl⟩ (rcvOf C hP (show (wC ad cI cF _)[8]? = some (ad 8, _) from rfl) rfl) rfl hl.1 rfl (Nat.le_of_ble_eq_true rfl) hP hS dX6_addBytes_45 (fun H locs hP hS => ?_)
      exact MV.ret (wf := wC ad cI cF) hQ C hr hlk hf hP hS dX6_addBytes_48
    · have hf := ite_f hf hc
      refine lv_iload_n hx hb dX6_addBytes_32 rfl (lv_at hl 1 rfl) ?_
      refine lv_sipush (v := 256) hx hb dX6_addBytes_33 (by decide) ?_
      refine lv_idiv hx hb dX6_addBytes_36 (by decide) ?_
      refine lv_goto (tgt := 45) hx hb dX6_addBytes_37 (by decide) ?_
      obtain ⟨v5, σ6, hc, hf⟩ := bd_at hf
      refine callVV (As := [.int (x1 / 256)]) (rest := []) C (mX1_add hI hc) ⟨gt2_88, gt2_51, gt2_52, gt1_6, gt2_53⟩ okX1_add ⟨Nat.le_of_ble_eq_true rfl, Nat.le_of_ble_eq_true rfl⟩ (rcvOf C hP (show (wC ad cI cF _)[8]? = some (ad 8, _) from rfl) rfl) rfl hl.1 rfl (Nat.le_of_ble_eq_true rfl) hP hS dX6_addBytes_45 (fun H locs hP hS => ?_)
      exact MV.ret (wf := wC ad cI cF) hQ C hr hlk hf hP hS dX6_addBytes_48
  unfold fX6_addBytes at hf
  refine lv_aload_n hx hb dX6_addBytes_0 rfl (lv_at hl 2 rfl) ?_
  refine lv_aload_n hx hb dX6_addBytes_1 rfl (lv_at hl 0 rfl) ?_
  refine GX6_3 C hP hj gt1_101 dX6_addBytes_2 ?_
  refine lv_if_eq (tgt := 16) hx hb dX6_addBytes_5 (by decide) (fun hc => ?_) (fun hc => ?_)
  · have hf := ite_t hf hc
    refine lv_iload_n hx hb dX6_addBytes_16 rfl (lv_at hl 1 rfl) ?_
    refine lv_sipush (v := 256) hx hb dX6_addBytes_17 (by decide) ?_
    refine lv_idiv hx hb dX6_addBytes_20 (by decide) ?_
    exact B21 σ p1 (p1 / 256) _ _ _ hP hS (lv_sub hl [0, 1, 2] rfl) hf
  · have hf := ite_f hf hc
    refine lv_iload_n hx hb dX6_addBytes_8 rfl (lv_at hl 1 rfl) ?_
    refine lv_sipush (v := 256) hx hb dX6_addBytes_9 (by decide) ?_
    refine lv_irem hx hb dX6_addBytes_12 (by decide) ?_
    refine lv_goto (tgt := 21) hx hb dX6_addBytes_13 (by decide) ?_
    exact B21 σ p1 (p1 - p1 / 256 * 256) _ _ _ hP hS (lv_sub hl [0, 1, 2] rfl) hf
def fX6_encode_b42 (j : Nat) (σ : St) (x3 : Int32) : Option (Int32 × St) := bd (fX4_isEither σ x3) (fun v3 σ4 => (if v3 = 0 then bd (fX1_setStep σ4 1) (fun _ σ20 => bd (fX6_addBytes j σ20 x3) (fun _ σ22 => some (0, σ22))) else bd (fX5_at 4 σ4 1) (fun v5 σ6 => bd (fX4_isPair σ6 x3 v5) (fun v7 σ8 => (if v7 = 0 then bd (fX4_setForUnpaired σ8) (fun _ σ10 => some (0, σ10)) else bd (fX1_setStep σ8 2) (fun _ σ12 => bd (fX6_addBytes j σ12 x3) (fun _ σ14 => bd (fX5_at 4 σ14 1) (fun v15 σ16 => bd (fX6_addBytes j σ16 v15) (fun _ σ18 => some (0, σ18))))))))))
def fX6_encode (j : Nat) (σ : St) : Option (Int32 × St) := bd (fX5_at 4 σ 0) (fun v1 σ2 => (if (σ2 j 0) = 0 then fX6_encode_b42 j σ2 v1 else (if (σ2 j 2) = 0 then fX6_encode_b42 j σ2 v1 else bd (fX1_setStep σ2 0) (fun _ σ24 => bd (fX1_add σ24 254) (fun _ σ26 => bd (fX1_add σ26 255) (fun _ σ28 => some (0, σ28)))))))
set_option maxHeartbeats 4000000 in
set_option maxRecDepth 100000 in
theorem mX6_encode {l : Launch} {D : va_G} {kS vS : Nat → Nat} {ad : Nat → Nat} {cI cF : ClassId} {j : Nat} {σ σ0 : St} {r : Int32} (hI : Inj ad 18) (hj : jX6 j) (hf : fX6_encode j σ  = some (r, σ0)) : MV l D (tyC cI cF) (inA ad 18) kS vS yX6_encode cX6_encode 4 3 64 [.ref (ad j), .ref (ad 4), .ref (ad 8)] (wC ad cI cF σ) (wC ad cI cF σ0) := by
  refine MV.of (by decide) (Nat.le_of_ble_eq_true rfl) (fun p e s m args below meth c ls Q hQ C hr hlk hP hS hl => ?_)
  obtain ⟨hx, hb, hml, hown, hts, hK, hKS⟩ := id C
  have hl : lv_has ls 4 [(0, .ref (ad j)), (1, .ref (ad 4)), (2, .ref (ad 8))] := hl
  have B42 : ∀ (σ : St) (x3 : Int32) (H : Heap) (locs : List Loc) (ls : Array Slot), va_P D vwCl (wC ad cI cF σ) H → va_S (inA ad 18) s.heap H locs → lv_has ls 4 [(0, .ref (ad j)), (1, .ref (ad 4)), (2, .ref (ad 8)), (3, .int x3)] → fX6_encode_b42 j σ x3 = some (r, σ0) → W p l e (rmN 3 64) s m args below meth c H locs 0 0 Q (F0 m 42 ls []) := by
    intro σ x3 H locs ls hP hS hl hf
    unfold fX6_encode_b42 at hf
    refine lv_iload_n hx hb dX6_encode_42 rfl (lv_at hl 3 rfl) ?_
    obtain ⟨v3, σ4, hc, hf⟩ := bd_at hf
    refine callSI (As := [.int x3]) (rest := []) C (mX4_isEither hI hc) ⟨gt2_89, gt2_71, gt1_12, gt2_72⟩ okX4_isEither ⟨Nat.le_of_ble_eq_true rfl, Nat.le_of_ble_eq_true rfl⟩ rfl hl.1 rfl (Nat.le_of_ble_eq_true rfl) hP hS dX6_encode_43 (fun H locs hP hS => ?_)
    refine lv_if_ne (tgt := 63) hx hb dX6_encode_46 (by decide) (fun hc => ?_) (fun hc => ?_)
    · have hf := ite_f hf hc
      refine lv_iload_n hx hb dX6_encode_63 rfl (lv_at hl 3 rfl) ?_
      refine lv_aload_n hx hb dX6_encode_64 rfl (lv_at hl 1 rfl) ?_
      refine lv_iconst (v := 1) hx hb dX6_encode_65 (by decide) ?_
      obtain ⟨v5, σ6, hc, hf⟩ := bd_at hf
      refine callVI (As := [.int 1]) (rest := [.int x3]) C (mX5_at (j := 4) hI (by decide) hc) ⟨gt2_86, gt2_39, gt2_40, gt1_5, gt2_41⟩ okX5_at ⟨Nat.le_of_ble_eq_true rfl, Nat.le_of_ble_eq_true rfl⟩ (rcvOf C hP (show (wC ad cI cF _)[4]? = some (ad 4, _) from rfl) rfl) rfl hl.1 rfl (Nat.le_of_ble_eq_true rfl) hP hS dX6_encode_66 (fun H locs hP hS => ?_)
      obtain ⟨v7, σ8, hc, hf⟩ := bd_at hf
      refine callSI (As := [.int x3, .int v5]) (rest := []) C (mX4_isPair hI hc) ⟨gt2_94, gt2_55, gt1_12, gt2_56⟩ okX4_isPair ⟨Nat.le_of_ble_eq_true rfl, Nat.le_of_ble_eq_true rfl⟩ rfl hl.1 rfl (Nat.le_of_ble_eq_true rfl) hP hS dX6_encode_69 (fun H locs hP hS => ?_)
      refine lv_if_eq (tgt := 99) hx hb dX6_encode_72 (by decide) (fun hc => ?_) (fun hc => ?_)
      · have hf := ite_t hf hc
        refine lv_aload_n hx hb dX6_encode_99 rfl (lv_at hl 1 rfl) ?_
        refine lv_aload_n hx hb dX6_encode_100 rfl (lv_at hl 2 rfl) ?_
        obtain ⟨v9, σ10, hc, hf⟩ := bd_at hf
        refine callSV (As := [.ref (ad 4), .ref (ad 8)]) (rest := []) C (mX4_setForUnpaired hI hc) ⟨gt2_95, gt2_74, gt1_12, gt2_75⟩ okX4_setForUnpaired ⟨Nat.le_of_ble_eq_true rfl, Nat.le_of_ble_eq_true rfl⟩ rfl hl.1 rfl (Nat.le_of_ble_eq_true rfl) hP hS dX6_encode_101 (fun H locs hP hS => ?_)
        exact MV.ret (wf := wC ad cI cF) hQ C hr hlk hf hP hS dX6_encode_104
      · have hf := ite_f hf hc
        refine lv_aload_n hx hb dX6_encode_75 rfl (lv_at hl 2 rfl) ?_
        refine lv_iconst (v := 2) hx hb dX6_encode_76 (by decide) ?_
        obtain ⟨v11, σ12, hc, hf⟩ := bd_at hf
        refine callVV (As := [.int 2]) (rest := []) C (mX1_setStep hI hc) ⟨gt2_87, gt2_47, gt2_48, gt1_6, gt2_49⟩ okX1_setStep ⟨Nat.le_of_ble_eq_true rfl, Nat.le_of_ble_eq_true rfl⟩ (rcvOf C hP (show (wC ad cI cF _)[8]? = some (ad 8, _) from rfl) rfl) rfl hl.1 rfl (Nat.le_of_ble_eq_true rfl) hP hS dX6_encode_77 (fun H locs hP hS => ?_)
        refine lv_aload_n hx hb dX6_encode_80 rfl (lv_at hl 0 rfl) ?_
        refine lv_iload_n hx hb dX6_encode_81 rfl (lv_at hl 3 rfl) ?_
        refine lv_aload_n hx hb dX6_encode_82 rfl (lv_at hl 2 rfl) ?_
        obtain ⟨v13, σ14, hc, hf⟩ := bd_at hf
        refine callVV (As := [.int x3, .ref (ad 8)]) (rest := []) C (mX6_addBytes (j := j) hI hj hc) ⟨gt2_90, gt2_92, gtp5, gt1_8, gt2_93⟩ okX6_addBytes ⟨Nat.le_of_ble_eq_true rfl, Nat.le_of_ble_eq_true rfl⟩ (rcvOf C hP (eX6 hj) rfl) rfl hl.1 rfl (Nat.le_of_ble_eq_true rfl) hP hS dX6_encode_83 (fun H locs hP hS => ?_)
        refine lv_aload_n hx hb dX6_encode_86 rfl (lv_at hl 0 rfl) ?_
        refine lv_aload_n hx hb dX6_encode_87 rfl (lv_at hl 1 rfl) ?_
        refine lv_iconst (v := 1) hx hb dX6_encode_88 (by decide) ?_
        obtain ⟨v15, σ16, hc, hf⟩ := bd_at hf
        refine callVI (As := [.int 1]) (rest := [.ref (ad j)]) C (mX5_at (j := 4) hI (by decide) hc) ⟨gt2_86, gt2_39, gt2_40, gt1_5, gt2_41⟩ okX5_at ⟨Nat.le_of_ble_eq_true rfl, Nat.le_of_ble_eq_true rfl⟩ (rcvOf C hP (show (wC ad cI cF _)[4]? = some (ad 4, _) from rfl) rfl) rfl hl.1 rfl (Nat.le_of_ble_eq_true rfl) hP hS dX6_encode_89 (fun H locs hP hS => ?_)
        refine lv_aload_n hx hb dX6_encode_92 rfl (lv_at hl 2 rfl) ?_
        obtain ⟨v17, σ18, hc, hf⟩ := bd_at hf
        refine callVV (As := [.int v15, .ref (ad 8)]) (rest := []) C (mX6_addBytes (j := j) hI hj hc) ⟨gt2_90, gt2_92, gtp5, gt1_8, gt2_93⟩ okX6_addBytes ⟨Nat.le_of_ble_eq_true rfl, Nat.le_of_ble_eq_true rfl⟩ (rcvOf C hP (eX6 hj) rfl) rfl hl.1 rfl (Nat.le_of_ble_eq_true rfl) hP hS dX6_encode_93 (fun H locs hP hS => ?_)
        refine lv_goto (tgt := 104) hx hb dX6_encode_96 (by decide) ?_
        exact MV.ret (wf := wC ad cI cF) hQ C hr hlk hf hP hS dX6_encode_104
    · have hf := ite_t hf hc
      refine lv_aload_n hx hb dX6_encode_49 rfl (lv_at hl 2 rfl) ?_
      refine lv_iconst (v := 1) hx hb dX6_encode_50 (by decide) ?_
      obtain ⟨v19, σ20, hc, hf⟩ := bd_at hf
      refine callVV (As := [.int 1]) (rest := []) C (mX1_setStep hI hc) ⟨gt2_87, gt2_47, gt2_48, gt1_6, gt2_49⟩ okX1_setStep ⟨Nat.le_of_ble_eq_true rfl, Nat.le_of_ble_eq_true rfl⟩ (rcvOf C hP (show (wC ad cI cF _)[8]? = some (ad 8, _) from rfl) rfl) rfl hl.1 rfl (Nat.le_of_ble_eq_true rfl) hP hS dX6_encode_51 (fun H locs hP hS => ?_)
      refine lv_aload_n hx hb dX6_encode_54 rfl (lv_at hl 0 rfl) ?_
      refine lv_iload_n hx hb dX6_encode_55 rfl (lv_at hl 3 rfl) ?_
      refine lv_aload_n hx hb dX6_encode_56 rfl (lv_at hl 2 rfl) ?_
      obtain ⟨v21, σ22, hc, hf⟩ := bd_at hf
      refine callVV (As := [.int x3, .ref (ad 8)]) (rest := []) C (mX6_addBytes (j := j) hI hj hc) ⟨gt2_90, gt2_92, gtp5, gt1_8, gt2_93⟩ okX6_addBytes ⟨Nat.le_of_ble_eq_true rfl, Nat.le_of_ble_eq_true rfl⟩ (rcvOf C hP (eX6 hj) rfl) rfl hl.1 rfl (Nat.le_of_ble_eq_true rfl) hP hS dX6_encode_57 (fun H locs hP hS => ?_)
      refine lv_goto (tgt := 104) hx hb dX6_encode_60 (by decide) ?_
      exact MV.ret (wf := wC ad cI cF) hQ C hr hlk hf hP hS dX6_encode_104
  unfold fX6_encode at hf
  refine lv_aload_n hx hb dX6_encode_0 rfl (lv_at hl 1 rfl) ?_
  refine lv_iconst (v := 0) hx hb dX6_encode_1 (by decide) ?_
  obtain ⟨v1, σ2, hc, hf⟩ := bd_at hf
  refine callVI (As := [.int 0]) (rest := []) C (mX5_at (j := 4) hI (by decide) hc) ⟨gt2_86, gt2_39, gt2_40, gt1_5, gt2_41⟩ okX5_at ⟨Nat.le_of_ble_eq_true rfl, Nat.le_of_ble_eq_true rfl⟩ (rcvOf C hP (show (wC ad cI cF _)[4]? = some (ad 4, _) from rfl) rfl) rfl hl.1 rfl (Nat.le_of_ble_eq_true rfl) hP hS dX6_encode_2 (fun H locs hP hS => ?_)
  refine lv_istore_n (lv' := [(3, .int v1), (0, .ref (ad j)), (1, .ref (ad 4)), (2, .ref (ad 8))]) hx hb dX6_encode_5 rfl hl (by decide) rfl (fun ls hl => ?_)
  refine lv_aload_n hx hb dX6_encode_6 rfl (lv_at hl 1 rfl) ?_
  refine GX6_0 C hP hj gt1_98 dX6_encode_7 ?_
  refine lv_if_eq (tgt := 42) hx hb dX6_encode_10 (by decide) (fun hc => ?_) (fun hc => ?_)
  · have hf := ite_t hf hc
    exact B42 σ2 v1 _ _ _ hP hS (lv_sub hl [1, 2, 3, 0] rfl) hf
  · have hf := ite_f hf hc
    refine lv_aload_n hx hb dX6_encode_13 rfl (lv_at hl 1 rfl) ?_
    refine GX6_2 C hP hj gt1_100 dX6_encode_14 ?_
    refine lv_if_eq (tgt := 42) hx hb dX6_encode_17 (by decide) (fun hc => ?_) (fun hc => ?_)
    · have hf := ite_t hf hc
      exact B42 σ2 v1 _ _ _ hP hS (lv_sub hl [1, 2, 3, 0] rfl) hf
    · have hf := ite_f hf hc
      refine lv_aload_n hx hb dX6_encode_20 rfl (lv_at hl 3 rfl) ?_
      refine lv_iconst (v := 0) hx hb dX6_encode_21 (by decide) ?_
      obtain ⟨v23, σ24, hc, hf⟩ := bd_at hf
      refine callVV (As := [.int 0]) (rest := []) C (mX1_setStep hI hc) ⟨gt2_87, gt2_47, gt2_48, gt1_6, gt2_49⟩ okX1_setStep ⟨Nat.le_of_ble_eq_true rfl, Nat.le_of_ble_eq_true rfl⟩ (rcvOf C hP (show (wC ad cI cF _)[8]? = some (ad 8, _) from rfl) rfl) rfl hl.1 rfl (Nat.le_of_ble_eq_true rfl) hP hS dX6_encode_22 (fun H locs hP hS => ?_)
      refine lv_aload_n hx hb dX6_encode_25 rfl (lv_at hl 3 rfl) ?_
      refine lv_sipush (v := 254) hx hb dX6_encode_26 (by decide) ?_
      obtain ⟨v25, σ26, hc, hf⟩ := bd_at hf
      refine callVV (As := [.int 254]) (rest := []) C (mX1_add hI hc) ⟨gt2_88, gt2_51, gt2_52, gt1_6, gt2_53⟩ okX1_add ⟨Nat.le_of_ble_eq_true rfl, Nat.le_of_ble_eq_true rfl⟩ (rcvOf C hP (show (wC ad cI cF _)[8]? = some (ad 8, _) from rfl) rfl) rfl hl.1 rfl (Nat.le_of_ble_eq_true rfl) hP hS dX6_encode_29 (fun H locs hP hS => ?_)
      refine lv_aload_n hx hb dX6_encode_32 rfl (lv_at hl 3 rfl) ?_
      refine lv_sipush (v := 255) hx hb dX6_encode_33 (by decide) ?_
      obtain ⟨v27, σ28, hc, hf⟩ := bd_at hf
      refine callVV (As := [.int 255]) (rest := []) C (mX1_add hI hc) ⟨gt2_88, gt2_51, gt2_52, gt1_6, gt2_53⟩ okX1_add ⟨Nat.le_of_ble_eq_true rfl, Nat.le_of_ble_eq_true rfl⟩ (rcvOf C hP (show (wC ad cI cF _)[8]? = some (ad 8, _) from rfl) rfl) rfl hl.1 rfl (Nat.le_of_ble_eq_true rfl) hP hS dX6_encode_36 (fun H locs hP hS => ?_)
      refine lv_goto (tgt := 104) hx hb dX6_encode_39 (by decide) ?_
      exact MV.ret (wf := wC ad cI cF) hQ C hr hlk hf hP hS dX6_encode_104
def fX7_isDirect_b15 (σ : St) (x0 : Int32) : Option (Int32 × St) := (if 128 ≤ x0 then some (0, σ) else bd (fJ0_indexOf_0f7a4 1 σ (((x0).toUInt32 % 65536).toInt32)) (fun v3 σ4 => (if v3 < 0 then some (0, σ4) else some (1, σ4))))
def fX7_isDirect (σ : St) (p0 : Int32) : Option (Int32 × St) := bd (fX7_valueOf σ p0) (fun v1 σ2 => (if v1 < 0 then fX7_isDirect_b15 σ2 p0 else (if v1 < 62 then some (1, σ2) else fX7_isDirect_b15 σ2 p0)))
set_option maxHeartbeats 4000000 in
set_option maxRecDepth 100000 in
theorem mX7_isDirect {l : Launch} {D : va_G} {kS vS : Nat → Nat} {ad : Nat → Nat} {cI cF : ClassId} {σ σ0 : St} {p0 : Int32} {r : Int32} (hI : Inj ad 18) (hf : fX7_isDirect σ p0 = some (r, σ0)) : MI l D (tyC cI cF) (inA ad 18) kS vS yX7_isDirect cX7_isDirect 2 .boolean 5 111 [.int p0] (wC ad cI cF σ) (wC ad cI cF σ0) r := by
  refine MI.of (by decide) (Nat.le_of_ble_eq_true rfl) (fun p e s m args below meth c ls Q hQ C hr hlk hP hS hl => ?_)
  obtain ⟨hx, hb, hml, hown, hts, hK, hKS⟩ := id C
  have hl : lv_has ls 2 [(0, .int p0)] := hl
  have B15 : ∀ (σ : St) (x0 : Int32) (H : Heap) (locs : List Loc) (ls : Array Slot), va_P D vwCl (wC ad cI cF σ) H → va_S (inA ad 18) s.heap H locs → lv_has ls 2 [(0, .int x0)] → fX7_isDirect_b15 σ x0 = some (r, σ0) → W p l e (rmN 5 111) s m args below meth c H locs 0 0 Q (F0 m 15 ls []) := by
    intro σ x0 H locs ls hP hS hl hf
    unfold fX7_isDirect_b15 at hf
    refine lv_iload_n hx hb dX7_isDirect_15 rfl (lv_at hl 0 rfl) ?_
    refine lv_sipush (v := 128) hx hb dX7_isDirect_16 (by decide) ?_
    refine lv_icmp_ge (tgt := 36) hx hb dX7_isDirect_19 (by decide) (fun hc => ?_) (fun hc => ?_)
    · have hf := ite_t hf hc
      refine lv_iconst (v := 0) hx hb dX7_isDirect_36 (by decide) ?_
      exact MI.ret (wf := wC ad cI cF) hQ C hr hlk rfl hf hP hS dX7_isDirect_37
    · have hf := ite_f hf hc
      refine va_ldcS hx hb hown (hKS.2.1 1 (by decide)) dX7_isDirect_22 ?_
      refine lv_iload_n hx hb dX7_isDirect_24 rfl (lv_at hl 0 rfl) ?_
      refine lv_i2c (v := ((x0).toUInt32 % 65536).toInt32) hx hb dX7_isDirect_25 rfl ?_
      obtain ⟨v3, σ4, hc, hf⟩ := bd_at hf
      refine callVI (As := [.int (((x0).toUInt32 % 65536).toInt32)]) (rest := []) C (mJ0_indexOf_0f7a4 (i := 1) (wf := wC ad cI cF) (by decide) hc) ⟨gt2_112, gt2_113, gt2_114, gt1_13, gt2_115⟩ okJ0_indexOf_0f7a4 ⟨Nat.le_of_ble_eq_true rfl, Nat.le_of_ble_eq_true rfl⟩ (vk_recv hKS.1 (by decide) hS) rfl hl.1 rfl (Nat.le_of_ble_eq_true rfl) hP hS dX7_isDirect_26 (fun H locs hP hS => ?_)
      refine lv_if_lt (tgt := 36) hx hb dX7_isDirect_29 (by decide) (fun hc => ?_) (fun hc => ?_)
      · have hf := ite_t hf hc
        refine lv_iconst (v := 0) hx hb dX7_isDirect_36 (by decide) ?_
        exact MI.ret (wf := wC ad cI cF) hQ C hr hlk rfl hf hP hS dX7_isDirect_37
      · have hf := ite_f hf hc
        refine lv_iconst (v := 1) hx hb dX7_isDirect_32 (by decide) ?_
        refine lv_goto (tgt := 37) hx hb dX7_isDirect_33 (by decide) ?_
        exact MI.ret (wf := wC ad cI cF) hQ C hr hlk rfl hf hP hS dX7_isDirect_37
  unfold fX7_isDirect at hf
  refine lv_iload_n hx hb dX7_isDirect_0 rfl (lv_at hl 0 rfl) ?_
  obtain ⟨v1, σ2, hc, hf⟩ := bd_at hf
  refine callSI (As := [.int p0]) (rest := []) C (mX7_valueOf hI hc) ⟨gt2_108, gt2_109, gt1_9, gt2_110⟩ okX7_valueOf ⟨Nat.le_of_ble_eq_true rfl, Nat.le_of_ble_eq_true rfl⟩ rfl hl.1 rfl (Nat.le_of_ble_eq_true rfl) hP hS dX7_isDirect_1 (fun H locs hP hS => ?_)
  refine lv_istore_n (lv' := [(1, .int v1), (0, .int p0)]) hx hb dX7_isDirect_4 rfl hl (by decide) rfl (fun ls hl => ?_)
  refine lv_iload_n hx hb dX7_isDirect_5 rfl (lv_at hl 0 rfl) ?_
  refine lv_if_lt (tgt := 15) hx hb dX7_isDirect_6 (by decide) (fun hc => ?_) (fun hc => ?_)
  · have hf := ite_t hf hc
    exact B15 σ2 p0 _ _ _ hP hS (lv_sub hl [1] rfl) hf
  · have hf := ite_f hf hc
    refine lv_iload_n hx hb dX7_isDirect_9 rfl (lv_at hl 0 rfl) ?_
    refine lv_bipush (v := 62) hx hb dX7_isDirect_10 (by decide) ?_
    refine lv_icmp_lt (tgt := 32) hx hb dX7_isDirect_12 (by decide) (fun hc => ?_) (fun hc => ?_)
    · have hf := ite_t hf hc
      refine lv_iconst (v := 1) hx hb dX7_isDirect_32 (by decide) ?_
      refine lv_goto (tgt := 37) hx hb dX7_isDirect_33 (by decide) ?_
      exact MI.ret (wf := wC ad cI cF) hQ C hr hlk rfl hf hP hS dX7_isDirect_37
    · have hf := ite_f hf hc
      exact B15 σ2 p0 _ _ _ hP hS (lv_sub hl [1] rfl) hf
def fX7_encodeShifted_b44 : Nat → St → Int32 → Option (Int32 × St)
  | 0, _, _ => none
  | n + 1, σ, x3 => (if x3 ≤ 0 then some (0, σ) else bd (fX3_removeFirst 17 σ 6) (fun v4 σ5 => bd (fJ0_charAt_5068e 0 σ5 (v4 &&& 63)) (fun v6 σ7 => bd (fX1_add σ7 v6) (fun _ σ9 => nm (x3 + (-1)) (fun v10 => fX7_encodeShifted_b44 n σ9 v10)))))
def fX7_encodeShifted_b23 (σ : St) (x1 : Int32) : Option (Int32 × St) := bd (fX3_keep 17 σ x1 16) (fun _ σ2 => nm ((σ2 17 3) / 6) (fun v3 => fX7_encodeShifted_b44 200 σ2 v3))
def fX7_encodeShifted (σ : St) (p1 : Int32) : Option (Int32 × St) := (if (σ 16 0) = 0 then bd (fX1_add σ 43) (fun _ σ12 => bd (fX3_becomeShifted 17 σ12) (fun _ σ14 => fX7_encodeShifted_b23 σ14 p1)) else fX7_encodeShifted_b23 σ p1)
set_option maxHeartbeats 4000000 in
set_option maxRecDepth 100000 in
theorem mX7_encodeShifted {l : Launch} {D : va_G} {kS vS : Nat → Nat} {ad : Nat → Nat} {cI cF : ClassId} {σ σ0 : St} {p1 : Int32} {r : Int32} (hI : Inj ad 18) (hf : fX7_encodeShifted σ p1 = some (r, σ0)) : MV l D (tyC cI cF) (inA ad 18) kS vS yX7_encodeShifted cX7_encodeShifted 4 4 85 [.ref (ad 15), .int p1, .ref (ad 8)] (wC ad cI cF σ) (wC ad cI cF σ0) := by
  refine MV.of (by decide) (Nat.le_of_ble_eq_true rfl) (fun p e s m args below meth c ls Q hQ C hr hlk hP hS hl => ?_)
  obtain ⟨hx, hb, hml, hown, hts, hK, hKS⟩ := id C
  have hl : lv_has ls 4 [(0, .ref (ad 15)), (1, .int p1), (2, .ref (ad 8))] := hl
  have B44 : ∀ n : Nat, ∀ (σ : St) (x3 : Int32) (H : Heap) (locs : List Loc) (ls : Array Slot), va_P D vwCl (wC ad cI cF σ) H → va_S (inA ad 18) s.heap H locs → lv_has ls 4 [(0, .ref (ad 15)), (2, .ref (ad 8)), (3, .int x3)] → fX7_encodeShifted_b44 n σ x3 = some (r, σ0) → W p l e (rmN 4 85) s m args below meth c H locs 0 0 Q (F0 m 44 ls []) := by
    intro n
    induction n with
    | zero =>
      intro σ x3 H locs ls hP hS hl hf
      exact nomatch (show (none : Option (Int32 × St)) = some (r, σ0) from hf)
    | succ n ih =>
      intro σ x3 H locs ls hP hS hl hf
      rw [fX7_encodeShifted_b44] at hf
      refine lv_iload_n hx hb dX7_encodeShifted_44 rfl (lv_at hl 2 rfl) ?_
      refine lv_if_le (tgt := 75) hx hb dX7_encodeShifted_45 (by decide) (fun hc => ?_) (fun hc => ?_)
      · have hf := ite_t hf hc
        exact MV.ret (wf := wC ad cI cF) hQ C hr hlk hf hP hS dX7_encodeShifted_75
      · have hf := ite_f hf hc
        refine lv_aload_n hx hb dX7_encodeShifted_48 rfl (lv_at hl 1 rfl) ?_
        refine va_ldcS hx hb hown (hKS.2.1 0 (by decide)) dX7_encodeShifted_49 ?_
        refine lv_aload_n hx hb dX7_encodeShifted_51 rfl (lv_at hl 0 rfl) ?_
        refine GX7_1 C hP gt1_144 dX7_encodeShifted_52 ?_
        refine lv_bipush (v := 6) hx hb dX7_encodeShifted_55 (by decide) ?_
        obtain ⟨v4, σ5, hc, hf⟩ := bd_at hf
        refine callVI (As := [.int 6]) (rest := [.ref (kS 0), .ref (ad 8)]) C (mX3_removeFirst (j := 17) hI (by decide) hc) ⟨gt2_237, gt2_238, gt2_239, gt1_10, gt3_0⟩ okX3_removeFirst ⟨Nat.le_of_ble_eq_true rfl, Nat.le_of_ble_eq_true rfl⟩ (rcvOf C hP (show (wC ad cI cF _)[17]? = some (ad 17, _) from rfl) rfl) rfl hl.1 rfl (Nat.le_of_ble_eq_true rfl) hP hS dX7_encodeShifted_57 (fun H locs hP hS => ?_)
        refine lv_bipush (v := 63) hx hb dX7_encodeShifted_60 (by decide) ?_
        refine lv_iand hx hb dX7_encodeShifted_62 ?_
        obtain ⟨v6, σ7, hc, hf⟩ := bd_at hf
        refine callVI (As := [.int (v4 &&& 63)]) (rest := [.ref (ad 8)]) C (mJ0_charAt_5068e (i := 0) (wf := wC ad cI cF) (by decide) hc) ⟨gt2_203, gt2_204, gt2_205, gt1_13, gt2_206⟩ okJ0_charAt_5068e ⟨Nat.le_of_ble_eq_true rfl, Nat.le_of_ble_eq_true rfl⟩ (vk_recv hKS.1 (by decide) hS) rfl hl.1 rfl (Nat.le_of_ble_eq_true rfl) hP hS dX7_encodeShifted_63 (fun H locs hP hS => ?_)
        obtain ⟨v8, σ9, hc, hf⟩ := bd_at hf
        refine callVV (As := [.int v6]) (rest := []) C (mX1_add hI hc) ⟨gt2_223, gt2_51, gt2_52, gt1_6, gt2_53⟩ okX1_add ⟨Nat.le_of_ble_eq_true rfl, Nat.le_of_ble_eq_true rfl⟩ (rcvOf C hP (show (wC ad cI cF _)[8]? = some (ad 8, _) from rfl) rfl) rfl hl.1 rfl (Nat.le_of_ble_eq_true rfl) hP hS dX7_encodeShifted_66 (fun H locs hP hS => ?_)
        obtain ⟨v10, ev10⟩ : ∃ y : Int32, y = x3 + (-1) := ⟨_, rfl⟩
        have hf := nm_at hf v10 ev10
        refine lv_iinc (v := v10) (lv' := [(3, .int v10), (0, .ref (ad 15)), (2, .ref (ad 8))]) hx hb dX7_encodeShifted_69 hl (k := 2) rfl (by rw [ev10]; rfl) (by decide) rfl (fun ls hl => ?_)
        refine lv_goto (tgt := 44) hx hb dX7_encodeShifted_72 (by decide) ?_
        exact ih σ9 v10 _ _ _ hP hS (lv_sub hl [1, 2, 0] rfl) hf
  have B23 : ∀ (σ : St) (x1 : Int32) (H : Heap) (locs : List Loc) (ls : Array Slot), va_P D vwCl (wC ad cI cF σ) H → va_S (inA ad 18) s.heap H locs → lv_has ls 4 [(0, .ref (ad 15)), (1, .int x1), (2, .ref (ad 8))] → fX7_encodeShifted_b23 σ x1 = some (r, σ0) → W p l e (rmN 4 85) s m args below meth c H locs 0 0 Q (F0 m 23 ls []) := by
    intro σ x1 H locs ls hP hS hl hf
    unfold fX7_encodeShifted_b23 at hf
    refine lv_aload_n hx hb dX7_encodeShifted_23 rfl (lv_at hl 0 rfl) ?_
    refine GX7_1 C hP gt1_144 dX7_encodeShifted_24 ?_
    refine lv_iload_n hx hb dX7_encodeShifted_27 rfl (lv_at hl 1 rfl) ?_
    refine lv_bipush (v := 16) hx hb dX7_encodeShifted_28 (by decide) ?_
    obtain ⟨v1, σ2, hc, hf⟩ := bd_at hf
    refine callVV (As := [.int x1, .int 16]) (rest := []) C (mX3_keep (j := 17) hI (by decide) hc) ⟨gt2_233, gt2_234, gt2_235, gt1_10, gt2_236⟩ okX3_keep ⟨Nat.le_of_ble_eq_true rfl, Nat.le_of_ble_eq_true rfl⟩ (rcvOf C hP (show (wC ad cI cF _)[17]? = some (ad 17, _) from rfl) rfl) rfl hl.1 rfl (Nat.le_of_ble_eq_true rfl) hP hS dX7_encodeShifted_30 (fun H locs hP hS => ?_)
    refine lv_aload_n hx hb dX7_encodeShifted_33 rfl (lv_at hl 0 rfl) ?_
    refine GX7_1 C hP gt1_144 dX7_encodeShifted_34 ?_
    refine GX3_3N C hP (j := 17) (by decide) (by decide) dX7_encodeShifted_37 ?_
    refine lv_bipush (v := 6) hx hb dX7_encodeShifted_40 (by decide) ?_
    refine lv_idiv hx hb dX7_encodeShifted_42 (by decide) ?_
    refine lv_topi (fun v3 ev3 => ?_)
    have hf := nm_at hf v3 ev3
    refine lv_istore_n (lv' := [(3, .int v3), (0, .ref (ad 15)), (1, .int x1), (2, .ref (ad 8))]) hx hb dX7_encodeShifted_43 rfl hl (by decide) rfl (fun ls hl => ?_)
    exact B44 200 σ2 v3 _ _ _ hP hS (lv_sub hl [1, 3, 0] rfl) hf
  unfold fX7_encodeShifted at hf
  refine lv_aload_n hx hb dX7_encodeShifted_0 rfl (lv_at hl 0 rfl) ?_
  refine GX7_0 C hP gt1_143 dX7_encodeShifted_1 ?_
  refine GX3_0N C hP (j := 16) (by decide) (by decide) dX7_encodeShifted_4 ?_
  refine lv_if_ne (tgt := 23) hx hb dX7_encodeShifted_7 (by decide) (fun hc => ?_) (fun hc => ?_)
  · have hf := ite_f hf hc
    exact B23 σ p1 _ _ _ hP hS (lv_sub hl [0, 1, 2] rfl) hf
  · have hf := ite_t hf hc
    refine lv_aload_n hx hb dX7_encodeShifted_10 rfl (lv_at hl 2 rfl) ?_
    refine lv_bipush (v := 43) hx hb dX7_encodeShifted_11 (by decide) ?_
    obtain ⟨v11, σ12, hc, hf⟩ := bd_at hf
    refine callVV (As := [.int 43]) (rest := []) C (mX1_add hI hc) ⟨gt2_223, gt2_51, gt2_52, gt1_6, gt2_53⟩ okX1_add ⟨Nat.le_of_ble_eq_true rfl, Nat.le_of_ble_eq_true rfl⟩ (rcvOf C hP (show (wC ad cI cF _)[8]? = some (ad 8, _) from rfl) rfl) rfl hl.1 rfl (Nat.le_of_ble_eq_true rfl) hP hS dX7_encodeShifted_13 (fun H locs hP hS => ?_)
    refine lv_aload_n hx hb dX7_encodeShifted_16 rfl (lv_at hl 0 rfl) ?_
    refine GX7_1 C hP gt1_144 dX7_encodeShifted_17 ?_
    obtain ⟨v13, σ14, hc, hf⟩ := bd_at hf
    refine callVV (As := []) (rest := []) C (mX3_becomeShifted (j := 17) hI (by decide) hc) ⟨gt2_228, gt2_229, gt2_230, gt1_10, gt2_231⟩ okX3_becomeShifted ⟨Nat.le_of_ble_eq_true rfl, Nat.le_of_ble_eq_true rfl⟩ (rcvOf C hP (show (wC ad cI cF _)[17]? = some (ad 17, _) from rfl) rfl) rfl hl.1 rfl (Nat.le_of_ble_eq_true rfl) hP hS dX7_encodeShifted_20 (fun H locs hP hS => ?_)
    exact B23 σ14 p1 _ _ _ hP hS (lv_sub hl [0, 1, 2] rfl) hf
def fX7_leaveShift (σ : St) : Option (Int32 × St) := (if (σ 16 3) ≤ 0 then bd (fX1_add σ 45) (fun _ σ2 => bd (fX3_becomePlain 17 σ2) (fun _ σ4 => some (0, σ4))) else bd (fJ0_charAt_5068e 0 σ (((σ 16 2) <<< ((6 - (σ 16 3)) &&& 31)) &&& 63)) (fun v5 σ6 => bd (fX1_add σ6 v5) (fun _ σ8 => bd (fX1_add σ8 45) (fun _ σ10 => bd (fX3_becomePlain 17 σ10) (fun _ σ12 => some (0, σ12))))))
set_option maxHeartbeats 4000000 in
set_option maxRecDepth 100000 in
theorem mX7_leaveShift {l : Launch} {D : va_G} {kS vS : Nat → Nat} {ad : Nat → Nat} {cI cF : ClassId} {σ σ0 : St} {r : Int32} (hI : Inj ad 18) (hf : fX7_leaveShift σ  = some (r, σ0)) : MV l D (tyC cI cF) (inA ad 18) kS vS yX7_leaveShift cX7_leaveShift 2 4 85 [.ref (ad 15), .ref (ad 8)] (wC ad cI cF σ) (wC ad cI cF σ0) := by
  refine MV.of (by decide) (Nat.le_of_ble_eq_true rfl) (fun p e s m args below meth c ls Q hQ C hr hlk hP hS hl => ?_)
  obtain ⟨hx, hb, hml, hown, hts, hK, hKS⟩ := id C
  have hl : lv_has ls 2 [(0, .ref (ad 15)), (1, .ref (ad 8))] := hl
  unfold fX7_leaveShift at hf
  refine lv_aload_n hx hb dX7_leaveShift_0 rfl (lv_at hl 0 rfl) ?_
  refine GX7_0 C hP gt1_143 dX7_leaveShift_1 ?_
  refine GX3_3N C hP (j := 16) (by decide) (by decide) dX7_leaveShift_4 ?_
  refine lv_if_le (tgt := 40) hx hb dX7_leaveShift_7 (by decide) (fun hc => ?_) (fun hc => ?_)
  · have hf := ite_t hf hc
    refine lv_aload_n hx hb dX7_leaveShift_40 rfl (lv_at hl 1 rfl) ?_
    refine lv_bipush (v := 45) hx hb dX7_leaveShift_41 (by decide) ?_
    obtain ⟨v1, σ2, hc, hf⟩ := bd_at hf
    refine callVV (As := [.int 45]) (rest := []) C (mX1_add hI hc) ⟨gt2_223, gt2_51, gt2_52, gt1_6, gt2_53⟩ okX1_add ⟨Nat.le_of_ble_eq_true rfl, Nat.le_of_ble_eq_true rfl⟩ (rcvOf C hP (show (wC ad cI cF _)[8]? = some (ad 8, _) from rfl) rfl) rfl hl.1 rfl (Nat.le_of_ble_eq_true rfl) hP hS dX7_leaveShift_43 (fun H locs hP hS => ?_)
    refine lv_aload_n hx hb dX7_leaveShift_46 rfl (lv_at hl 0 rfl) ?_
    refine GX7_1 C hP gt1_144 dX7_leaveShift_47 ?_
    obtain ⟨v3, σ4, hc, hf⟩ := bd_at hf
    refine callVV (As := []) (rest := []) C (mX3_becomePlain (j := 17) hI (by decide) hc) ⟨gt1_221, gt1_222, gt1_223, gt1_10, gt1_224⟩ okX3_becomePlain ⟨Nat.le_of_ble_eq_true rfl, Nat.le_of_ble_eq_true rfl⟩ (rcvOf C hP (show (wC ad cI cF _)[17]? = some (ad 17, _) from rfl) rfl) rfl hl.1 rfl (Nat.le_of_ble_eq_true rfl) hP hS dX7_leaveShift_50 (fun H locs hP hS => ?_)
    exact MV.ret (wf := wC ad cI cF) hQ C hr hlk hf hP hS dX7_leaveShift_53
  · have hf := ite_f hf hc
    refine lv_aload_n hx hb dX7_leaveShift_10 rfl (lv_at hl 1 rfl) ?_
    refine va_ldcS hx hb hown (hKS.2.1 0 (by decide)) dX7_leaveShift_11 ?_
    refine lv_aload_n hx hb dX7_leaveShift_13 rfl (lv_at hl 0 rfl) ?_
    refine GX7_0 C hP gt1_143 dX7_leaveShift_14 ?_
    refine GX3_2N C hP (j := 16) (by decide) (by decide) dX7_leaveShift_17 ?_
    refine lv_bipush (v := 6) hx hb dX7_leaveShift_20 (by decide) ?_
    refine lv_aload_n hx hb dX7_leaveShift_22 rfl (lv_at hl 0 rfl) ?_
    refine GX7_0 C hP gt1_143 dX7_leaveShift_23 ?_
    refine GX3_3N C hP (j := 16) (by decide) (by decide) dX7_leaveShift_26 ?_
    refine lv_isub hx hb dX7_leaveShift_29 ?_
    refine lv_ishl hx hb dX7_leaveShift_30 ?_
    refine lv_bipush (v := 63) hx hb dX7_leaveShift_31 (by decide) ?_
    refine lv_iand hx hb dX7_leaveShift_33 ?_
    obtain ⟨v5, σ6, hc, hf⟩ := bd_at hf
    refine callVI (As := [.int (((σ 16 2) <<< ((6 - (σ 16 3)) &&& 31)) &&& 63)]) (rest := [.ref (ad 8)]) C (mJ0_charAt_5068e (i := 0) (wf := wC ad cI cF) (by decide) hc) ⟨gt2_203, gt2_204, gt2_205, gt1_13, gt2_206⟩ okJ0_charAt_5068e ⟨Nat.le_of_ble_eq_true rfl, Nat.le_of_ble_eq_true rfl⟩ (vk_recv hKS.1 (by decide) hS) rfl hl.1 rfl (Nat.le_of_ble_eq_true rfl) hP hS dX7_leaveShift_34 (fun H locs hP hS => ?_)
    obtain ⟨v7, σ8, hc, hf⟩ := bd_at hf
    refine callVV (As := [.int v5]) (rest := []) C (mX1_add hI hc) ⟨gt2_223, gt2_51, gt2_52, gt1_6, gt2_53⟩ okX1_add ⟨Nat.le_of_ble_eq_true rfl, Nat.le_of_ble_eq_true rfl⟩ (rcvOf C hP (show (wC ad cI cF _)[8]? = some (ad 8, _) from rfl) rfl) rfl hl.1 rfl (Nat.le_of_ble_eq_true rfl) hP hS dX7_leaveShift_37 (fun H locs hP hS => ?_)
    refine lv_aload_n hx hb dX7_leaveShift_40 rfl (lv_at hl 1 rfl) ?_
    refine lv_bipush (v := 45) hx hb dX7_leaveShift_41 (by decide) ?_
    obtain ⟨v9, σ10, hc, hf⟩ := bd_at hf
    refine callVV (As := [.int 45]) (rest := []) C (mX1_add hI hc) ⟨gt2_223, gt2_51, gt2_52, gt1_6, gt2_53⟩ okX1_add ⟨Nat.le_of_ble_eq_true rfl, Nat.le_of_ble_eq_true rfl⟩ (rcvOf C hP (show (wC ad cI cF _)[8]? = some (ad 8, _) from rfl) rfl) rfl hl.1 rfl (Nat.le_of_ble_eq_true rfl) hP hS dX7_leaveShift_43 (fun H locs hP hS => ?_)
    refine lv_aload_n hx hb dX7_leaveShift_46 rfl (lv_at hl 0 rfl) ?_
    refine GX7_1 C hP gt1_144 dX7_leaveShift_47 ?_
    obtain ⟨v11, σ12, hc, hf⟩ := bd_at hf
    refine callVV (As := []) (rest := []) C (mX3_becomePlain (j := 17) hI (by decide) hc) ⟨gt1_221, gt1_222, gt1_223, gt1_10, gt1_224⟩ okX3_becomePlain ⟨Nat.le_of_ble_eq_true rfl, Nat.le_of_ble_eq_true rfl⟩ (rcvOf C hP (show (wC ad cI cF _)[17]? = some (ad 17, _) from rfl) rfl) rfl hl.1 rfl (Nat.le_of_ble_eq_true rfl) hP hS dX7_leaveShift_50 (fun H locs hP hS => ?_)
    exact MV.ret (wf := wC ad cI cF) hQ C hr hlk hf hP hS dX7_leaveShift_53
