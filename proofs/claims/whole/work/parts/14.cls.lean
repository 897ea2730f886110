def fX7_encode (σ : St) : Option (Int32 × St) := bd (fX5_at 4 σ 0) (fun v1 σ2 => bd (fX3_copy 17 16 σ2) (fun _ σ4 => bd (fX1_setStep σ4 1) (fun _ σ6 => bd (fX7_isDirect σ6 v1) (fun v7 σ8 => (if v7 = 0 then (if (σ8 16 0) = 0 then (if v1 = 43 then bd (fX1_add σ8 43) (fun _ σ14 => bd (fX1_add σ14 45) (fun _ σ16 => some (0, σ16))) else bd (fX7_encodeShifted σ8 v1) (fun _ σ12 => some (0, σ12))) else bd (fX7_encodeShifted σ8 v1) (fun _ σ10 => some (0, σ10))) else (if (σ8 16 0) = 0 then bd (fX1_add σ8 v1) (fun _ σ18 => some (0, σ18)) else bd (fX7_leaveShift σ8) (fun _ σ20 => bd (fX1_add σ20 v1) (fun _ σ22 => some (0, σ22)))))))))
set_option maxHeartbeats 4000000 in
set_option maxRecDepth 100000 in
theorem mX7_encode {l : Launch} {D : va_G} {kS vS : Nat → Nat} {ad : Nat → Nat} {cI cF : ClassId} {σ σ0 : St} {r : Int32} (hI : Inj ad 18) (hf : fX7_encode σ  = some (r, σ0)) : MV l D (tyC cI cF) (inA ad 18) kS vS yX7_encode cX7_encode 4 6 132 [.ref (ad 15), .ref (ad 4), .ref (ad 8)] (wC ad cI cF σ) (wC ad cI cF σ0) := by
  refine MV.of (by decide) (Nat.le_of_ble_eq_true rfl) (fun p e s m args below meth c ls Q hQ C hr hlk hP hS hl => ?_)
  obtain ⟨hx, hb, hml, hown, hts, hK, hKS⟩ := id C
  have hl : lv_has ls 4 [(0, .ref (ad 15)), (1, .ref (ad 4)), (2, .ref (ad 8))] := hl
  unfold fX7_encode at hf
  refine lv_aload_n hx hb dX7_encode_0 rfl (lv_at hl 1 rfl) ?_
  refine lv_iconst (v := 0) hx hb dX7_encode_1 (by decide) ?_
  obtain ⟨v1, σ2, hc, hf⟩ := bd_at hf
  refine callVI (As := [.int 0]) (rest := []) C (mX5_at (j := 4) hI (by decide) hc) ⟨gt2_99, gt2_39, gt2_40, gt1_5, gt2_41⟩ okX5_at ⟨Nat.le_of_ble_eq_true rfl, Nat.le_of_ble_eq_true rfl⟩ (rcvOf C hP (show (wC ad cI cF _)[4]? = some (ad 4, _) from rfl) rfl) rfl hl.1 rfl (Nat.le_of_ble_eq_true rfl) hP hS dX7_encode_2 (fun H locs hP hS => ?_)
  refine lv_istore_n (lv' := [(3, .int v1), (0, .ref (ad 15)), (1, .ref (ad 4)), (2, .ref (ad 8))]) hx hb dX7_encode_5 rfl hl (by decide) rfl (fun ls hl => ?_)
  refine lv_aload_n hx hb dX7_encode_6 rfl (lv_at hl 1 rfl) ?_
  refine GX7_1 C hP gt1_144 dX7_encode_7 ?_
  refine lv_aload_n hx hb dX7_encode_10 rfl (lv_at hl 1 rfl) ?_
  refine GX7_0 C hP gt1_143 dX7_encode_11 ?_
  obtain ⟨v3, σ4, hc, hf⟩ := bd_at hf
  refine callVV (As := [.ref (ad 16)]) (rest := []) C (mX3_copy (j := 17) (j2 := 16) hI (by decide) (by decide) hc) ⟨gt2_100, gt2_101, gt2_102, gt1_10, gt2_103⟩ okX3_copy ⟨Nat.le_of_ble_eq_true rfl, Nat.le_of_ble_eq_true rfl⟩ (rcvOf C hP (show (wC ad cI cF _)[17]? = some (ad 17, _) from rfl) rfl) rfl hl.1 rfl (Nat.le_of_ble_eq_true rfl) hP hS dX7_encode_14 (fun H locs hP hS => ?_)
  refine lv_aload_n hx hb dX7_encode_17 rfl (lv_at hl 3 rfl) ?_
  refine lv_iconst (v := 1) hx hb dX7_encode_18 (by decide) ?_
  obtain ⟨v5, σ6, hc, hf⟩ := bd_at hf
  refine callVV (As := [.int 1]) (rest := []) C (mX1_setStep hI hc) ⟨gt2_104, gt2_47, gt2_48, gt1_6, gt2_49⟩ okX1_setStep ⟨Nat.le_of_ble_eq_true rfl, Nat.le_of_ble_eq_true rfl⟩ (rcvOf C hP (show (wC ad cI cF _)[8]? = some (ad 8, _) from rfl) rfl) rfl hl.1 rfl (Nat.le_of_ble_eq_true rfl) hP hS dX7_encode_19 (fun H locs hP hS => ?_)
  refine lv_iload_n hx hb dX7_encode_22 rfl (lv_at hl 0 rfl) ?_
  obtain ⟨v7, σ8, hc, hf⟩ := bd_at hf
  refine callSI (As := [.int v1]) (rest := []) C (mX7_isDirect hI hc) ⟨gt2_105, gt2_106, gt1_9, gt2_107⟩ okX7_isDirect ⟨Nat.le_of_ble_eq_true rfl, Nat.le_of_ble_eq_true rfl⟩ rfl hl.1 rfl (Nat.le_of_ble_eq_true rfl) hP hS dX7_encode_23 (fun H locs hP hS => ?_)
  refine lv_if_eq (tgt := 52) hx hb dX7_encode_26 (by decide) (fun hc => ?_) (fun hc => ?_)
  · have hf := ite_t hf hc
    refine lv_aload_n hx hb dX7_encode_52 rfl (lv_at hl 1 rfl) ?_
    refine GX7_0 C hP gt1_143 dX7_encode_53 ?_
    refine GX3_0N C hP (j := 16) (by decide) (by decide) dX7_encode_56 ?_
    refine lv_if_ne (tgt := 83) hx hb dX7_encode_59 (by decide) (fun hc => ?_) (fun hc => ?_)
    · have hf := ite_f hf hc
      refine lv_aload_n hx hb dX7_encode_83 rfl (lv_at hl 1 rfl) ?_
      refine lv_iload_n hx hb dX7_encode_84 rfl (lv_at hl 0 rfl) ?_
      refine lv_aload_n hx hb dX7_encode_85 rfl (lv_at hl 3 rfl) ?_
      obtain ⟨v9, σ10, hc, hf⟩ := bd_at hf
      refine callVV (As := [.int v1, .ref (ad 8)]) (rest := []) C (mX7_encodeShifted hI hc) ⟨gt2_224, gt2_226, gtp7, gt1_9, gt2_227⟩ okX7_encodeShifted ⟨Nat.le_of_ble_eq_true rfl, Nat.le_of_ble_eq_true rfl⟩ (rcvOf C hP (show (wC ad cI cF _)[15]? = some (ad 15, _) from rfl) rfl) rfl hl.1 rfl (Nat.le_of_ble_eq_true rfl) hP hS dX7_encode_86 (fun H locs hP hS => ?_)
      exact MV.ret (wf := wC ad cI cF) hQ C hr hlk hf hP hS dX7_encode_89
    · have hf := ite_t hf hc
      refine lv_iload_n hx hb dX7_encode_62 rfl (lv_at hl 0 rfl) ?_
      refine lv_bipush (v := 43) hx hb dX7_encode_63 (by decide) ?_
      refine lv_icmp_ne (tgt := 83) hx hb dX7_encode_65 (by decide) (fun hc => ?_) (fun hc => ?_)
      · have hf := ite_f hf hc
        refine lv_aload_n hx hb dX7_encode_83 rfl (lv_at hl 1 rfl) ?_
        refine lv_iload_n hx hb dX7_encode_84 rfl (lv_at hl 0 rfl) ?_
        refine lv_aload_n hx hb dX7_encode_85 rfl (lv_at hl 3 rfl) ?_
        obtain ⟨v11, σ12, hc, hf⟩ := bd_at hf
        refine callVV (As := [.int v1, .ref (ad 8)]) (rest := []) C (mX7_encodeShifted hI hc) ⟨gt2_224, gt2_226, gtp7, gt1_9, gt2_227⟩ okX7_encodeShifted ⟨Nat.le_of_ble_eq_true rfl, Nat.le_of_ble_eq_true rfl⟩ (rcvOf C hP (show (wC ad cI cF _)[15]? = some (ad 15, _) from rfl) rfl) rfl hl.1 rfl (Nat.le_of_ble_eq_true rfl) hP hS dX7_encode_86 (fun H locs hP hS => ?_)
        exact MV.ret (wf := wC ad cI cF) hQ C hr hlk hf hP hS dX7_encode_89
      · have hf := ite_t hf hc
        refine lv_aload_n hx hb dX7_encode_68 rfl (lv_at hl 3 rfl) ?_
        refine lv_bipush (v := 43) hx hb dX7_encode_69 (by decide) ?_
        obtain ⟨v13, σ14, hc, hf⟩ := bd_at hf
        refine callVV (As := [.int 43]) (rest := []) C (mX1_add hI hc) ⟨gt2_223, gt2_51, gt2_52, gt1_6, gt2_53⟩ okX1_add ⟨Nat.le_of_ble_eq_true rfl, Nat.le_of_ble_eq_true rfl⟩ (rcvOf C hP (show (wC ad cI cF _)[8]? = some (ad 8, _) from rfl) rfl) rfl hl.1 rfl (Nat.le_of_ble_eq_true rfl) hP hS dX7_encode_71 (fun H locs hP hS => ?_)
        refine lv_aload_n hx hb dX7_encode_74 rfl (lv_at hl 3 rfl) ?_
        refine lv_bipush (v := 45) hx hb dX7_encode_75 (by decide) ?_
        obtain ⟨v15, σ16, hc, hf⟩ := bd_at hf
        refine callVV (As := [.int 45]) (rest := []) C (mX1_add hI hc) ⟨gt2_223, gt2_51, gt2_52, gt1_6, gt2_53⟩ okX1_add ⟨Nat.le_of_ble_eq_true rfl, Nat.le_of_ble_eq_true rfl⟩ (rcvOf C hP (show (wC ad cI cF _)[8]? = some (ad 8, _) from rfl) rfl) rfl hl.1 rfl (Nat.le_of_ble_eq_true rfl) hP hS dX7_encode_77 (fun H locs hP hS => ?_)
        refine lv_goto (tgt := 89) hx hb dX7_encode_80 (by decide) ?_
        exact MV.ret (wf := wC ad cI cF) hQ C hr hlk hf hP hS dX7_encode_89
  · have hf := ite_f hf hc
    refine lv_aload_n hx hb dX7_encode_29 rfl (lv_at hl 1 rfl) ?_
    refine GX7_0 C hP gt1_143 dX7_encode_30 ?_
    refine GX3_0N C hP (j := 16) (by decide) (by decide) dX7_encode_33 ?_
    refine lv_if_eq (tgt := 44) hx hb dX7_encode_36 (by decide) (fun hc => ?_) (fun hc => ?_)
    · have hf := ite_t hf hc
      refine lv_aload_n hx hb dX7_encode_44 rfl (lv_at hl 3 rfl) ?_
      refine lv_iload_n hx hb dX7_encode_45 rfl (lv_at hl 0 rfl) ?_
      obtain ⟨v17, σ18, hc, hf⟩ := bd_at hf
      refine callVV (As := [.int v1]) (rest := []) C (mX1_add hI hc) ⟨gt2_223, gt2_51, gt2_52, gt1_6, gt2_53⟩ okX1_add ⟨Nat.le_of_ble_eq_true rfl, Nat.le_of_ble_eq_true rfl⟩ (rcvOf C hP (show (wC ad cI cF _)[8]? = some (ad 8, _) from rfl) rfl) rfl hl.1 rfl (Nat.le_of_ble_eq_true rfl) hP hS dX7_encode_46 (fun H locs hP hS => ?_)
      refine lv_goto (tgt := 89) hx hb dX7_encode_49 (by decide) ?_
      exact MV.ret (wf := wC ad cI cF) hQ C hr hlk hf hP hS dX7_encode_89
    · have hf := ite_f hf hc
      refine lv_aload_n hx hb dX7_encode_39 rfl (lv_at hl 1 rfl) ?_
      refine lv_aload_n hx hb dX7_encode_40 rfl (lv_at hl 3 rfl) ?_
      obtain ⟨v19, σ20, hc, hf⟩ := bd_at hf
      refine callVV (As := [.ref (ad 8)]) (rest := []) C (mX7_leaveShift hI hc) ⟨gt2_199, gt2_201, gtp6, gt1_9, gt2_202⟩ okX7_leaveShift ⟨Nat.le_of_ble_eq_true rfl, Nat.le_of_ble_eq_true rfl⟩ (rcvOf C hP (show (wC ad cI cF _)[15]? = some (ad 15, _) from rfl) rfl) rfl hl.1 rfl (Nat.le_of_ble_eq_true rfl) hP hS dX7_encode_41 (fun H locs hP hS => ?_)
      refine lv_aload_n hx hb dX7_encode_44 rfl (lv_at hl 3 rfl) ?_
      refine lv_iload_n hx hb dX7_encode_45 rfl (lv_at hl 0 rfl) ?_
      obtain ⟨v21, σ22, hc, hf⟩ := bd_at hf
      refine callVV (As := [.int v1]) (rest := []) C (mX1_add hI hc) ⟨gt2_223, gt2_51, gt2_52, gt1_6, gt2_53⟩ okX1_add ⟨Nat.le_of_ble_eq_true rfl, Nat.le_of_ble_eq_true rfl⟩ (rcvOf C hP (show (wC ad cI cF _)[8]? = some (ad 8, _) from rfl) rfl) rfl hl.1 rfl (Nat.le_of_ble_eq_true rfl) hP hS dX7_encode_46 (fun H locs hP hS => ?_)
      refine lv_goto (tgt := 89) hx hb dX7_encode_49 (by decide) ?_
      exact MV.ret (wf := wC ad cI cF) hQ C hr hlk hf hP hS dX7_encode_89
def fX2_leastByteOf_b11 : Nat → St → Int32 → Int32 → Option (Int32 × St)
  | 0, _, _, _ => none
  | n + 1, σ, x1, x2 => (if 128 ≤ x2 then some ((-1), σ) else ld (σ 2) 128 x2 (fun v1 => (if v1 = x1 then some (128 + x2, σ) else nm (x2 + 1) (fun v2 => fX2_leastByteOf_b11 n σ x1 v2))))
def fX2_leastByteOf (σ : St) (p1 : Int32) : Option (Int32 × St) := (if 128 ≤ p1 then fX2_leastByteOf_b11 200 σ p1 0 else some (p1, σ))
set_option maxHeartbeats 4000000 in
set_option maxRecDepth 100000 in
theorem mX2_leastByteOf {l : Launch} {D : va_G} {kS vS : Nat → Nat} {ad : Nat → Nat} {cI cF : ClassId} {σ σ0 : St} {p1 : Int32} {r : Int32} (hI : Inj ad 18) (hf : fX2_leastByteOf σ p1 = some (r, σ0)) : MI l D (tyC cI cF) (inA ad 18) kS vS yX2_leastByteOf cX2_leastByteOf 3 .int 0 0 [.ref (ad 1), .int p1] (wC ad cI cF σ) (wC ad cI cF σ0) r := by
  refine MI.of (by decide) (Nat.le_of_ble_eq_true rfl) (fun p e s m args below meth c ls Q hQ C hr hlk hP hS hl => ?_)
  obtain ⟨hx, hb, hml, hown, hts, hK, hKS⟩ := id C
  have hl : lv_has ls 3 [(0, .ref (ad 1)), (1, .int p1)] := hl
  have B11 : ∀ n : Nat, ∀ (σ : St) (x1 x2 : Int32) (H : Heap) (locs : List Loc) (ls : Array Slot), va_P D vwCl (wC ad cI cF σ) H → va_S (inA ad 18) s.heap H locs → lv_has ls 3 [(0, .ref (ad 1)), (1, .int x1), (2, .int x2)] → fX2_leastByteOf_b11 n σ x1 x2 = some (r, σ0) → W p l e (rmN 0 0) s m args below meth c H locs 0 0 Q (F0 m 11 ls []) := by
    intro n
    induction n with
    | zero =>
      intro σ x1 x2 H locs ls hP hS hl hf
      exact nomatch (show (none : Option (Int32 × St)) = some (r, σ0) from hf)
    | succ n ih =>
      intro σ x1 x2 H locs ls hP hS hl hf
      rw [fX2_leastByteOf_b11] at hf
      refine lv_iload_n hx hb dX2_leastByteOf_11 rfl (lv_at hl 2 rfl) ?_
      refine lv_aload_n hx hb dX2_leastByteOf_12 rfl (lv_at hl 0 rfl) ?_
      refine GX2_0 C hP gt1_40 dX2_leastByteOf_13 ?_
      refine alen (v := 128) C hP 2 rfl rfl (show Int32.ofNat 128 = 128 by decide) dX2_leastByteOf_16 ?_
      refine lv_icmp_ge (tgt := 42) hx hb dX2_leastByteOf_17 (by decide) (fun hc => ?_) (fun hc => ?_)
      · have hf := ite_t hf hc
        refine lv_iconst (v := (-1)) hx hb dX2_leastByteOf_42 (by decide) ?_
        exact MI.ret (wf := wC ad cI cF) hQ C hr hlk rfl hf hP hS dX2_leastByteOf_43
      · have hf := ite_f hf hc
        refine lv_aload_n hx hb dX2_leastByteOf_20 rfl (lv_at hl 0 rfl) ?_
        refine GX2_0 C hP gt1_40 dX2_leastByteOf_21 ?_
        refine lv_iload_n hx hb dX2_leastByteOf_24 rfl (lv_at hl 2 rfl) ?_
        obtain ⟨hin, hf⟩ := ld_at hf
        refine aload C hP 2 rfl rfl hin dX2_leastByteOf_25 (fun v1 ev1 => ?_)
        have hf := hf v1 ev1
        refine lv_iload_n hx hb dX2_leastByteOf_26 rfl (lv_at hl 1 rfl) ?_
        refine lv_icmp_ne (tgt := 36) hx hb dX2_leastByteOf_27 (by decide) (fun hc => ?_) (fun hc => ?_)
        · have hf := ite_f hf hc
          obtain ⟨v2, ev2⟩ : ∃ y : Int32, y = x2 + 1 := ⟨_, rfl⟩
          have hf := nm_at hf v2 ev2
          refine lv_iinc (v := v2) (lv' := [(2, .int v2), (0, .ref (ad 1)), (1, .int x1)]) hx hb dX2_leastByteOf_36 hl (k := 2) rfl (by rw [ev2]; rfl) (by decide) rfl (fun ls hl => ?_)
          refine lv_goto (tgt := 11) hx hb dX2_leastByteOf_39 (by decide) ?_
          exact ih σ x1 v2 _ _ _ hP hS (lv_sub hl [1, 2, 0] rfl) hf
        · have hf := ite_t hf hc
          refine lv_sipush (v := 128) hx hb dX2_leastByteOf_30 (by decide) ?_
          refine lv_iload_n hx hb dX2_leastByteOf_33 rfl (lv_at hl 2 rfl) ?_
          refine lv_iadd hx hb dX2_leastByteOf_34 ?_
          exact MI.ret (wf := wC ad cI cF) hQ C hr hlk rfl hf hP hS dX2_leastByteOf_35
  unfold fX2_leastByteOf at hf
  refine lv_iload_n hx hb dX2_leastByteOf_0 rfl (lv_at hl 1 rfl) ?_
  refine lv_sipush (v := 128) hx hb dX2_leastByteOf_1 (by decide) ?_
  refine lv_icmp_ge (tgt := 9) hx hb dX2_leastByteOf_4 (by decide) (fun hc => ?_) (fun hc => ?_)
  · have hf := ite_t hf hc
    refine lv_iconst (v := 0) hx hb dX2_leastByteOf_9 (by decide) ?_
    refine lv_istore_n (lv' := [(2, .int 0), (0, .ref (ad 1)), (1, .int p1)]) hx hb dX2_leastByteOf_10 rfl hl (by decide) rfl (fun ls hl => ?_)
    exact B11 200 σ p1 0 _ _ _ hP hS (lv_sub hl [1, 2, 0] rfl) hf
  · have hf := ite_f hf hc
    refine lv_iload_n hx hb dX2_leastByteOf_7 rfl (lv_at hl 1 rfl) ?_
    exact MI.ret (wf := wC ad cI cF) hQ C hr hlk rfl hf hP hS dX2_leastByteOf_8
def fX2_encode (σ : St) : Option (Int32 × St) := bd (fX5_at 4 σ 0) (fun v1 σ2 => bd (fX2_leastByteOf σ2 v1) (fun v3 σ4 => (if v3 < 0 then bd (fX5_at 4 σ4 1) (fun v5 σ6 => bd (fX4_isPair σ6 v1 v5) (fun v7 σ8 => (if v7 = 0 then bd (fX4_isEither σ8 v1) (fun v9 σ10 => (if v9 = 0 then bd (fX1_setUnknown σ10 1) (fun _ σ12 => some (0, σ12)) else bd (fX4_setForUnpaired σ10) (fun _ σ14 => some (0, σ14)))) else bd (fX1_setUnknown σ8 2) (fun _ σ16 => some (0, σ16))))) else bd (fX1_setStep σ4 1) (fun _ σ18 => bd (fX1_add σ18 v3) (fun _ σ20 => some (0, σ20))))))
set_option maxHeartbeats 4000000 in
set_option maxRecDepth 100000 in
theorem mX2_encode {l : Launch} {D : va_G} {kS vS : Nat → Nat} {ad : Nat → Nat} {cI cF : ClassId} {σ σ0 : St} {r : Int32} (hI : Inj ad 18) (hf : fX2_encode σ  = some (r, σ0)) : MV l D (tyC cI cF) (inA ad 18) kS vS yX2_encode cX2_encode 5 3 64 [.ref (ad 1), .ref (ad 4), .ref (ad 8)] (wC ad cI cF σ) (wC ad cI cF σ0) := by
  refine MV.of (by decide) (Nat.le_of_ble_eq_true rfl) (fun p e s m args below meth c ls Q hQ C hr hlk hP hS hl => ?_)
  obtain ⟨hx, hb, hml, hown, hts, hK, hKS⟩ := id C
  have hl : lv_has ls 5 [(0, .ref (ad 1)), (1, .ref (ad 4)), (2, .ref (ad 8))] := hl
  unfold fX2_encode at hf
  refine lv_aload_n hx hb dX2_encode_0 rfl (lv_at hl 1 rfl) ?_
  refine lv_iconst (v := 0) hx hb dX2_encode_1 (by decide) ?_
  obtain ⟨v1, σ2, hc, hf⟩ := bd_at hf
  refine callVI (As := [.int 0]) (rest := []) C (mX5_at (j := 4) hI (by decide) hc) ⟨gt2_38, gt2_39, gt2_40, gt1_5, gt2_41⟩ okX5_at ⟨Nat.le_of_ble_eq_true rfl, Nat.le_of_ble_eq_true rfl⟩ (rcvOf C hP (show (wC ad cI cF _)[4]? = some (ad 4, _) from rfl) rfl) rfl hl.1 rfl (Nat.le_of_ble_eq_true rfl) hP hS dX2_encode_2 (fun H locs hP hS => ?_)
  refine lv_istore_n (lv' := [(3, .int v1), (0, .ref (ad 1)), (1, .ref (ad 4)), (2, .ref (ad 8))]) hx hb dX2_encode_5 rfl hl (by decide) rfl (fun ls hl => ?_)
  refine lv_aload_n hx hb dX2_encode_6 rfl (lv_at hl 1 rfl) ?_
  refine lv_iload_n hx hb dX2_encode_7 rfl (lv_at hl 0 rfl) ?_
  obtain ⟨v3, σ4, hc, hf⟩ := bd_at hf
  refine callVI (As := [.int v1]) (rest := []) C (mX2_leastByteOf hI hc) ⟨gt2_42, gt2_44, gtp4, gt1_3, gt2_45⟩ okX2_leastByteOf ⟨Nat.le_of_ble_eq_true rfl, Nat.le_of_ble_eq_true rfl⟩ (rcvOf C hP (show (wC ad cI cF _)[1]? = some (ad 1, _) from rfl) rfl) rfl hl.1 rfl (Nat.le_of_ble_eq_true rfl) hP hS dX2_encode_8 (fun H locs hP hS => ?_)
  refine lv_istore (lv' := [(4, .int v3), (3, .int v1), (0, .ref (ad 1)), (1, .ref (ad 4)), (2, .ref (ad 8))]) hx hb dX2_encode_11 hl (by decide) rfl (fun ls hl => ?_)
  refine lv_iload hx hb dX2_encode_13 (lv_at hl 0 rfl) ?_
  refine lv_if_lt (tgt := 32) hx hb dX2_encode_15 (by decide) (fun hc => ?_) (fun hc => ?_)
  · have hf := ite_t hf hc
    refine lv_iload_n hx hb dX2_encode_32 rfl (lv_at hl 1 rfl) ?_
    refine lv_aload_n hx hb dX2_encode_33 rfl (lv_at hl 3 rfl) ?_
    refine lv_iconst (v := 1) hx hb dX2_encode_34 (by decide) ?_
    obtain ⟨v5, σ6, hc, hf⟩ := bd_at hf
    refine callVI (As := [.int 1]) (rest := [.int v1]) C (mX5_at (j := 4) hI (by decide) hc) ⟨gt2_38, gt2_39, gt2_40, gt1_5, gt2_41⟩ okX5_at ⟨Nat.le_of_ble_eq_true rfl, Nat.le_of_ble_eq_true rfl⟩ (rcvOf C hP (show (wC ad cI cF _)[4]? = some (ad 4, _) from rfl) rfl) rfl hl.1 rfl (Nat.le_of_ble_eq_true rfl) hP hS dX2_encode_35 (fun H locs hP hS => ?_)
    obtain ⟨v7, σ8, hc, hf⟩ := bd_at hf
    refine callSI (As := [.int v1, .int v5]) (rest := []) C (mX4_isPair hI hc) ⟨gt2_54, gt2_55, gt1_12, gt2_56⟩ okX4_isPair ⟨Nat.le_of_ble_eq_true rfl, Nat.le_of_ble_eq_true rfl⟩ rfl hl.1 rfl (Nat.le_of_ble_eq_true rfl) hP hS dX2_encode_38 (fun H locs hP hS => ?_)
    refine lv_if_eq (tgt := 52) hx hb dX2_encode_41 (by decide) (fun hc => ?_) (fun hc => ?_)
    · have hf := ite_t hf hc
      refine lv_iload_n hx hb dX2_encode_52 rfl (lv_at hl 1 rfl) ?_
      obtain ⟨v9, σ10, hc, hf⟩ := bd_at hf
      refine callSI (As := [.int v1]) (rest := []) C (mX4_isEither hI hc) ⟨gt2_70, gt2_71, gt1_12, gt2_72⟩ okX4_isEither ⟨Nat.le_of_ble_eq_true rfl, Nat.le_of_ble_eq_true rfl⟩ rfl hl.1 rfl (Nat.le_of_ble_eq_true rfl) hP hS dX2_encode_53 (fun H locs hP hS => ?_)
      refine lv_if_eq (tgt := 67) hx hb dX2_encode_56 (by decide) (fun hc => ?_) (fun hc => ?_)
      · have hf := ite_t hf hc
        refine lv_aload_n hx hb dX2_encode_67 rfl (lv_at hl 4 rfl) ?_
        refine lv_iconst (v := 1) hx hb dX2_encode_68 (by decide) ?_
        obtain ⟨v11, σ12, hc, hf⟩ := bd_at hf
        refine callVV (As := [.int 1]) (rest := []) C (mX1_setUnknown hI hc) ⟨gt2_66, gt2_67, gt2_68, gt1_6, gt2_69⟩ okX1_setUnknown ⟨Nat.le_of_ble_eq_true rfl, Nat.le_of_ble_eq_true rfl⟩ (rcvOf C hP (show (wC ad cI cF _)[8]? = some (ad 8, _) from rfl) rfl) rfl hl.1 rfl (Nat.le_of_ble_eq_true rfl) hP hS dX2_encode_69 (fun H locs hP hS => ?_)
        exact MV.ret (wf := wC ad cI cF) hQ C hr hlk hf hP hS dX2_encode_72
      · have hf := ite_f hf hc
        refine lv_aload_n hx hb dX2_encode_59 rfl (lv_at hl 3 rfl) ?_
        refine lv_aload_n hx hb dX2_encode_60 rfl (lv_at hl 4 rfl) ?_
        obtain ⟨v13, σ14, hc, hf⟩ := bd_at hf
        refine callSV (As := [.ref (ad 4), .ref (ad 8)]) (rest := []) C (mX4_setForUnpaired hI hc) ⟨gt2_73, gt2_74, gt1_12, gt2_75⟩ okX4_setForUnpaired ⟨Nat.le_of_ble_eq_true rfl, Nat.le_of_ble_eq_true rfl⟩ rfl hl.1 rfl (Nat.le_of_ble_eq_true rfl) hP hS dX2_encode_61 (fun H locs hP hS => ?_)
        refine lv_goto (tgt := 72) hx hb dX2_encode_64 (by decide) ?_
        exact MV.ret (wf := wC ad cI cF) hQ C hr hlk hf hP hS dX2_encode_72
    · have hf := ite_f hf hc
      refine lv_aload_n hx hb dX2_encode_44 rfl (lv_at hl 4 rfl) ?_
      refine lv_iconst (v := 2) hx hb dX2_encode_45 (by decide) ?_
      obtain ⟨v15, σ16, hc, hf⟩ := bd_at hf
      refine callVV (As := [.int 2]) (rest := []) C (mX1_setUnknown hI hc) ⟨gt2_66, gt2_67, gt2_68, gt1_6, gt2_69⟩ okX1_setUnknown ⟨Nat.le_of_ble_eq_true rfl, Nat.le_of_ble_eq_true rfl⟩ (rcvOf C hP (show (wC ad cI cF _)[8]? = some (ad 8, _) from rfl) rfl) rfl hl.1 rfl (Nat.le_of_ble_eq_true rfl) hP hS dX2_encode_46 (fun H locs hP hS => ?_)
      refine lv_goto (tgt := 72) hx hb dX2_encode_49 (by decide) ?_
      exact MV.ret (wf := wC ad cI cF) hQ C hr hlk hf hP hS dX2_encode_72
  · have hf := ite_f hf hc
    refine lv_aload_n hx hb dX2_encode_18 rfl (lv_at hl 4 rfl) ?_
    refine lv_iconst (v := 1) hx hb dX2_encode_19 (by decide) ?_
    obtain ⟨v17, σ18, hc, hf⟩ := bd_at hf
    refine callVV (As := [.int 1]) (rest := []) C (mX1_setStep hI hc) ⟨gt2_46, gt2_47, gt2_48, gt1_6, gt2_49⟩ okX1_setStep ⟨Nat.le_of_ble_eq_true rfl, Nat.le_of_ble_eq_true rfl⟩ (rcvOf C hP (show (wC ad cI cF _)[8]? = some (ad 8, _) from rfl) rfl) rfl hl.1 rfl (Nat.le_of_ble_eq_true rfl) hP hS dX2_encode_20 (fun H locs hP hS => ?_)
    refine lv_aload_n hx hb dX2_encode_23 rfl (lv_at hl 4 rfl) ?_
    refine lv_iload hx hb dX2_encode_24 (lv_at hl 0 rfl) ?_
    obtain ⟨v19, σ20, hc, hf⟩ := bd_at hf
    refine callVV (As := [.int v3]) (rest := []) C (mX1_add hI hc) ⟨gt2_50, gt2_51, gt2_52, gt1_6, gt2_53⟩ okX1_add ⟨Nat.le_of_ble_eq_true rfl, Nat.le_of_ble_eq_true rfl⟩ (rcvOf C hP (show (wC ad cI cF _)[8]? = some (ad 8, _) from rfl) rfl) rfl hl.1 rfl (Nat.le_of_ble_eq_true rfl) hP hS dX2_encode_26 (fun H locs hP hS => ?_)
    refine lv_goto (tgt := 72) hx hb dX2_encode_29 (by decide) ?_
    exact MV.ret (wf := wC ad cI cF) hQ C hr hlk hf hP hS dX2_encode_72
def fv_encode (σ : St) : Option (Int32 × St) := if σ 0 5 = 0 then fX8_encode 10 σ else if σ 0 5 = 1 then fX8_encode 11 σ else if σ 0 5 = 2 then fX6_encode 12 σ else if σ 0 5 = 3 then fX6_encode 13 σ else if σ 0 5 = 4 then fX6_encode 14 σ else if σ 0 5 = 5 then fX7_encode σ else if σ 0 5 = 6 then fX2_encode σ else none
set_option maxHeartbeats 4000000 in
set_option maxRecDepth 100000 in
theorem dv_encode {p : Program} {l : Launch} {e : Env} {R : Room} {s : State} {m : MethodId} {args : Array Value} {below : List Frame} {meth : Method} {c : Code} {H : Heap} {locs : List Loc} {Q : State → Prop} {cc : ByteArray} {pc nL : Nat} {ls : Array Slot} {rest : List Value} {D : va_G} {kS vS : Nat → Nat} {ad : Nat → Nat} {cI cF : ClassId} {σ σ0 : St} {r : Int32} (hI : Inj ad 18) (C : Cx p c cc nL s m args RX9 D (tyC cI cF) (inA ad 18) kS vS) (hf : fv_encode σ = some (r, σ0)) (hR : 7 ≤ R.frames ∧ 155 ≤ R.locals) (hls : ls.size = nL) (hcat : (rest.map fun v => v.category).sum ≤ 8) (hP : va_P D vwCl (wC ad cI cF σ) H) (hS : va_S (inA ad 18) s.heap H locs) (hd : decode cc pc = .ok (.invokevirtual 148, 3))
    (kk : ∀ (H1 : Heap) (locs1 : List Loc), va_P D vwCl (wC ad cI cF σ0) H1 → va_S (inA ad 18) s.heap H1 locs1 → W p l e R s m args below meth c H1 locs1 0 0 Q (F0 m (pc + 3) ls (rest))) : W p l e R s m args below meth c H locs 0 0 Q (F0 m pc ls (.ref (ad 8) :: .ref (ad 4) :: .ref (ad (fK (σ 0 5).toNatClampNeg)) :: rest)) := by
  obtain ⟨hx, hb, hml, hown, hts, hK, hKS⟩ := id C
  unfold fv_encode at hf
  by_cases h0 : σ 0 5 = 0
  · have hf := ite_t hf h0
    rw [h0]
    exact callUV (x := ⟨"ResumableCoder$Form", "encode", "(LResumableCoder$Units;LResumableCoder$Move;)V"⟩) (C0 := RX8) (owner := "ResumableCoder$Form") (As := [.ref (ad 4), .ref (ad 8)]) (rest := rest) C (mX8_encode (j := 10) hI (by decide) hf) (va_cwA 2 hts (GT_in (in5 gt2_32 gt2_34 gt3_2 gt3_3 gt1_7 (cons_in gt3_4))) rfl rfl rfl (hKS.2.2.2.2.2.1 _ (by decide)) ⟨by decide, by decide, by decide +kernel⟩ ⟨Nat.le_trans (Nat.le_of_ble_eq_true rfl) hR.1, Nat.le_trans (Nat.le_of_ble_eq_true rfl) hR.2⟩) (rcvOf C hP (show (wC ad cI cF σ)[10]? = some (ad 10, _) from rfl) rfl) rfl hls rfl hcat hP hS hd kk
  have hf := ite_f hf h0
  by_cases h1 : σ 0 5 = 1
  · have hf := ite_t hf h1
    rw [h1]
    exact callUV (x := ⟨"ResumableCoder$Form", "encode", "(LResumableCoder$Units;LResumableCoder$Move;)V"⟩) (C0 := RX8) (owner := "ResumableCoder$Form") (As := [.ref (ad 4), .ref (ad 8)]) (rest := rest) C (mX8_encode (j := 11) hI (by decide) hf) (va_cwA 2 hts (GT_in (in5 gt2_32 gt2_34 gt3_2 gt3_3 gt1_7 (cons_in gt3_4))) rfl rfl rfl (hKS.2.2.2.2.2.1 _ (by decide)) ⟨by decide, by decide, by decide +kernel⟩ ⟨Nat.le_trans (Nat.le_of_ble_eq_true rfl) hR.1, Nat.le_trans (Nat.le_of_ble_eq_true rfl) hR.2⟩) (rcvOf C hP (show (wC ad cI cF σ)[11]? = some (ad 11, _) from rfl) rfl) rfl hls rfl hcat hP hS hd kk
  have hf := ite_f hf h1
  by_cases h2 : σ 0 5 = 2
  · have hf := ite_t hf h2
    rw [h2]
    exact callUV (x := ⟨"ResumableCoder$Form", "encode", "(LResumableCoder$Units;LResumableCoder$Move;)V"⟩) (C0 := RX6) (owner := "ResumableCoder$Form") (As := [.ref (ad 4), .ref (ad 8)]) (rest := rest) C (mX6_encode (j := 12) hI (by decide) hf) (va_cwA 2 hts (GT_in (in5 gt2_32 gt2_34 gt2_83 gt2_84 gt1_8 (cons_in gt2_85))) rfl rfl rfl (hKS.2.2.2.2.2.1 _ (by decide)) ⟨by decide, by decide, by decide +kernel⟩ ⟨Nat.le_trans (Nat.le_of_ble_eq_true rfl) hR.1, Nat.le_trans (Nat.le_of_ble_eq_true rfl) hR.2⟩) (rcvOf C hP (show (wC ad cI cF σ)[12]? = some (ad 12, _) from rfl) rfl) rfl hls rfl hcat hP hS hd kk
  have hf := ite_f hf h2
  by_cases h3 : σ 0 5 = 3
  · have hf := ite_t hf h3
    rw [h3]
    exact callUV (x := ⟨"ResumableCoder$Form", "encode", "(LResumableCoder$Units;LResumableCoder$Move;)V"⟩) (C0 := RX6) (owner := "ResumableCoder$Form") (As := [.ref (ad 4), .ref (ad 8)]) (rest := rest) C (mX6_encode (j := 13) hI (by decide) hf) (va_cwA 2 hts (GT_in (in5 gt2_32 gt2_34 gt2_83 gt2_84 gt1_8 (cons_in gt2_85))) rfl rfl rfl (hKS.2.2.2.2.2.1 _ (by decide)) ⟨by decide, by decide, by decide +kernel⟩ ⟨Nat.le_trans (Nat.le_of_ble_eq_true rfl) hR.1, Nat.le_trans (Nat.le_of_ble_eq_true rfl) hR.2⟩) (rcvOf C hP (show (wC ad cI cF σ)[13]? = some (ad 13, _) from rfl) rfl) rfl hls rfl hcat hP hS hd kk
  have hf := ite_f hf h3
  by_cases h4 : σ 0 5 = 4
  · have hf := ite_t hf h4
    rw [h4]
    exact callUV (x := ⟨"ResumableCoder$Form", "encode", "(LResumableCoder$Units;LResumableCoder$Move;)V"⟩) (C0 := RX6) (owner := "ResumableCoder$Form") (As := [.ref (ad 4), .ref (ad 8)]) (rest := rest) C (mX6_encode (j := 14) hI (by decide) hf) (va_cwA 2 hts (GT_in (in5 gt2_32 gt2_34 gt2_83 gt2_84 gt1_8 (cons_in gt2_85))) rfl rfl rfl (hKS.2.2.2.2.2.1 _ (by decide)) ⟨by decide, by decide, by decide +kernel⟩ ⟨Nat.le_trans (Nat.le_of_ble_eq_true rfl) hR.1, Nat.le_trans (Nat.le_of_ble_eq_true rfl) hR.2⟩) (rcvOf C hP (show (wC ad cI cF σ)[14]? = some (ad 14, _) from rfl) rfl) rfl hls rfl hcat hP hS hd kk
  have hf := ite_f hf h4
  by_cases h5 : σ 0 5 = 5
  · have hf := ite_t hf h5
    rw [h5]
    exact callUV (x := ⟨"ResumableCoder$Form", "encode", "(LResumableCoder$Units;LResumableCoder$Move;)V"⟩) (C0 := RX7) (owner := "ResumableCoder$Form") (As := [.ref (ad 4), .ref (ad 8)]) (rest := rest) C (mX7_encode hI hf) (va_cwA 2 hts (GT_in (in5 gt2_32 gt2_34 gt2_96 gt2_97 gt1_9 (cons_in gt2_98))) rfl rfl rfl (hKS.2.2.2.2.2.1 _ (by decide)) ⟨by decide, by decide, by decide +kernel⟩ ⟨Nat.le_trans (Nat.le_of_ble_eq_true rfl) hR.1, Nat.le_trans (Nat.le_of_ble_eq_true rfl) hR.2⟩) (rcvOf C hP (show (wC ad cI cF σ)[15]? = some (ad 15, _) from rfl) rfl) rfl hls rfl hcat hP hS hd kk
  have hf := ite_f hf h5
  by_cases h6 : σ 0 5 = 6
  · have hf := ite_t hf h6
    rw [h6]
    exact callUV (x := ⟨"ResumableCoder$Form", "encode", "(LResumableCoder$Units;LResumableCoder$Move;)V"⟩) (C0 := RX2) (owner := "ResumableCoder$Form") (As := [.ref (ad 4), .ref (ad 8)]) (rest := rest) C (mX2_encode hI hf) (va_cwA 2 hts (GT_in (in5 gt2_32 gt2_34 gt2_35 gt2_36 gt1_3 (cons_in gt2_37))) rfl rfl rfl (hKS.2.2.2.2.2.1 _ (by decide)) ⟨by decide, by decide, by decide +kernel⟩ ⟨Nat.le_trans (Nat.le_of_ble_eq_true rfl) hR.1, Nat.le_trans (Nat.le_of_ble_eq_true rfl) hR.2⟩) (rcvOf C hP (show (wC ad cI cF σ)[1]? = some (ad 1, _) from rfl) rfl) rfl hls rfl hcat hP hS hd kk
  have hf := ite_f hf h6
  exact nomatch (show (none : Option (Int32 × St)) = some (r, σ0) from hf)
def fX9_look (σ : St) : Option (Int32 × St) := bd (fX5_count 4 σ) (fun v1 σ2 => (if v1 = 0 then bd (fX1_setNeed σ2) (fun _ σ8 => some (0, σ8)) else (if (σ2 0 7) = 0 then bd (fv_decode σ2) (fun _ σ4 => some (0, σ4)) else bd (fv_encode σ2) (fun _ σ6 => some (0, σ6)))))
set_option maxHeartbeats 4000000 in
set_option maxRecDepth 100000 in
theorem mX9_look {l : Launch} {D : va_G} {kS vS : Nat → Nat} {ad : Nat → Nat} {cI cF : ClassId} {σ σ0 : St} {r : Int32} (hI : Inj ad 18) (hf : fX9_look σ  = some (r, σ0)) : MV l D (tyC cI cF) (inA ad 18) kS vS yX9_look cX9_look 1 7 155 [.ref (ad 0)] (wC ad cI cF σ) (wC ad cI cF σ0) := by
  refine MV.of (by decide) (Nat.le_of_ble_eq_true rfl) (fun p e s m args below meth c ls Q hQ C hr hlk hP hS hl => ?_)
  obtain ⟨hx, hb, hml, hown, hts, hK, hKS⟩ := id C
  have hl : lv_has ls 1 [(0, .ref (ad 0))] := hl
  unfold fX9_look at hf
  refine lv_aload_n hx hb dX9_look_0 rfl (lv_at hl 0 rfl) ?_
  refine GX9_2 C hP gt1_152 dX9_look_1 ?_
  obtain ⟨v1, σ2, hc, hf⟩ := bd_at hf
  refine callVI (As := []) (rest := []) C (mX5_count (j := 4) hI (by decide) hc) ⟨gt2_0, gt2_1, gt2_2, gt1_5, gt2_3⟩ okX5_count ⟨Nat.le_of_ble_eq_true rfl, Nat.le_of_ble_eq_true rfl⟩ (rcvOf C hP (show (wC ad cI cF _)[4]? = some (ad 4, _) from rfl) rfl) rfl hl.1 rfl (Nat.le_of_ble_eq_true rfl) hP hS dX9_look_4 (fun H locs hP hS => ?_)
  refine lv_if_ne (tgt := 20) hx hb dX9_look_7 (by decide) (fun hc => ?_) (fun hc => ?_)
  · have hf := ite_f hf hc
    refine lv_aload_n hx hb dX9_look_20 rfl (lv_at hl 0 rfl) ?_
    refine GX9_7 C hP gt1_157 dX9_look_21 ?_
    refine lv_if_eq (tgt := 45) hx hb dX9_look_24 (by decide) (fun hc => ?_) (fun hc => ?_)
    · have hf := ite_t hf hc
      refine lv_aload_n hx hb dX9_look_45 rfl (lv_at hl 0 rfl) ?_
      refine GX9_5 C hP gt1_155 dX9_look_46 ?_
      refine lv_aload_n hx hb dX9_look_49 rfl (lv_at hl 0 rfl) ?_
      refine GX9_2 C hP gt1_152 dX9_look_50 ?_
      refine lv_aload_n hx hb dX9_look_53 rfl (lv_at hl 0 rfl) ?_
      refine GX9_4 C hP gt1_154 dX9_look_54 ?_
      obtain ⟨v3, σ4, hc, hf⟩ := bd_at hf
      refine dv_decode (rest := []) hI C hc ⟨Nat.le_of_ble_eq_true rfl, Nat.le_of_ble_eq_true rfl⟩ hl.1 (Nat.le_of_ble_eq_true rfl) hP hS dX9_look_57 (fun H locs hP hS => ?_)
      exact MV.ret (wf := wC ad cI cF) hQ C hr hlk hf hP hS dX9_look_60
    · have hf := ite_f hf hc
      refine lv_aload_n hx hb dX9_look_27 rfl (lv_at hl 0 rfl) ?_
      refine GX9_5 C hP gt1_155 dX9_look_28 ?_
      refine lv_aload_n hx hb dX9_look_31 rfl (lv_at hl 0 rfl) ?_
      refine GX9_2 C hP gt1_152 dX9_look_32 ?_
      refine lv_aload_n hx hb dX9_look_35 rfl (lv_at hl 0 rfl) ?_
      refine GX9_4 C hP gt1_154 dX9_look_36 ?_
      obtain ⟨v5, σ6, hc, hf⟩ := bd_at hf
      refine dv_encode (rest := []) hI C hc ⟨Nat.le_of_ble_eq_true rfl, Nat.le_of_ble_eq_true rfl⟩ hl.1 (Nat.le_of_ble_eq_true rfl) hP hS dX9_look_39 (fun H locs hP hS => ?_)
      refine lv_goto (tgt := 60) hx hb dX9_look_42 (by decide) ?_
      exact MV.ret (wf := wC ad cI cF) hQ C hr hlk hf hP hS dX9_look_60
  · have hf := ite_t hf hc
    refine lv_aload_n hx hb dX9_look_10 rfl (lv_at hl 0 rfl) ?_
    refine GX9_4 C hP gt1_154 dX9_look_11 ?_
    obtain ⟨v7, σ8, hc, hf⟩ := bd_at hf
    refine callVV (As := []) (rest := []) C (mX1_setNeed hI hc) ⟨gt2_24, gt2_25, gt2_26, gt1_6, gt2_27⟩ okX1_setNeed ⟨Nat.le_of_ble_eq_true rfl, Nat.le_of_ble_eq_true rfl⟩ (rcvOf C hP (show (wC ad cI cF _)[8]? = some (ad 8, _) from rfl) rfl) rfl hl.1 rfl (Nat.le_of_ble_eq_true rfl) hP hS dX9_look_14 (fun H locs hP hS => ?_)
    refine lv_goto (tgt := 60) hx hb dX9_look_17 (by decide) ?_
    exact MV.ret (wf := wC ad cI cF) hQ C hr hlk hf hP hS dX9_look_60
def fX5_drop (j : Nat) (σ : St) (p1 : Int32) : Option (Int32 × St) := nm (if 0 < (if (σ j 1) < p1 then (σ j 1) else p1) then (if (σ j 1) < p1 then (σ j 1) else p1) else 0) (fun v1 => cp σ (j + 1) (capU j) v1 0 ((σ j 1) - v1) (fun σ2 => nm (up σ2 j 1 ((σ2 j 1) - v1)) (fun σ3 => some (0, σ3))))
set_option maxHeartbeats 4000000 in
set_option maxRecDepth 100000 in
theorem mX5_drop {l : Launch} {D : va_G} {kS vS : Nat → Nat} {ad : Nat → Nat} {cI cF : ClassId} {j : Nat} {σ σ0 : St} {p1 : Int32} {r : Int32} (hI : Inj ad 18) (hj : jX5 j) (hf : fX5_drop j σ p1 = some (r, σ0)) : MV l D (tyC cI cF) (inA ad 18) kS vS yX5_drop cX5_drop 3 1 60 [.ref (ad j), .int p1] (wC ad cI cF σ) (wC ad cI cF σ0) := by
  refine MV.of (by decide) (Nat.le_of_ble_eq_true rfl) (fun p e s m args below meth c ls Q hQ C hr hlk hP hS hl => ?_)
  obtain ⟨hx, hb, hml, hown, hts, hK, hKS⟩ := id C
  have hl : lv_has ls 3 [(0, .ref (ad j)), (1, .int p1)] := hl
  unfold fX5_drop at hf
  refine lv_iconst (v := 0) hx hb dX5_drop_0 (by decide) ?_
  refine lv_iload_n hx hb dX5_drop_1 rfl (lv_at hl 1 rfl) ?_
  refine lv_aload_n hx hb dX5_drop_2 rfl (lv_at hl 0 rfl) ?_
  refine GX5_1 C hP hj gt1_52 dX5_drop_3 ?_
  refine va_mmin hx hb (hml.trans hl.1.symm) hown (hts _ gt3_123) (hts _ gt2_144) (hts _ gt1_15) (hts _ gt2_145) (Nat.le_of_ble_eq_true rfl) (Nat.le_of_ble_eq_true rfl) (Nat.zero_le _) (Nat.zero_le _) dX5_drop_6 ?_
  refine va_mmax hx hb (hml.trans hl.1.symm) hown (hts _ gt3_124) (hts _ gt2_141) (hts _ gt1_15) (hts _ gt2_142) (Nat.le_of_ble_eq_true rfl) (Nat.le_of_ble_eq_true rfl) (Nat.zero_le _) (Nat.zero_le _) dX5_drop_9 ?_
  refine lv_topi (fun v1 ev1 => ?_)
  have hf := nm_at hf v1 ev1
  refine lv_istore_n (lv' := [(2, .int v1), (0, .ref (ad j)), (1, .int p1)]) hx hb dX5_drop_12 rfl hl (by decide) rfl (fun ls hl => ?_)
  refine lv_aload_n hx hb dX5_drop_13 rfl (lv_at hl 1 rfl) ?_
  refine GX5_0 C hP hj gt1_51 dX5_drop_14 ?_
  refine lv_iload_n hx hb dX5_drop_17 rfl (lv_at hl 0 rfl) ?_
  refine lv_aload_n hx hb dX5_drop_18 rfl (lv_at hl 1 rfl) ?_
  refine GX5_0 C hP hj gt1_51 dX5_drop_19 ?_
  refine lv_iconst (v := 0) hx hb dX5_drop_22 (by decide) ?_
  refine lv_aload_n hx hb dX5_drop_23 rfl (lv_at hl 1 rfl) ?_
  refine GX5_1 C hP hj gt1_52 dX5_drop_24 ?_
  refine lv_iload_n hx hb dX5_drop_27 rfl (lv_at hl 0 rfl) ?_
  refine lv_isub hx hb dX5_drop_28 ?_
  obtain ⟨hin, hf⟩ := cp_at hf
  refine acopy (wf := wC ad cI cF) C hP (dC hI _) hS (j + 1) (eX5r hj) rfl hin.1 hin.2.1 hin.2.2.1 hin.2.2.2.1 hin.2.2.2.2 (cX5r hj) (hml.trans hl.1.symm) ⟨gt3_125, gt3_127, gt3_126, gt1_19⟩ (Nat.le_of_ble_eq_true rfl) (Nat.le_of_ble_eq_true rfl) dX5_drop_29 (fun σ2 eσ2 H locs hP hS => ?_)
  have hf := hf σ2 eσ2
  refine lv_aload_n hx hb dX5_drop_32 rfl (lv_at hl 1 rfl) ?_
  refine lv_dup hx hb dX5_drop_33 rfl ?_
  refine GX5_1 C hP hj gt1_52 dX5_drop_34 ?_
  refine lv_iload_n hx hb dX5_drop_37 rfl (lv_at hl 0 rfl) ?_
  refine lv_isub hx hb dX5_drop_38 ?_
  refine PX5_1 hI C hP hS hj gt1_52 rfl rfl dX5_drop_39 (fun σ3 eσ3 H locs hP hS => ?_)
  have hf := nm_at hf σ3 eσ3
  exact MV.ret (wf := wC ad cI cF) hQ C hr hlk hf hP hS dX5_drop_42
def fX9_takeUnits (σ : St) (p1 : Int32) : Option (Int32 × St) := bd (fX5_drop 4 σ p1) (fun _ σ2 => nm (up σ2 0 11 ((σ2 0 11) + p1)) (fun σ3 => some (0, σ3)))
set_option maxHeartbeats 4000000 in
set_option maxRecDepth 100000 in
theorem mX9_takeUnits {l : Launch} {D : va_G} {kS vS : Nat → Nat} {ad : Nat → Nat} {cI cF : ClassId} {σ σ0 : St} {p1 : Int32} {r : Int32} (hI : Inj ad 18) (hf : fX9_takeUnits σ p1 = some (r, σ0)) : MV l D (tyC cI cF) (inA ad 18) kS vS yX9_takeUnits cX9_takeUnits 2 2 82 [.ref (ad 0), .int p1] (wC ad cI cF σ) (wC ad cI cF σ0) := by
  refine MV.of (by decide) (Nat.le_of_ble_eq_true rfl) (fun p e s m args below meth c ls Q hQ C hr hlk hP hS hl => ?_)
  obtain ⟨hx, hb, hml, hown, hts, hK, hKS⟩ := id C
  have hl : lv_has ls 2 [(0, .ref (ad 0)), (1, .int p1)] := hl
  unfold fX9_takeUnits at hf
  refine lv_aload_n hx hb dX9_takeUnits_0 rfl (lv_at hl 0 rfl) ?_
  refine GX9_2 C hP gt1_152 dX9_takeUnits_1 ?_
  refine lv_iload_n hx hb dX9_takeUnits_4 rfl (lv_at hl 1 rfl) ?_
  obtain ⟨v1, σ2, hc, hf⟩ := bd_at hf
  refine callVV (As := [.int p1]) (rest := []) C (mX5_drop (j := 4) hI (by decide) hc) ⟨gt3_119, gt3_120, gt3_121, gt1_5, gt3_122⟩ okX5_drop ⟨Nat.le_of_ble_eq_true rfl, Nat.le_of_ble_eq_true rfl⟩ (rcvOf C hP (show (wC ad cI cF _)[4]? = some (ad 4, _) from rfl) rfl) rfl hl.1 rfl (Nat.le_of_ble_eq_true rfl) hP hS dX9_takeUnits_5 (fun H locs hP hS => ?_)
  refine lv_aload_n hx hb dX9_takeUnits_8 rfl (lv_at hl 0 rfl) ?_
  refine lv_dup hx hb dX9_takeUnits_9 rfl ?_
  refine GX9_11 C hP gt1_161 dX9_takeUnits_10 ?_
  refine lv_iload_n hx hb dX9_takeUnits_13 rfl (lv_at hl 1 rfl) ?_
  refine lv_iadd hx hb dX9_takeUnits_14 ?_
  refine PX9_11 hI C hP hS gt1_161 rfl rfl dX9_takeUnits_15 (fun σ3 eσ3 H locs hP hS => ?_)
  have hf := nm_at hf σ3 eσ3
  exact MV.ret (wf := wC ad cI cF) hQ C hr hlk hf hP hS dX9_takeUnits_18
def fX0_passedOver (σ : St) : Option (Int32 × St) := some (0, σ)
set_option maxHeartbeats 4000000 in
set_option maxRecDepth 100000 in
theorem mX0_passedOver {l : Launch} {D : va_G} {kS vS : Nat → Nat} {ad : Nat → Nat} {cI cF : ClassId} {a : Nat} {σ σ0 : St} {r : Int32} (hI : Inj ad 18) (hf : fX0_passedOver σ  = some (r, σ0)) : MV l D (tyC cI cF) (inA ad 18) kS vS yX0_passedOver cX0_passedOver 1 0 0 [.ref a] (wC ad cI cF σ) (wC ad cI cF σ0) := by
  refine MV.of (by decide) (Nat.le_of_ble_eq_true rfl) (fun p e s m args below meth c ls Q hQ C hr hlk hP hS hl => ?_)
  obtain ⟨hx, hb, hml, hown, hts, hK, hKS⟩ := id C
  have hl : lv_has ls 1 [(0, .ref a)] := hl
  unfold fX0_passedOver at hf
  exact MV.ret (wf := wC ad cI cF) hQ C hr hlk hf hP hS dX0_passedOver_0
def fX6_passedOver (j : Nat) (σ : St) : Option (Int32 × St) := nm (up σ j 2 0) (fun σ1 => some (0, σ1))
set_option maxHeartbeats 4000000 in
set_option maxRecDepth 100000 in
theorem mX6_passedOver {l : Launch} {D : va_G} {kS vS : Nat → Nat} {ad : Nat → Nat} {cI cF : ClassId} {j : Nat} {σ σ0 : St} {r : Int32} (hI : Inj ad 18) (hj : jX6 j) (hf : fX6_passedOver j σ  = some (r, σ0)) : MV l D (tyC cI cF) (inA ad 18) kS vS yX6_passedOver cX6_passedOver 1 0 0 [.ref (ad j)] (wC ad cI cF σ) (wC ad cI cF σ0) := by
  refine MV.of (by decide) (Nat.le_of_ble_eq_true rfl) (fun p e s m args below meth c ls Q hQ C hr hlk hP hS hl => ?_)
  obtain ⟨hx, hb, hml, hown, hts, hK, hKS⟩ := id C
  have hl : lv_has ls 1 [(0, .ref (ad j))] := hl
  unfold fX6_passedOver at hf
  refine lv_aload_n hx hb dX6_passedOver_0 rfl (lv_at hl 0 rfl) ?_
  refine lv_iconst (v := 0) hx hb dX6_passedOver_1 (by decide) ?_
  refine PX6_2 hI C hP hS hj gt1_100 rfl rfl dX6_passedOver_2 (fun σ1 eσ1 H locs hP hS => ?_)
  have hf := nm_at hf σ1 eσ1
  exact MV.ret (wf := wC ad cI cF) hQ C hr hlk hf hP hS dX6_passedOver_5
def fX7_passedOver (σ : St) : Option (Int32 × St) := bd (fX3_becomePlain 16 σ) (fun _ σ2 => some (0, σ2))
set_option maxHeartbeats 4000000 in
set_option maxRecDepth 100000 in
theorem mX7_passedOver {l : Launch} {D : va_G} {kS vS : Nat → Nat} {ad : Nat → Nat} {cI cF : ClassId} {σ σ0 : St} {r : Int32} (hI : Inj ad 18) (hf : fX7_passedOver σ  = some (r, σ0)) : MV l D (tyC cI cF) (inA ad 18) kS vS yX7_passedOver cX7_passedOver 1 1 20 [.ref (ad 15)] (wC ad cI cF σ) (wC ad cI cF σ0) := by
  refine MV.of (by decide) (Nat.le_of_ble_eq_true rfl) (fun p e s m args below meth c ls Q hQ C hr hlk hP hS hl => ?_)
  obtain ⟨hx, hb, hml, hown, hts, hK, hKS⟩ := id C
  have hl : lv_has ls 1 [(0, .ref (ad 15))] := hl
  unfold fX7_passedOver at hf
  refine lv_aload_n hx hb dX7_passedOver_0 rfl (lv_at hl 0 rfl) ?_
  refine GX7_0 C hP gt1_143 dX7_passedOver_1 ?_
  obtain ⟨v1, σ2, hc, hf⟩ := bd_at hf
  refine callVV (As := []) (rest := []) C (mX3_becomePlain (j := 16) hI (by decide) hc) ⟨gt1_221, gt1_222, gt1_223, gt1_10, gt1_224⟩ okX3_becomePlain ⟨Nat.le_of_ble_eq_true rfl, Nat.le_of_ble_eq_true rfl⟩ (rcvOf C hP (show (wC ad cI cF _)[16]? = some (ad 16, _) from rfl) rfl) rfl hl.1 rfl (Nat.le_of_ble_eq_true rfl) hP hS dX7_passedOver_4 (fun H locs hP hS => ?_)
  exact MV.ret (wf := wC ad cI cF) hQ C hr hlk hf hP hS dX7_passedOver_7
def fv_passedOver (σ : St) : Option (Int32 × St) := if σ 0 5 = 0 then fX0_passedOver σ else if σ 0 5 = 1 then fX0_passedOver σ else if σ 0 5 = 2 then fX6_passedOver 12 σ else if σ 0 5 = 3 then fX6_passedOver 13 σ else if σ 0 5 = 4 then fX6_passedOver 14 σ else if σ 0 5 = 5 then fX7_passedOver σ else if σ 0 5 = 6 then fX0_passedOver σ else none
set_option maxHeartbeats 4000000 in
set_option maxRecDepth 100000 in
theorem dv_passedOver {p : Program} {l : Launch} {e : Env} {R : Room} {s : State} {m : MethodId} {args : Array Value} {below : List Frame} {meth : Method} {c : Code} {H : Heap} {locs : List Loc} {Q : State → Prop} {cc : ByteArray} {pc nL : Nat} {ls : Array Slot} {rest : List Value} {D : va_G} {kS vS : Nat → Nat} {ad : Nat → Nat} {cI cF : ClassId} {σ σ0 : St} {r : Int32} (hI : Inj ad 18) (C : Cx p c cc nL s m args RX9 D (tyC cI cF) (inA ad 18) kS vS) (hf : fv_passedOver σ = some (r, σ0)) (hR : 2 ≤ R.frames ∧ 40 ≤ R.locals) (hls : ls.size = nL) (hcat : (rest.map fun v => v.category).sum ≤ 8) (hP : va_P D vwCl (wC ad cI cF σ) H) (hS : va_S (inA ad 18) s.heap H locs) (hd : decode cc pc = .ok (.invokevirtual 185, 3))
    (kk : ∀ (H1 : Heap) (locs1 : List Loc), va_P D vwCl (wC ad cI cF σ0) H1 → va_S (inA ad 18) s.heap H1 locs1 → W p l e R s m args below meth c H1 locs1 0 0 Q (F0 m (pc + 3) ls (rest))) : W p l e R s m args below meth c H locs 0 0 Q (F0 m pc ls (.ref (ad (fK (σ 0 5).toNatClampNeg)) :: rest)) := by
  obtain ⟨hx, hb, hml, hown, hts, hK, hKS⟩ := id C
  unfold fv_passedOver at hf
  by_cases h0 : σ 0 5 = 0
  · have hf := ite_t hf h0
    rw [h0]
    exact callUV (x := ⟨"ResumableCoder$Form", "passedOver", "()V"⟩) (C0 := RX8) (owner := "ResumableCoder$Form") (As := []) (rest := rest) C (mX0_passedOver hI (a := ad 10) hf) (va_cwU 0 hts (GT_in (in5 gt3_173 gt3_175 gt3_183 gt3_174 gt1_2 (cons_in gt3_184))) rfl rfl rfl rfl ⟨by decide, by decide, by decide +kernel⟩ ⟨Nat.le_trans (Nat.le_of_ble_eq_true rfl) hR.1, Nat.le_trans (Nat.le_of_ble_eq_true rfl) hR.2⟩) (rcvOf C hP (show (wC ad cI cF σ)[10]? = some (ad 10, _) from rfl) rfl) rfl hls rfl hcat hP hS hd kk
  have hf := ite_f hf h0
  by_cases h1 : σ 0 5 = 1
  · have hf := ite_t hf h1
    rw [h1]
    exact callUV (x := ⟨"ResumableCoder$Form", "passedOver", "()V"⟩) (C0 := RX8) (owner := "ResumableCoder$Form") (As := []) (rest := rest) C (mX0_passedOver hI (a := ad 11) hf) (va_cwU 0 hts (GT_in (in5 gt3_173 gt3_175 gt3_183 gt3_174 gt1_2 (cons_in gt3_184))) rfl rfl rfl rfl ⟨by decide, by decide, by decide +kernel⟩ ⟨Nat.le_trans (Nat.le_of_ble_eq_true rfl) hR.1, Nat.le_trans (Nat.le_of_ble_eq_true rfl) hR.2⟩) (rcvOf C hP (show (wC ad cI cF σ)[11]? = some (ad 11, _) from rfl) rfl) rfl hls rfl hcat hP hS hd kk
  have hf := ite_f hf h1
  by_cases h2 : σ 0 5 = 2
  · have hf := ite_t hf h2
    rw [h2]
    exact callUV (x := ⟨"ResumableCoder$Form", "passedOver", "()V"⟩) (C0 := RX6) (owner := "ResumableCoder$Form") (As := []) (rest := rest) C (mX6_passedOver (j := 12) hI (by decide) hf) (va_cwO 0 hts (GT_in (in6 gt3_173 gt3_175 gt3_174 gt3_177 gt3_178 gt1_8 (cons_in gt3_179))) rfl rfl rfl (by exact gt3_184) ⟨by decide, by decide, by decide +kernel⟩ ⟨Nat.le_trans (Nat.le_of_ble_eq_true rfl) hR.1, Nat.le_trans (Nat.le_of_ble_eq_true rfl) hR.2⟩) (rcvOf C hP (show (wC ad cI cF σ)[12]? = some (ad 12, _) from rfl) rfl) rfl hls rfl hcat hP hS hd kk
  have hf := ite_f hf h2
  by_cases h3 : σ 0 5 = 3
  · have hf := ite_t hf h3
    rw [h3]
    exact callUV (x := ⟨"ResumableCoder$Form", "passedOver", "()V"⟩) (C0 := RX6) (owner := "ResumableCoder$Form") (As := []) (rest := rest) C (mX6_passedOver (j := 13) hI (by decide) hf) (va_cwO 0 hts (GT_in (in6 gt3_173 gt3_175 gt3_174 gt3_177 gt3_178 gt1_8 (cons_in gt3_179))) rfl rfl rfl (by exact gt3_184) ⟨by decide, by decide, by decide +kernel⟩ ⟨Nat.le_trans (Nat.le_of_ble_eq_true rfl) hR.1, Nat.le_trans (Nat.le_of_ble_eq_true rfl) hR.2⟩) (rcvOf C hP (show (wC ad cI cF σ)[13]? = some (ad 13, _) from rfl) rfl) rfl hls rfl hcat hP hS hd kk
  have hf := ite_f hf h3
  by_cases h4 : σ 0 5 = 4
  · have hf := ite_t hf h4
    rw [h4]
    exact callUV (x := ⟨"ResumableCoder$Form", "passedOver", "()V"⟩) (C0 := RX6) (owner := "ResumableCoder$Form") (As := []) (rest := rest) C (mX6_passedOver (j := 14) hI (by decide) hf) (va_cwO 0 hts (GT_in (in6 gt3_173 gt3_175 gt3_174 gt3_177 gt3_178 gt1_8 (cons_in gt3_179))) rfl rfl rfl (by exact gt3_184) ⟨by decide, by decide, by decide +kernel⟩ ⟨Nat.le_trans (Nat.le_of_ble_eq_true rfl) hR.1, Nat.le_trans (Nat.le_of_ble_eq_true rfl) hR.2⟩) (rcvOf C hP (show (wC ad cI cF σ)[14]? = some (ad 14, _) from rfl) rfl) rfl hls rfl hcat hP hS hd kk
  have hf := ite_f hf h4
  by_cases h5 : σ 0 5 = 5
  · have hf := ite_t hf h5
    rw [h5]
    exact callUV (x := ⟨"ResumableCoder$Form", "passedOver", "()V"⟩) (C0 := RX7) (owner := "ResumableCoder$Form") (As := []) (rest := rest) C (mX7_passedOver hI hf) (va_cwO 0 hts (GT_in (in6 gt3_173 gt3_175 gt3_174 gt3_180 gt3_181 gt1_9 (cons_in gt3_182))) rfl rfl rfl (by exact gt3_184) ⟨by decide, by decide, by decide +kernel⟩ ⟨Nat.le_trans (Nat.le_of_ble_eq_true rfl) hR.1, Nat.le_trans (Nat.le_of_ble_eq_true rfl) hR.2⟩) (rcvOf C hP (show (wC ad cI cF σ)[15]? = some (ad 15, _) from rfl) rfl) rfl hls rfl hcat hP hS hd kk
  have hf := ite_f hf h5
  by_cases h6 : σ 0 5 = 6
  · have hf := ite_t hf h6
    rw [h6]
    exact callUV (x := ⟨"ResumableCoder$Form", "passedOver", "()V"⟩) (C0 := RX2) (owner := "ResumableCoder$Form") (As := []) (rest := rest) C (mX0_passedOver hI (a := ad 1) hf) (va_cwU 0 hts (GT_in (in5 gt3_173 gt3_175 gt3_176 gt3_174 gt1_2 (cons_in gt3_184))) rfl rfl rfl rfl ⟨by decide, by decide, by decide +kernel⟩ ⟨Nat.le_trans (Nat.le_of_ble_eq_true rfl) hR.1, Nat.le_trans (Nat.le_of_ble_eq_true rfl) hR.2⟩) (rcvOf C hP (show (wC ad cI cF σ)[1]? = some (ad 1, _) from rfl) rfl) rfl hls rfl hcat hP hS hd kk
  have hf := ite_f hf h6
  exact nomatch (show (none : Option (Int32 × St)) = some (r, σ0) from hf)
def fX9_passOver (σ : St) (p1 : Int32) : Option (Int32 × St) := bd (fX9_takeUnits σ p1) (fun _ σ2 => nm (up σ2 0 13 ((σ2 0 13) + 1)) (fun σ3 => bd (fv_passedOver σ3) (fun _ σ5 => some (0, σ5))))
set_option maxHeartbeats 4000000 in
set_option maxRecDepth 100000 in
theorem mX9_passOver {l : Launch} {D : va_G} {kS vS : Nat → Nat} {ad : Nat → Nat} {cI cF : ClassId} {σ σ0 : St} {p1 : Int32} {r : Int32} (hI : Inj ad 18) (hf : fX9_passOver σ p1 = some (r, σ0)) : MV l D (tyC cI cF) (inA ad 18) kS vS yX9_passOver cX9_passOver 2 3 103 [.ref (ad 0), .int p1] (wC ad cI cF σ) (wC ad cI cF σ0) := by
  refine MV.of (by decide) (Nat.le_of_ble_eq_true rfl) (fun p e s m args below meth c ls Q hQ C hr hlk hP hS hl => ?_)
  obtain ⟨hx, hb, hml, hown, hts, hK, hKS⟩ := id C
  have hl : lv_has ls 2 [(0, .ref (ad 0)), (1, .int p1)] := hl
  unfold fX9_passOver at hf
  refine lv_aload_n hx hb dX9_passOver_0 rfl (lv_at hl 0 rfl) ?_
  refine lv_iload_n hx hb dX9_passOver_1 rfl (lv_at hl 1 rfl) ?_
  obtain ⟨v1, σ2, hc, hf⟩ := bd_at hf
  refine callVV (As := [.int p1]) (rest := []) C (mX9_takeUnits hI hc) ⟨gt3_115, gt3_117, gtp21, gt1_1, gt3_118⟩ okX9_takeUnits ⟨Nat.le_of_ble_eq_true rfl, Nat.le_of_ble_eq_true rfl⟩ (rcvOf C hP (show (wC ad cI cF _)[0]? = some (ad 0, _) from rfl) rfl) rfl hl.1 rfl (Nat.le_of_ble_eq_true rfl) hP hS dX9_passOver_2 (fun H locs hP hS => ?_)
  refine lv_aload_n hx hb dX9_passOver_5 rfl (lv_at hl 0 rfl) ?_
  refine lv_dup hx hb dX9_passOver_6 rfl ?_
  refine GX9_13 C hP gt1_163 dX9_passOver_7 ?_
  refine lv_iconst (v := 1) hx hb dX9_passOver_10 (by decide) ?_
  refine lv_iadd hx hb dX9_passOver_11 ?_
  refine PX9_13 hI C hP hS gt1_163 rfl rfl dX9_passOver_12 (fun σ3 eσ3 H locs hP hS => ?_)
  have hf := nm_at hf σ3 eσ3
  refine lv_aload_n hx hb dX9_passOver_15 rfl (lv_at hl 0 rfl) ?_
  refine GX9_5 C hP gt1_155 dX9_passOver_16 ?_
  obtain ⟨v4, σ5, hc, hf⟩ := bd_at hf
  refine dv_passedOver (rest := []) hI C hc ⟨Nat.le_of_ble_eq_true rfl, Nat.le_of_ble_eq_true rfl⟩ hl.1 (Nat.le_of_ble_eq_true rfl) hP hS dX9_passOver_19 (fun H locs hP hS => ?_)
  exact MV.ret (wf := wC ad cI cF) hQ C hr hlk hf hP hS dX9_passOver_22
def fX0_addReplacement (σ : St) : Option (Int32 × St) := bd (fX1_add σ 63) (fun _ σ2 => some (0, σ2))
set_option maxHeartbeats 4000000 in
set_option maxRecDepth 100000 in
theorem mX0_addReplacement {l : Launch} {D : va_G} {kS vS : Nat → Nat} {ad : Nat → Nat} {cI cF : ClassId} {a : Nat} {σ σ0 : St} {r : Int32} (hI : Inj ad 18) (hf : fX0_addReplacement σ  = some (r, σ0)) : MV l D (tyC cI cF) (inA ad 18) kS vS yX0_addReplacement cX0_addReplacement 2 1 21 [.ref a, .ref (ad 8)] (wC ad cI cF σ) (wC ad cI cF σ0) := by
  refine MV.of (by decide) (Nat.le_of_ble_eq_true rfl) (fun p e s m args below meth c ls Q hQ C hr hlk hP hS hl => ?_)
  obtain ⟨hx, hb, hml, hown, hts, hK, hKS⟩ := id C
  have hl : lv_has ls 2 [(0, .ref a), (1, .ref (ad 8))] := hl
  unfold fX0_addReplacement at hf
  refine lv_aload_n hx hb dX0_addReplacement_0 rfl (lv_at hl 1 rfl) ?_
  refine lv_bipush (v := 63) hx hb dX0_addReplacement_1 (by decide) ?_
  obtain ⟨v1, σ2, hc, hf⟩ := bd_at hf
  refine callVV (As := [.int 63]) (rest := []) C (mX1_add hI hc) ⟨gt3_166, gt2_51, gt2_52, gt1_6, gt2_53⟩ okX1_add ⟨Nat.le_of_ble_eq_true rfl, Nat.le_of_ble_eq_true rfl⟩ (rcvOf C hP (show (wC ad cI cF _)[8]? = some (ad 8, _) from rfl) rfl) rfl hl.1 rfl (Nat.le_of_ble_eq_true rfl) hP hS dX0_addReplacement_3 (fun H locs hP hS => ?_)
  exact MV.ret (wf := wC ad cI cF) hQ C hr hlk hf hP hS dX0_addReplacement_6
def fX6_addReplacement (j : Nat) (σ : St) : Option (Int32 × St) := bd (fX6_addBytes j σ 63) (fun _ σ2 => some (0, σ2))
set_option maxHeartbeats 4000000 in
set_option maxRecDepth 100000 in
theorem mX6_addReplacement {l : Launch} {D : va_G} {kS vS : Nat → Nat} {ad : Nat → Nat} {cI cF : ClassId} {j : Nat} {σ σ0 : St} {r : Int32} (hI : Inj ad 18) (hj : jX6 j) (hf : fX6_addReplacement j σ  = some (r, σ0)) : MV l D (tyC cI cF) (inA ad 18) kS vS yX6_addReplacement cX6_addReplacement 2 2 43 [.ref (ad j), .ref (ad 8)] (wC ad cI cF σ) (wC ad cI cF σ0) := by
  refine MV.of (by decide) (Nat.le_of_ble_eq_true rfl) (fun p e s m args below meth c ls Q hQ C hr hlk hP hS hl => ?_)
  obtain ⟨hx, hb, hml, hown, hts, hK, hKS⟩ := id C
  have hl : lv_has ls 2 [(0, .ref (ad j)), (1, .ref (ad 8))] := hl
  unfold fX6_addReplacement at hf
  refine lv_aload_n hx hb dX6_addReplacement_0 rfl (lv_at hl 0 rfl) ?_
  refine lv_bipush (v := 63) hx hb dX6_addReplacement_1 (by decide) ?_
  refine lv_aload_n hx hb dX6_addReplacement_3 rfl (lv_at hl 1 rfl) ?_
  obtain ⟨v1, σ2, hc, hf⟩ := bd_at hf
  refine callVV (As := [.int 63, .ref (ad 8)]) (rest := []) C (mX6_addBytes (j := j) hI hj hc) ⟨gt2_90, gt2_92, gtp5, gt1_8, gt2_93⟩ okX6_addBytes ⟨Nat.le_of_ble_eq_true rfl, Nat.le_of_ble_eq_true rfl⟩ (rcvOf C hP (eX6 hj) rfl) rfl hl.1 rfl (Nat.le_of_ble_eq_true rfl) hP hS dX6_addReplacement_4 (fun H locs hP hS => ?_)
  exact MV.ret (wf := wC ad cI cF) hQ C hr hlk hf hP hS dX6_addReplacement_7
def fv_addReplacement (σ : St) : Option (Int32 × St) := if σ 0 5 = 0 then fX0_addReplacement σ else if σ 0 5 = 1 then fX0_addReplacement σ else if σ 0 5 = 2 then fX6_addReplacement 12 σ else if σ 0 5 = 3 then fX6_addReplacement 13 σ else if σ 0 5 = 4 then fX6_addReplacement 14 σ else if σ 0 5 = 5 then fX0_addReplacement σ else if σ 0 5 = 6 then fX0_addReplacement σ else none
set_option maxHeartbeats 4000000 in
set_option maxRecDepth 100000 in
theorem dv_addReplacement {p : Program} {l : Launch} {e : Env} {R : Room} {s : State} {m : MethodId} {args : Array Value} {below : List Frame} {meth : Method} {c : Code} {H : Heap} {locs : List Loc} {Q : State → Prop} {cc : ByteArray} {pc nL : Nat} {ls : Array Slot} {rest : List Value} {D : va_G} {kS vS : Nat → Nat} {ad : Nat → Nat} {cI cF : ClassId} {σ σ0 : St} {r : Int32} (hI : Inj ad 18) (C : Cx p c cc nL s m args RX9 D (tyC cI cF) (inA ad 18) kS vS) (hf : fv_addReplacement σ = some (r, σ0)) (hR : 3 ≤ R.frames ∧ 64 ≤ R.locals) (hls : ls.size = nL) (hcat : (rest.map fun v => v.category).sum ≤ 8) (hP : va_P D vwCl (wC ad cI cF σ) H) (hS : va_S (inA ad 18) s.heap H locs) (hd : decode cc pc = .ok (.invokevirtual 174, 3))
    (kk : ∀ (H1 : Heap) (locs1 : List Loc), va_P D vwCl (wC ad cI cF σ0) H1 → va_S (inA ad 18) s.heap H1 locs1 → W p l e R s m args below meth c H1 locs1 0 0 Q (F0 m (pc + 3) ls (rest))) : W p l e R s m args below meth c H locs 0 0 Q (F0 m pc ls (.ref (ad 8) :: .ref (ad (fK (σ 0 5).toNatClampNeg)) :: rest)) := by
  obtain ⟨hx, hb, hml, hown, hts, hK, hKS⟩ := id C
  unfold fv_addReplacement at hf
  by_cases h0 : σ 0 5 = 0
  · have hf := ite_t hf h0
    rw [h0]
    exact callUV (x := ⟨"ResumableCoder$Form", "addReplacement", "(LResumableCoder$Move;)V"⟩) (C0 := RX8) (owner := "ResumableCoder$Form") (As := [.ref (ad 8)]) (rest := rest) C (mX0_addReplacement hI (a := ad 10) hf) (va_cwU 1 hts (GT_in (in5 gt3_156 gt3_158 gt3_164 gt3_157 gt1_2 (cons_in gt3_165))) rfl rfl rfl rfl ⟨by decide, by decide, by decide +kernel⟩ ⟨Nat.le_trans (Nat.le_of_ble_eq_true rfl) hR.1, Nat.le_trans (Nat.le_of_ble_eq_true rfl) hR.2⟩) (rcvOf C hP (show (wC ad cI cF σ)[10]? = some (ad 10, _) from rfl) rfl) rfl hls rfl hcat hP hS hd kk
  have hf := ite_f hf h0
  by_cases h1 : σ 0 5 = 1
  · have hf := ite_t hf h1
    rw [h1]
    exact callUV (x := ⟨"ResumableCoder$Form", "addReplacement", "(LResumableCoder$Move;)V"⟩) (C0 := RX8) (owner := "ResumableCoder$Form") (As := [.ref (ad 8)]) (rest := rest) C (mX0_addReplacement hI (a := ad 11) hf) (va_cwU 1 hts (GT_in (in5 gt3_156 gt3_158 gt3_164 gt3_157 gt1_2 (cons_in gt3_165))) rfl rfl rfl rfl ⟨by decide, by decide, by decide +kernel⟩ ⟨Nat.le_trans (Nat.le_of_ble_eq_true rfl) hR.1, Nat.le_trans (Nat.le_of_ble_eq_true rfl) hR.2⟩) (rcvOf C hP (show (wC ad cI cF σ)[11]? = some (ad 11, _) from rfl) rfl) rfl hls rfl hcat hP hS hd kk
  have hf := ite_f hf h1
  by_cases h2 : σ 0 5 = 2
  · have hf := ite_t hf h2
    rw [h2]
    exact callUV (x := ⟨"ResumableCoder$Form", "addReplacement", "(LResumableCoder$Move;)V"⟩) (C0 := RX6) (owner := "ResumableCoder$Form") (As := [.ref (ad 8)]) (rest := rest) C (mX6_addReplacement (j := 12) hI (by decide) hf) (va_cwO 1 hts (GT_in (in6 gt3_156 gt3_158 gt3_157 gt3_160 gt3_161 gt1_8 (cons_in gt3_162))) rfl rfl rfl (by exact gt3_165) ⟨by decide, by decide, by decide +kernel⟩ ⟨Nat.le_trans (Nat.le_of_ble_eq_true rfl) hR.1, Nat.le_trans (Nat.le_of_ble_eq_true rfl) hR.2⟩) (rcvOf C hP (show (wC ad cI cF σ)[12]? = some (ad 12, _) from rfl) rfl) rfl hls rfl hcat hP hS hd kk
  have hf := ite_f hf h2
  by_cases h3 : σ 0 5 = 3
  · have hf := ite_t hf h3
    rw [h3]
    exact callUV (x := ⟨"ResumableCoder$Form", "addReplacement", "(LResumableCoder$Move;)V"⟩) (C0 := RX6) (owner := "ResumableCoder$Form") (As := [.ref (ad 8)]) (rest := rest) C (mX6_addReplacement (j := 13) hI (by decide) hf) (va_cwO 1 hts (GT_in (in6 gt3_156 gt3_158 gt3_157 gt3_160 gt3_161 gt1_8 (cons_in gt3_162))) rfl rfl rfl (by exact gt3_165) ⟨by decide, by decide, by decide +kernel⟩ ⟨Nat.le_trans (Nat.le_of_ble_eq_true rfl) hR.1, Nat.le_trans (Nat.le_of_ble_eq_true rfl) hR.2⟩) (rcvOf C hP (show (wC ad cI cF σ)[13]? = some (ad 13, _) from rfl) rfl) rfl hls rfl hcat hP hS hd kk
  have hf := ite_f hf h3
  by_cases h4 : σ 0 5 = 4
  · have hf := ite_t hf h4
    rw [h4]
    exact callUV (x := ⟨"ResumableCoder$Form", "addReplacement", "(LResumableCoder$Move;)V"⟩) (C0 := RX6) (owner := "ResumableCoder$Form") (As := [.ref (ad 8)]) (rest := rest) C (mX6_addReplacement (j := 14) hI (by decide) hf) (va_cwO 1 hts (GT_in (in6 gt3_156 gt3_158 gt3_157 gt3_160 gt3_161 gt1_8 (cons_in gt3_162))) rfl rfl rfl (by exact gt3_165) ⟨by decide, by decide, by decide +kernel⟩ ⟨Nat.le_trans (Nat.le_of_ble_eq_true rfl) hR.1, Nat.le_trans (Nat.le_of_ble_eq_true rfl) hR.2⟩) (rcvOf C hP (show (wC ad cI cF σ)[14]? = some (ad 14, _) from rfl) rfl) rfl hls rfl hcat hP hS hd kk
  have hf := ite_f hf h4
  by_cases h5 : σ 0 5 = 5
  · have hf := ite_t hf h5
    rw [h5]
    exact callUV (x := ⟨"ResumableCoder$Form", "addReplacement", "(LResumableCoder$Move;)V"⟩) (C0 := RX7) (owner := "ResumableCoder$Form") (As := [.ref (ad 8)]) (rest := rest) C (mX0_addReplacement hI (a := ad 15) hf) (va_cwU 1 hts (GT_in (in5 gt3_156 gt3_158 gt3_163 gt3_157 gt1_2 (cons_in gt3_165))) rfl rfl rfl rfl ⟨by decide, by decide, by decide +kernel⟩ ⟨Nat.le_trans (Nat.le_of_ble_eq_true rfl) hR.1, Nat.le_trans (Nat.le_of_ble_eq_true rfl) hR.2⟩) (rcvOf C hP (show (wC ad cI cF σ)[15]? = some (ad 15, _) from rfl) rfl) rfl hls rfl hcat hP hS hd kk
  have hf := ite_f hf h5
  by_cases h6 : σ 0 5 = 6
  · have hf := ite_t hf h6
    rw [h6]
    exact callUV (x := ⟨"ResumableCoder$Form", "addReplacement", "(LResumableCoder$Move;)V"⟩) (C0 := RX2) (owner := "ResumableCoder$Form") (As := [.ref (ad 8)]) (rest := rest) C (mX0_addReplacement hI (a := ad 1) hf) (va_cwU 1 hts (GT_in (in5 gt3_156 gt3_158 gt3_159 gt3_157 gt1_2 (cons_in gt3_165))) rfl rfl rfl rfl ⟨by decide, by decide, by decide +kernel⟩ ⟨Nat.le_trans (Nat.le_of_ble_eq_true rfl) hR.1, Nat.le_trans (Nat.le_of_ble_eq_true rfl) hR.2⟩) (rcvOf C hP (show (wC ad cI cF σ)[1]? = some (ad 1, _) from rfl) rfl) rfl hls rfl hcat hP hS hd kk
  have hf := ite_f hf h6
  exact nomatch (show (none : Option (Int32 × St)) = some (r, σ0) from hf)
def fX9_addReplacement (σ : St) : Option (Int32 × St) := (if (σ 0 7) = 0 then bd (fX1_add σ 65533) (fun _ σ2 => some (0, σ2)) else bd (fv_addReplacement σ) (fun _ σ4 => some (0, σ4)))
set_option maxHeartbeats 4000000 in
set_option maxRecDepth 100000 in
theorem mX9_addReplacement {l : Launch} {D : va_G} {kS vS : Nat → Nat} {ad : Nat → Nat} {cI cF : ClassId} {σ σ0 : St} {r : Int32} (hI : Inj ad 18) (hf : fX9_addReplacement σ  = some (r, σ0)) : MV l D (tyC cI cF) (inA ad 18) kS vS yX9_addReplacement cX9_addReplacement 1 3 64 [.ref (ad 0)] (wC ad cI cF σ) (wC ad cI cF σ0) := by
  refine MV.of (by decide) (Nat.le_of_ble_eq_true rfl) (fun p e s m args below meth c ls Q hQ C hr hlk hP hS hl => ?_)
  obtain ⟨hx, hb, hml, hown, hts, hK, hKS⟩ := id C
  have hl : lv_has ls 1 [(0, .ref (ad 0))] := hl
  unfold fX9_addReplacement at hf
  refine lv_aload_n hx hb dX9_addReplacement_0 rfl (lv_at hl 0 rfl) ?_
  refine GX9_7 C hP gt1_157 dX9_addReplacement_1 ?_
  refine lv_if_eq (tgt := 21) hx hb dX9_addReplacement_4 (by decide) (fun hc => ?_) (fun hc => ?_)
  · have hf := ite_t hf hc
    refine lv_aload_n hx hb dX9_addReplacement_21 rfl (lv_at hl 0 rfl) ?_
    refine GX9_4 C hP gt1_154 dX9_addReplacement_22 ?_
    refine lv_ldc hx hb (v := 65533) hown (hts _ gt3_167) dX9_addReplacement_25 ?_
    obtain ⟨v1, σ2, hc, hf⟩ := bd_at hf
    refine callVV (As := [.int 65533]) (rest := []) C (mX1_add hI hc) ⟨gt3_168, gt2_51, gt2_52, gt1_6, gt2_53⟩ okX1_add ⟨Nat.le_of_ble_eq_true rfl, Nat.le_of_ble_eq_true rfl⟩ (rcvOf C hP (show (wC ad cI cF _)[8]? = some (ad 8, _) from rfl) rfl) rfl hl.1 rfl (Nat.le_of_ble_eq_true rfl) hP hS dX9_addReplacement_27 (fun H locs hP hS => ?_)
    exact MV.ret (wf := wC ad cI cF) hQ C hr hlk hf hP hS dX9_addReplacement_30
  · have hf := ite_f hf hc
    refine lv_aload_n hx hb dX9_addReplacement_7 rfl (lv_at hl 0 rfl) ?_
    refine GX9_5 C hP gt1_155 dX9_addReplacement_8 ?_
    refine lv_aload_n hx hb dX9_addReplacement_11 rfl (lv_at hl 0 rfl) ?_
    refine GX9_4 C hP gt1_154 dX9_addReplacement_12 ?_
    obtain ⟨v3, σ4, hc, hf⟩ := bd_at hf
    refine dv_addReplacement (rest := []) hI C hc ⟨Nat.le_of_ble_eq_true rfl, Nat.le_of_ble_eq_true rfl⟩ hl.1 (Nat.le_of_ble_eq_true rfl) hP hS dX9_addReplacement_15 (fun H locs hP hS => ?_)
    refine lv_goto (tgt := 30) hx hb dX9_addReplacement_18 (by decide) ?_
    exact MV.ret (wf := wC ad cI cF) hQ C hr hlk hf hP hS dX9_addReplacement_30
def fX9_fits (σ : St) : Option (Int32 × St) := (if (σ 8 3) = 0 then some (1, σ) else bd (fX5_count 6 σ) (fun v1 σ2 => (if (σ2 0 10) < (v1 + (σ2 8 3)) then some (0, σ2) else some (1, σ2))))
set_option maxHeartbeats 4000000 in
set_option maxRecDepth 100000 in
theorem mX9_fits {l : Launch} {D : va_G} {kS vS : Nat → Nat} {ad : Nat → Nat} {cI cF : ClassId} {σ σ0 : St} {r : Int32} (hI : Inj ad 18) (hf : fX9_fits σ  = some (r, σ0)) : MI l D (tyC cI cF) (inA ad 18) kS vS yX9_fits cX9_fits 1 .boolean 1 20 [.ref (ad 0)] (wC ad cI cF σ) (wC ad cI cF σ0) r := by
  refine MI.of (by decide) (Nat.le_of_ble_eq_true rfl) (fun p e s m args below meth c ls Q hQ C hr hlk hP hS hl => ?_)
  obtain ⟨hx, hb, hml, hown, hts, hK, hKS⟩ := id C
  have hl : lv_has ls 1 [(0, .ref (ad 0))] := hl
  unfold fX9_fits at hf
  refine lv_aload_n hx hb dX9_fits_0 rfl (lv_at hl 0 rfl) ?_
  refine GX9_4 C hP gt1_154 dX9_fits_1 ?_
  refine GX1_3N C hP (by decide) dX9_fits_4 ?_
  refine lv_if_eq (tgt := 32) hx hb dX9_fits_7 (by decide) (fun hc => ?_) (fun hc => ?_)
  · have hf := ite_t hf hc
    refine lv_iconst (v := 1) hx hb dX9_fits_32 (by decide) ?_
    refine lv_goto (tgt := 37) hx hb dX9_fits_33 (by decide) ?_
    exact MI.ret (wf := wC ad cI cF) hQ C hr hlk rfl hf hP hS dX9_fits_37
  · have hf := ite_f hf hc
    refine lv_aload_n hx hb dX9_fits_10 rfl (lv_at hl 0 rfl) ?_
    refine GX9_3 C hP gt1_153 dX9_fits_11 ?_
    obtain ⟨v1, σ2, hc, hf⟩ := bd_at hf
    refine callVI (As := []) (rest := []) C (mX5_count (j := 6) hI (by decide) hc) ⟨gt2_0, gt2_1, gt2_2, gt1_5, gt2_3⟩ okX5_count ⟨Nat.le_of_ble_eq_true rfl, Nat.le_of_ble_eq_true rfl⟩ (rcvOf C hP (show (wC ad cI cF _)[6]? = some (ad 6, _) from rfl) rfl) rfl hl.1 rfl (Nat.le_of_ble_eq_true rfl) hP hS dX9_fits_14 (fun H locs hP hS => ?_)
    refine lv_aload_n hx hb dX9_fits_17 rfl (lv_at hl 0 rfl) ?_
    refine GX9_4 C hP gt1_154 dX9_fits_18 ?_
    refine GX1_3N C hP (by decide) dX9_fits_21 ?_
    refine lv_iadd hx hb dX9_fits_24 ?_
    refine lv_aload_n hx hb dX9_fits_25 rfl (lv_at hl 0 rfl) ?_
    refine GX9_10 C hP gt1_160 dX9_fits_26 ?_
    refine lv_icmp_gt (tgt := 36) hx hb dX9_fits_29 (by decide) (fun hc => ?_) (fun hc => ?_)
    · have hf := ite_t hf hc
      refine lv_iconst (v := 0) hx hb dX9_fits_36 (by decide) ?_
      exact MI.ret (wf := wC ad cI cF) hQ C hr hlk rfl hf hP hS dX9_fits_37
    · have hf := ite_f hf hc
      refine lv_iconst (v := 1) hx hb dX9_fits_32 (by decide) ?_
      refine lv_goto (tgt := 37) hx hb dX9_fits_33 (by decide) ?_
      exact MI.ret (wf := wC ad cI cF) hQ C hr hlk rfl hf hP hS dX9_fits_37
def fX1_unitAt (σ : St) (p1 : Int32) : Option (Int32 × St) := (if p1 < 0 then some ((-1), σ) else (if (σ 8 3) ≤ p1 then some ((-1), σ) else ld (σ 9) 4 p1 (fun v1 => some (v1, σ))))
set_option maxHeartbeats 4000000 in
set_option maxRecDepth 100000 in
theorem mX1_unitAt {l : Launch} {D : va_G} {kS vS : Nat → Nat} {ad : Nat → Nat} {cI cF : ClassId} {σ σ0 : St} {p1 : Int32} {r : Int32} (hI : Inj ad 18) (hf : fX1_unitAt σ p1 = some (r, σ0)) : MI l D (tyC cI cF) (inA ad 18) kS vS yX1_unitAt cX1_unitAt 2 .int 0 0 [.ref (ad 8), .int p1] (wC ad cI cF σ) (wC ad cI cF σ0) r := by
  refine MI.of (by decide) (Nat.le_of_ble_eq_true rfl) (fun p e s m args below meth c ls Q hQ C hr hlk hP hS hl => ?_)
  obtain ⟨hx, hb, hml, hown, hts, hK, hKS⟩ := id C
  have hl : lv_has ls 2 [(0, .ref (ad 8)), (1, .int p1)] := hl
  unfold fX1_unitAt at hf
  refine lv_iload_n hx hb dX1_unitAt_0 rfl (lv_at hl 1 rfl) ?_
  refine lv_if_lt (tgt := 21) hx hb dX1_unitAt_1 (by decide) (fun hc => ?_) (fun hc => ?_)
  · have hf := ite_t hf hc
    refine lv_iconst (v := (-1)) hx hb dX1_unitAt_21 (by decide) ?_
    exact MI.ret (wf := wC ad cI cF) hQ C hr hlk rfl hf hP hS dX1_unitAt_22
  · have hf := ite_f hf hc
    refine lv_iload_n hx hb dX1_unitAt_4 rfl (lv_at hl 1 rfl) ?_
    refine lv_aload_n hx hb dX1_unitAt_5 rfl (lv_at hl 0 rfl) ?_
    refine GX1_3 C hP gt1_69 dX1_unitAt_6 ?_
    refine lv_icmp_ge (tgt := 21) hx hb dX1_unitAt_9 (by decide) (fun hc => ?_) (fun hc => ?_)
    · have hf := ite_t hf hc
      refine lv_iconst (v := (-1)) hx hb dX1_unitAt_21 (by decide) ?_
      exact MI.ret (wf := wC ad cI cF) hQ C hr hlk rfl hf hP hS dX1_unitAt_22
    · have hf := ite_f hf hc
      refine lv_aload_n hx hb dX1_unitAt_12 rfl (lv_at hl 0 rfl) ?_
      refine GX1_0 C hP gt1_64 dX1_unitAt_13 ?_
      refine lv_iload_n hx hb dX1_unitAt_16 rfl (lv_at hl 1 rfl) ?_
      obtain ⟨hin, hf⟩ := ld_at hf
      refine aload C hP 9 rfl rfl hin dX1_unitAt_17 (fun v1 ev1 => ?_)
      have hf := hf v1 ev1
      refine lv_goto (tgt := 22) hx hb dX1_unitAt_18 (by decide) ?_
      exact MI.ret (wf := wC ad cI cF) hQ C hr hlk rfl hf hP hS dX1_unitAt_22
def fX9_putUnits_b2 : Nat → St → Int32 → Option (Int32 × St)
  | 0, _, _ => none
  | n + 1, σ, x1 => (if (σ 8 3) ≤ x1 then nm (up σ 0 12 ((σ 0 12) + (σ 8 3))) (fun σ1 => some (0, σ1)) else bd (fX1_unitAt σ x1) (fun v2 σ3 => bd (fX5_add 6 σ3 v2) (fun _ σ5 => nm (x1 + 1) (fun v6 => fX9_putUnits_b2 n σ5 v6))))
def fX9_putUnits (σ : St) : Option (Int32 × St) := fX9_putUnits_b2 200 σ 0
set_option maxHeartbeats 4000000 in
set_option maxRecDepth 100000 in
theorem mX9_putUnits {l : Launch} {D : va_G} {kS vS : Nat → Nat} {ad : Nat → Nat} {cI cF : ClassId} {σ σ0 : St} {r : Int32} (hI : Inj ad 18) (hf : fX9_putUnits σ  = some (r, σ0)) : MV l D (tyC cI cF) (inA ad 18) kS vS yX9_putUnits cX9_putUnits 2 1 21 [.ref (ad 0)] (wC ad cI cF σ) (wC ad cI cF σ0) := by
  refine MV.of (by decide) (Nat.le_of_ble_eq_true rfl) (fun p e s m args below meth c ls Q hQ C hr hlk hP hS hl => ?_)
  obtain ⟨hx, hb, hml, hown, hts, hK, hKS⟩ := id C
  have hl : lv_has ls 2 [(0, .ref (ad 0))] := hl
  have B2 : ∀ n : Nat, ∀ (σ : St) (x1 : Int32) (H : Heap) (locs : List Loc) (ls : Array Slot), va_P D vwCl (wC ad cI cF σ) H → va_S (inA ad 18) s.heap H locs → lv_has ls 2 [(0, .ref (ad 0)), (1, .int x1)] → fX9_putUnits_b2 n σ x1 = some (r, σ0) → W p l e (rmN 1 21) s m args below meth c H locs 0 0 Q (F0 m 2 ls []) := by
    intro n
    induction n with
    | zero =>
      intro σ x1 H locs ls hP hS hl hf
      exact nomatch (show (none : Option (Int32 × St)) = some (r, σ0) from hf)
    | succ n ih =>
      intro σ x1 H locs ls hP hS hl hf
      rw [fX9_putUnits_b2] at hf
      refine lv_iload_n hx hb dX9_putUnits_2 rfl (lv_at hl 1 rfl) ?_
      refine lv_aload_n hx hb dX9_putUnits_3 rfl (lv_at hl 0 rfl) ?_
      refine GX9_4 C hP gt1_154 dX9_putUnits_4 ?_
      refine GX1_3N C hP (by decide) dX9_putUnits_7 ?_
      refine lv_icmp_ge (tgt := 34) hx hb dX9_putUnits_10 (by decide) (fun hc => ?_) (fun hc => ?_)
      · have hf := ite_t hf hc
        refine lv_aload_n hx hb dX9_putUnits_34 rfl (lv_at hl 0 rfl) ?_
        refine lv_dup hx hb dX9_putUnits_35 rfl ?_
        refine GX9_12 C hP gt1_162 dX9_putUnits_36 ?_
        refine lv_aload_n hx hb dX9_putUnits_39 rfl (lv_at hl 0 rfl) ?_
        refine GX9_4 C hP gt1_154 dX9_putUnits_40 ?_
        refine GX1_3N C hP (by decide) dX9_putUnits_43 ?_
        refine lv_iadd hx hb dX9_putUnits_46 ?_
        refine PX9_12 hI C hP hS gt1_162 rfl rfl dX9_putUnits_47 (fun σ1 eσ1 H locs hP hS => ?_)
        have hf := nm_at hf σ1 eσ1
        exact MV.ret (wf := wC ad cI cF) hQ C hr hlk hf hP hS dX9_putUnits_50
      · have hf := ite_f hf hc
        refine lv_aload_n hx hb dX9_putUnits_13 rfl (lv_at hl 0 rfl) ?_
        refine GX9_3 C hP gt1_153 dX9_putUnits_14 ?_
        refine lv_aload_n hx hb dX9_putUnits_17 rfl (lv_at hl 0 rfl) ?_
        refine GX9_4 C hP gt1_154 dX9_putUnits_18 ?_
        refine lv_iload_n hx hb dX9_putUnits_21 rfl (lv_at hl 1 rfl) ?_
        obtain ⟨v2, σ3, hc, hf⟩ := bd_at hf
        refine callVI (As := [.int x1]) (rest := [.ref (ad 6)]) C (mX1_unitAt hI hc) ⟨gt3_132, gt3_133, gt3_134, gt1_6, gt3_135⟩ okX1_unitAt ⟨Nat.le_of_ble_eq_true rfl, Nat.le_of_ble_eq_true rfl⟩ (rcvOf C hP (show (wC ad cI cF _)[8]? = some (ad 8, _) from rfl) rfl) rfl hl.1 rfl (Nat.le_of_ble_eq_true rfl) hP hS dX9_putUnits_22 (fun H locs hP hS => ?_)
        obtain ⟨v4, σ5, hc, hf⟩ := bd_at hf
        refine callVV (As := [.int v2]) (rest := []) C (mX5_add (j := 6) hI (by decide) hc) ⟨gt2_4, gt2_5, gt2_6, gt1_5, gt2_7⟩ okX5_add ⟨Nat.le_of_ble_eq_true rfl, Nat.le_of_ble_eq_true rfl⟩ (rcvOf C hP (show (wC ad cI cF _)[6]? = some (ad 6, _) from rfl) rfl) rfl hl.1 rfl (Nat.le_of_ble_eq_true rfl) hP hS dX9_putUnits_25 (fun H locs hP hS => ?_)
        obtain ⟨v6, ev6⟩ : ∃ y : Int32, y = x1 + 1 := ⟨_, rfl⟩
        have hf := nm_at hf v6 ev6
        refine lv_iinc (v := v6) (lv' := [(1, .int v6), (0, .ref (ad 0))]) hx hb dX9_putUnits_28 hl (k := 1) rfl (by rw [ev6]; rfl) (by decide) rfl (fun ls hl => ?_)
        refine lv_goto (tgt := 2) hx hb dX9_putUnits_31 (by decide) ?_
        exact ih σ5 v6 _ _ _ hP hS (lv_sub hl [1, 0] rfl) hf
  unfold fX9_putUnits at hf
  refine lv_iconst (v := 0) hx hb dX9_putUnits_0 (by decide) ?_
  refine lv_istore_n (lv' := [(1, .int 0), (0, .ref (ad 0))]) hx hb dX9_putUnits_1 rfl hl (by decide) rfl (fun ls hl => ?_)
  exact B2 200 σ 0 _ _ _ hP hS (lv_sub hl [1, 0] rfl) hf
def fX9_meetFault_b32 (σ : St) (x1 y0 : Int32) : Option (Int32 × St) := (if y0 = 0 then nm (up σ 0 14 (σ 8 2)) (fun σ11 => (if x1 = 0 then some (32 + (σ11 8 2), σ11) else some (16 + (σ11 8 2), σ11))) else (if y0 = 2 then bd (fX9_addReplacement σ) (fun _ σ4 => bd (fX9_fits σ4) (fun v5 σ6 => (if v5 = 0 then some (1, σ6) else bd (fX9_putUnits σ6) (fun _ σ8 => bd (fX9_passOver σ8 (σ8 8 2)) (fun _ σ10 => some ((-2), σ10)))))) else bd (fX9_passOver σ (σ 8 2)) (fun _ σ2 => some ((-2), σ2))))
def fX9_meetFault_b16 (σ : St) (y0 : Int32) : Option (Int32 × St) := (if y0 = 0 then fX9_meetFault_b32 σ y0 (σ 0 9) else fX9_meetFault_b32 σ y0 (σ 0 8))
def fX9_meetFault (σ : St) : Option (Int32 × St) := (if (σ 8 1) = 2 then fX9_meetFault_b16 σ 1 else fX9_meetFault_b16 σ 0)
set_option maxHeartbeats 4000000 in
set_option maxRecDepth 100000 in
theorem mX9_meetFault {l : Launch} {D : va_G} {kS vS : Nat → Nat} {ad : Nat → Nat} {cI cF : ClassId} {σ σ0 : St} {r : Int32} (hI : Inj ad 18) (hf : fX9_meetFault σ  = some (r, σ0)) : MI l D (tyC cI cF) (inA ad 18) kS vS yX9_meetFault cX9_meetFault 3 .int 4 124 [.ref (ad 0)] (wC ad cI cF σ) (wC ad cI cF σ0) r := by
  refine MI.of (by decide) (Nat.le_of_ble_eq_true rfl) (fun p e s m args below meth c ls Q hQ C hr hlk hP hS hl => ?_)
  obtain ⟨hx, hb, hml, hown, hts, hK, hKS⟩ := id C
  have hl : lv_has ls 3 [(0, .ref (ad 0))] := hl
  have B32 : ∀ (σ : St) (x1 y0 : Int32) (H : Heap) (locs : List Loc) (ls : Array Slot), va_P D vwCl (wC ad cI cF σ) H → va_S (inA ad 18) s.heap H locs → lv_has ls 3 [(0, .ref (ad 0)), (1, .int x1)] → fX9_meetFault_b32 σ x1 y0 = some (r, σ0) → W p l e (rmN 4 124) s m args below meth c H locs 0 0 Q (F0 m 32 ls [.int y0]) := by
    intro σ x1 y0 H locs ls hP hS hl hf
    unfold fX9_meetFault_b32 at hf
    refine lv_istore_n (lv' := [(2, .int y0), (0, .ref (ad 0)), (1, .int x1)]) hx hb dX9_meetFault_32 rfl hl (by decide) rfl (fun ls hl => ?_)
    refine lv_iload_n hx hb dX9_meetFault_33 rfl (lv_at hl 0 rfl) ?_
    refine lv_if_ne (tgt := 68) hx hb dX9_meetFault_34 (by decide) (fun hc => ?_) (fun hc => ?_)
    · have hf := ite_f hf hc
      refine lv_iload_n hx hb dX9_meetFault_68 rfl (lv_at hl 0 rfl) ?_
      refine lv_iconst (v := 2) hx hb dX9_meetFault_69 (by decide) ?_
      refine lv_icmp_ne (tgt := 90) hx hb dX9_meetFault_70 (by decide) (fun hc => ?_) (fun hc => ?_)
      · have hf := ite_f hf hc
        refine lv_aload_n hx hb dX9_meetFault_90 rfl (lv_at hl 1 rfl) ?_
        refine lv_aload_n hx hb dX9_meetFault_91 rfl (lv_at hl 1 rfl) ?_
        refine GX9_4 C hP gt1_154 dX9_meetFault_92 ?_
        refine GX1_2N C hP (by decide) dX9_meetFault_95 ?_
        obtain ⟨v1, σ2, hc, hf⟩ := bd_at hf
        refine callVV (As := [.int (σ 8 2)]) (rest := []) C (mX9_passOver hI hc) ⟨gt3_169, gt3_171, gtp25, gt1_1, gt3_172⟩ okX9_passOver ⟨Nat.le_of_ble_eq_true rfl, Nat.le_of_ble_eq_true rfl⟩ (rcvOf C hP (show (wC ad cI cF _)[0]? = some (ad 0, _) from rfl) rfl) rfl hl.1 rfl (Nat.le_of_ble_eq_true rfl) hP hS dX9_meetFault_98 (fun H locs hP hS => ?_)
        refine lv_bipush (v := (-2)) hx hb dX9_meetFault_101 (by decide) ?_
        exact MI.ret (wf := wC ad cI cF) hQ C hr hlk rfl hf hP hS dX9_meetFault_103
      · have hf := ite_t hf hc
        refine lv_aload_n hx hb dX9_meetFault_73 rfl (lv_at hl 1 rfl) ?_
        obtain ⟨v3, σ4, hc, hf⟩ := bd_at hf
        refine callVV (As := []) (rest := []) C (mX9_addReplacement hI hc) ⟨gt3_152, gt3_154, gtp24, gt1_1, gt3_155⟩ okX9_addReplacement ⟨Nat.le_of_ble_eq_true rfl, Nat.le_of_ble_eq_true rfl⟩ (rcvOf C hP (show (wC ad cI cF _)[0]? = some (ad 0, _) from rfl) rfl) rfl hl.1 rfl (Nat.le_of_ble_eq_true rfl) hP hS dX9_meetFault_74 (fun H locs hP hS => ?_)
        refine lv_aload_n hx hb dX9_meetFault_77 rfl (lv_at hl 1 rfl) ?_
        obtain ⟨v5, σ6, hc, hf⟩ := bd_at hf
        refine callVI (As := []) (rest := []) C (mX9_fits hI hc) ⟨gt3_111, gt3_113, gtp20, gt1_1, gt3_114⟩ okX9_fits ⟨Nat.le_of_ble_eq_true rfl, Nat.le_of_ble_eq_true rfl⟩ (rcvOf C hP (show (wC ad cI cF _)[0]? = some (ad 0, _) from rfl) rfl) rfl hl.1 rfl (Nat.le_of_ble_eq_true rfl) hP hS dX9_meetFault_78 (fun H locs hP hS => ?_)
        refine lv_if_ne (tgt := 86) hx hb dX9_meetFault_81 (by decide) (fun hc => ?_) (fun hc => ?_)
        · have hf := ite_f hf hc
          refine lv_aload_n hx hb dX9_meetFault_86 rfl (lv_at hl 1 rfl) ?_
          obtain ⟨v7, σ8, hc, hf⟩ := bd_at hf
          refine callVV (As := []) (rest := []) C (mX9_putUnits hI hc) ⟨gt3_128, gt3_130, gtp22, gt1_1, gt3_131⟩ okX9_putUnits ⟨Nat.le_of_ble_eq_true rfl, Nat.le_of_ble_eq_true rfl⟩ (rcvOf C hP (show (wC ad cI cF _)[0]? = some (ad 0, _) from rfl) rfl) rfl hl.1 rfl (Nat.le_of_ble_eq_true rfl) hP hS dX9_meetFault_87 (fun H locs hP hS => ?_)
          refine lv_aload_n hx hb dX9_meetFault_90 rfl (lv_at hl 1 rfl) ?_
          refine lv_aload_n hx hb dX9_meetFault_91 rfl (lv_at hl 1 rfl) ?_
          refine GX9_4 C hP gt1_154 dX9_meetFault_92 ?_
          refine GX1_2N C hP (by decide) dX9_meetFault_95 ?_
          obtain ⟨v9, σ10, hc, hf⟩ := bd_at hf
          refine callVV (As := [.int (σ8 8 2)]) (rest := []) C (mX9_passOver hI hc) ⟨gt3_169, gt3_171, gtp25, gt1_1, gt3_172⟩ okX9_passOver ⟨Nat.le_of_ble_eq_true rfl, Nat.le_of_ble_eq_true rfl⟩ (rcvOf C hP (show (wC ad cI cF _)[0]? = some (ad 0, _) from rfl) rfl) rfl hl.1 rfl (Nat.le_of_ble_eq_true rfl) hP hS dX9_meetFault_98 (fun H locs hP hS => ?_)
          refine lv_bipush (v := (-2)) hx hb dX9_meetFault_101 (by decide) ?_
          exact MI.ret (wf := wC ad cI cF) hQ C hr hlk rfl hf hP hS dX9_meetFault_103
        · have hf := ite_t hf hc
          refine lv_iconst (v := 1) hx hb dX9_meetFault_84 (by decide) ?_
          exact MI.ret (wf := wC ad cI cF) hQ C hr hlk rfl hf hP hS dX9_meetFault_85
    · have hf := ite_t hf hc
      refine lv_aload_n hx hb dX9_meetFault_37 rfl (lv_at hl 1 rfl) ?_
      refine lv_aload_n hx hb dX9_meetFault_38 rfl (lv_at hl 1 rfl) ?_
      refine GX9_4 C hP gt1_154 dX9_meetFault_39 ?_
      refine GX1_2N C hP (by decide) dX9_meetFault_42 ?_
      refine PX9_14 hI C hP hS gt1_164 rfl rfl dX9_meetFault_45 (fun σ11 eσ11 H locs hP hS => ?_)
      have hf := nm_at hf σ11 eσ11
      refine lv_iload_n hx hb dX9_meetFault_48 rfl (lv_at hl 2 rfl) ?_
      refine lv_if_eq (tgt := 57) hx hb dX9_meetFault_49 (by decide) (fun hc => ?_) (fun hc => ?_)
      · have hf := ite_t hf hc
        refine lv_bipush (v := 32) hx hb dX9_meetFault_57 (by decide) ?_
        refine lv_aload_n hx hb dX9_meetFault_59 rfl (lv_at hl 1 rfl) ?_
        refine GX9_4 C hP gt1_154 dX9_meetFault_60 ?_
        refine GX1_2N C hP (by decide) dX9_meetFault_63 ?_
        refine lv_iadd hx hb dX9_meetFault_66 ?_
        exact MI.ret (wf := wC ad cI cF) hQ C hr hlk rfl hf hP hS dX9_meetFault_67
      · have hf := ite_f hf hc
        refine lv_bipush (v := 16) hx hb dX9_meetFault_52 (by decide) ?_
        refine lv_goto (tgt := 59) hx hb dX9_meetFault_54 (by decide) ?_
        refine lv_aload_n hx hb dX9_meetFault_59 rfl (lv_at hl 1 rfl) ?_
        refine GX9_4 C hP gt1_154 dX9_meetFault_60 ?_
        refine GX1_2N C hP (by decide) dX9_meetFault_63 ?_
        refine lv_iadd hx hb dX9_meetFault_66 ?_
        exact MI.ret (wf := wC ad cI cF) hQ C hr hlk rfl hf hP hS dX9_meetFault_67
  have B16 : ∀ (σ : St) (y0 : Int32) (H : Heap) (locs : List Loc) (ls : Array Slot), va_P D vwCl (wC ad cI cF σ) H → va_S (inA ad 18) s.heap H locs → lv_has ls 3 [(0, .ref (ad 0))] → fX9_meetFault_b16 σ y0 = some (r, σ0) → W p l e (rmN 4 124) s m args below meth c H locs 0 0 Q (F0 m 16 ls [.int y0]) := by
    intro σ y0 H locs ls hP hS hl hf
    unfold fX9_meetFault_b16 at hf
    refine lv_istore_n (lv' := [(1, .int y0), (0, .ref (ad 0))]) hx hb dX9_meetFault_16 rfl hl (by decide) rfl (fun ls hl => ?_)
    refine lv_iload_n hx hb dX9_meetFault_17 rfl (lv_at hl 0 rfl) ?_
    refine lv_if_eq (tgt := 28) hx hb dX9_meetFault_18 (by decide) (fun hc => ?_) (fun hc => ?_)
    · have hf := ite_t hf hc
      refine lv_aload_n hx hb dX9_meetFault_28 rfl (lv_at hl 1 rfl) ?_
      refine GX9_9 C hP gt1_159 dX9_meetFault_29 ?_
      exact B32 σ y0 (σ 0 9) _ _ _ hP hS (lv_sub hl [1, 0] rfl) hf
    · have hf := ite_f hf hc
      refine lv_aload_n hx hb dX9_meetFault_21 rfl (lv_at hl 1 rfl) ?_
      refine GX9_8 C hP gt1_158 dX9_meetFault_22 ?_
      refine lv_goto (tgt := 32) hx hb dX9_meetFault_25 (by decide) ?_
      exact B32 σ y0 (σ 0 8) _ _ _ hP hS (lv_sub hl [1, 0] rfl) hf
  unfold fX9_meetFault at hf
  refine lv_aload_n hx hb dX9_meetFault_0 rfl (lv_at hl 0 rfl) ?_
  refine GX9_4 C hP gt1_154 dX9_meetFault_1 ?_
  refine GX1_1N C hP (by decide) dX9_meetFault_4 ?_
  refine lv_iconst (v := 2) hx hb dX9_meetFault_7 (by decide) ?_
  refine lv_icmp_ne (tgt := 15) hx hb dX9_meetFault_8 (by decide) (fun hc => ?_) (fun hc => ?_)
  · have hf := ite_f hf hc
    refine lv_iconst (v := 0) hx hb dX9_meetFault_15 (by decide) ?_
    exact B16 σ 0 _ _ _ hP hS (lv_sub hl [0] rfl) hf
  · have hf := ite_t hf hc
    refine lv_iconst (v := 1) hx hb dX9_meetFault_11 (by decide) ?_
    refine lv_goto (tgt := 16) hx hb dX9_meetFault_12 (by decide) ?_
    exact B16 σ 1 _ _ _ hP hS (lv_sub hl [0] rfl) hf
def fX0_stepMade (σ : St) : Option (Int32 × St) := some (0, σ)
set_option maxHeartbeats 4000000 in
set_option maxRecDepth 100000 in
theorem mX0_stepMade {l : Launch} {D : va_G} {kS vS : Nat → Nat} {ad : Nat → Nat} {cI cF : ClassId} {a : Nat} {σ σ0 : St} {r : Int32} (hI : Inj ad 18) (hf : fX0_stepMade σ  = some (r, σ0)) : MV l D (tyC cI cF) (inA ad 18) kS vS yX0_stepMade cX0_stepMade 1 0 0 [.ref a] (wC ad cI cF σ) (wC ad cI cF σ0) := by
  refine MV.of (by decide) (Nat.le_of_ble_eq_true rfl) (fun p e s m args below meth c ls Q hQ C hr hlk hP hS hl => ?_)
  obtain ⟨hx, hb, hml, hown, hts, hK, hKS⟩ := id C
  have hl : lv_has ls 1 [(0, .ref a)] := hl
  unfold fX0_stepMade at hf
  exact MV.ret (wf := wC ad cI cF) hQ C hr hlk hf hP hS dX0_stepMade_0
def fX6_stepMade (j : Nat) (σ : St) : Option (Int32 × St) := nm (up σ j 2 0) (fun σ1 => zk (σ1 j 4) (nm (up σ1 j 3 (σ1 j 4)) (fun σ2 => some (0, σ2))))
set_option maxHeartbeats 4000000 in
set_option maxRecDepth 100000 in
theorem mX6_stepMade {l : Launch} {D : va_G} {kS vS : Nat → Nat} {ad : Nat → Nat} {cI cF : ClassId} {j : Nat} {σ σ0 : St} {r : Int32} (hI : Inj ad 18) (hj : jX6 j) (hf : fX6_stepMade j σ  = some (r, σ0)) : MV l D (tyC cI cF) (inA ad 18) kS vS yX6_stepMade cX6_stepMade 1 0 0 [.ref (ad j)] (wC ad cI cF σ) (wC ad cI cF σ0) := by
  refine MV.of (by decide) (Nat.le_of_ble_eq_true rfl) (fun p e s m args below meth c ls Q hQ C hr hlk hP hS hl => ?_)
  obtain ⟨hx, hb, hml, hown, hts, hK, hKS⟩ := id C
  have hl : lv_has ls 1 [(0, .ref (ad j))] := hl
  unfold fX6_stepMade at hf
  refine lv_aload_n hx hb dX6_stepMade_0 rfl (lv_at hl 0 rfl) ?_
  refine lv_iconst (v := 0) hx hb dX6_stepMade_1 (by decide) ?_
  refine PX6_2 hI C hP hS hj gt1_100 rfl rfl dX6_stepMade_2 (fun σ1 eσ1 H locs hP hS => ?_)
  have hf := nm_at hf σ1 eσ1
  refine lv_aload_n hx hb dX6_stepMade_5 rfl (lv_at hl 0 rfl) ?_
  refine lv_aload_n hx hb dX6_stepMade_6 rfl (lv_at hl 0 rfl) ?_
  refine GX6_4 C hP hj gt1_102 dX6_stepMade_7 ?_
  obtain ⟨hz, hf⟩ := zk_at hf
  refine PX6_3 hI C hP hS hj gt1_101 (zn hz) (zf hz) dX6_stepMade_10 (fun σ2 eσ2 H locs hP hS => ?_)
  have hf := nm_at hf σ2 eσ2
  exact MV.ret (wf := wC ad cI cF) hQ C hr hlk hf hP hS dX6_stepMade_13
def fX7_stepMade (σ : St) : Option (Int32 × St) := bd (fX3_copy 16 17 σ) (fun _ σ2 => some (0, σ2))
set_option maxHeartbeats 4000000 in
set_option maxRecDepth 100000 in
theorem mX7_stepMade {l : Launch} {D : va_G} {kS vS : Nat → Nat} {ad : Nat → Nat} {cI cF : ClassId} {σ σ0 : St} {r : Int32} (hI : Inj ad 18) (hf : fX7_stepMade σ  = some (r, σ0)) : MV l D (tyC cI cF) (inA ad 18) kS vS yX7_stepMade cX7_stepMade 1 1 21 [.ref (ad 15)] (wC ad cI cF σ) (wC ad cI cF σ0) := by
  refine MV.of (by decide) (Nat.le_of_ble_eq_true rfl) (fun p e s m args below meth c ls Q hQ C hr hlk hP hS hl => ?_)
  obtain ⟨hx, hb, hml, hown, hts, hK, hKS⟩ := id C
  have hl : lv_has ls 1 [(0, .ref (ad 15))] := hl
  unfold fX7_stepMade at hf
  refine lv_aload_n hx hb dX7_stepMade_0 rfl (lv_at hl 0 rfl) ?_
  refine GX7_0 C hP gt1_143 dX7_stepMade_1 ?_
  refine lv_aload_n hx hb dX7_stepMade_4 rfl (lv_at hl 0 rfl) ?_
  refine GX7_1 C hP gt1_144 dX7_stepMade_5 ?_
  obtain ⟨v1, σ2, hc, hf⟩ := bd_at hf
  refine callVV (As := [.ref (ad 17)]) (rest := []) C (mX3_copy (j := 16) (j2 := 17) hI (by decide) (by decide) hc) ⟨gt2_100, gt2_101, gt2_102, gt1_10, gt2_103⟩ okX3_copy ⟨Nat.le_of_ble_eq_true rfl, Nat.le_of_ble_eq_true rfl⟩ (rcvOf C hP (show (wC ad cI cF _)[16]? = some (ad 16, _) from rfl) rfl) rfl hl.1 rfl (Nat.le_of_ble_eq_true rfl) hP hS dX7_stepMade_8 (fun H locs hP hS => ?_)
  exact MV.ret (wf := wC ad cI cF) hQ C hr hlk hf hP hS dX7_stepMade_11
def fv_stepMade (σ : St) : Option (Int32 × St) := if σ 0 5 = 0 then fX0_stepMade σ else if σ 0 5 = 1 then fX0_stepMade σ else if σ 0 5 = 2 then fX6_stepMade 12 σ else if σ 0 5 = 3 then fX6_stepMade 13 σ else if σ 0 5 = 4 then fX6_stepMade 14 σ else if σ 0 5 = 5 then fX7_stepMade σ else if σ 0 5 = 6 then fX0_stepMade σ else none
set_option maxHeartbeats 4000000 in
set_option maxRecDepth 100000 in
theorem dv_stepMade {p : Program} {l : Launch} {e : Env} {R : Room} {s : State} {m : MethodId} {args : Array Value} {below : List Frame} {meth : Method} {c : Code} {H : Heap} {locs : List Loc} {Q : State → Prop} {cc : ByteArray} {pc nL : Nat} {ls : Array Slot} {rest : List Value} {D : va_G} {kS vS : Nat → Nat} {ad : Nat → Nat} {cI cF : ClassId} {σ σ0 : St} {r : Int32} (hI : Inj ad 18) (C : Cx p c cc nL s m args RX9 D (tyC cI cF) (inA ad 18) kS vS) (hf : fv_stepMade σ = some (r, σ0)) (hR : 2 ≤ R.frames ∧ 41 ≤ R.locals) (hls : ls.size = nL) (hcat : (rest.map fun v => v.category).sum ≤ 8) (hP : va_P D vwCl (wC ad cI cF σ) H) (hS : va_S (inA ad 18) s.heap H locs) (hd : decode cc pc = .ok (.invokevirtual 168, 3))
    (kk : ∀ (H1 : Heap) (locs1 : List Loc), va_P D vwCl (wC ad cI cF σ0) H1 → va_S (inA ad 18) s.heap H1 locs1 → W p l e R s m args below meth c H1 locs1 0 0 Q (F0 m (pc + 3) ls (rest))) : W p l e R s m args below meth c H locs 0 0 Q (F0 m pc ls (.ref (ad (fK (σ 0 5).toNatClampNeg)) :: rest)) := by
  obtain ⟨hx, hb, hml, hown, hts, hK, hKS⟩ := id C
  unfold fv_stepMade at hf
  by_cases h0 : σ 0 5 = 0
  · have hf := ite_t hf h0
    rw [h0]
    exact callUV (x := ⟨"ResumableCoder$Form", "stepMade", "()V"⟩) (C0 := RX8) (owner := "ResumableCoder$Form") (As := []) (rest := rest) C (mX0_stepMade hI (a := ad 10) hf) (va_cwU 0 hts (GT_in (in5 gt3_136 gt3_138 gt3_146 gt3_137 gt1_2 (cons_in gt3_147))) rfl rfl rfl rfl ⟨by decide, by decide, by decide +kernel⟩ ⟨Nat.le_trans (Nat.le_of_ble_eq_true rfl) hR.1, Nat.le_trans (Nat.le_of_ble_eq_true rfl) hR.2⟩) (rcvOf C hP (show (wC ad cI cF σ)[10]? = some (ad 10, _) from rfl) rfl) rfl hls rfl hcat hP hS hd kk
  have hf := ite_f hf h0
  by_cases h1 : σ 0 5 = 1
  · have hf := ite_t hf h1
    rw [h1]
    exact callUV (x := ⟨"ResumableCoder$Form", "stepMade", "()V"⟩) (C0 := RX8) (owner := "ResumableCoder$Form") (As := []) (rest := rest) C (mX0_stepMade hI (a := ad 11) hf) (va_cwU 0 hts (GT_in (in5 gt3_136 gt3_138 gt3_146 gt3_137 gt1_2 (cons_in gt3_147))) rfl rfl rfl rfl ⟨by decide, by decide, by decide +kernel⟩ ⟨Nat.le_trans (Nat.le_of_ble_eq_true rfl) hR.1, Nat.le_trans (Nat.le_of_ble_eq_true rfl) hR.2⟩) (rcvOf C hP (show (wC ad cI cF σ)[11]? = some (ad 11, _) from rfl) rfl) rfl hls rfl hcat hP hS hd kk
  have hf := ite_f hf h1
  by_cases h2 : σ 0 5 = 2
  · have hf := ite_t hf h2
    rw [h2]
    exact callUV (x := ⟨"ResumableCoder$Form", "stepMade", "()V"⟩) (C0 := RX6) (owner := "ResumableCoder$Form") (As := []) (rest := rest) C (mX6_stepMade (j := 12) hI (by decide) hf) (va_cwO 0 hts (GT_in (in6 gt3_136 gt3_138 gt3_137 gt3_140 gt3_141 gt1_8 (cons_in gt3_142))) rfl rfl rfl (by exact gt3_147) ⟨by decide, by decide, by decide +kernel⟩ ⟨Nat.le_trans (Nat.le_of_ble_eq_true rfl) hR.1, Nat.le_trans (Nat.le_of_ble_eq_true rfl) hR.2⟩) (rcvOf C hP (show (wC ad cI cF σ)[12]? = some (ad 12, _) from rfl) rfl) rfl hls rfl hcat hP hS hd kk
  have hf := ite_f hf h2
  by_cases h3 : σ 0 5 = 3
  · have hf := ite_t hf h3
    rw [h3]
    exact callUV (x := ⟨"ResumableCoder$Form", "stepMade", "()V"⟩) (C0 := RX6) (owner := "ResumableCoder$Form") (As := []) (rest := rest) C (mX6_stepMade (j := 13) hI (by decide) hf) (va_cwO 0 hts (GT_in (in6 gt3_136 gt3_138 gt3_137 gt3_140 gt3_141 gt1_8 (cons_in gt3_142))) rfl rfl rfl (by exact gt3_147) ⟨by decide, by decide, by decide +kernel⟩ ⟨Nat.le_trans (Nat.le_of_ble_eq_true rfl) hR.1, Nat.le_trans (Nat.le_of_ble_eq_true rfl) hR.2⟩) (rcvOf C hP (show (wC ad cI cF σ)[13]? = some (ad 13, _) from rfl) rfl) rfl hls rfl hcat hP hS hd kk
  have hf := ite_f hf h3
  by_cases h4 : σ 0 5 = 4
  · have hf := ite_t hf h4
    rw [h4]
    exact callUV (x := ⟨"ResumableCoder$Form", "stepMade", "()V"⟩) (C0 := RX6) (owner := "ResumableCoder$Form") (As := []) (rest := rest) C (mX6_stepMade (j := 14) hI (by decide) hf) (va_cwO 0 hts (GT_in (in6 gt3_136 gt3_138 gt3_137 gt3_140 gt3_141 gt1_8 (cons_in gt3_142))) rfl rfl rfl (by exact gt3_147) ⟨by decide, by decide, by decide +kernel⟩ ⟨Nat.le_trans (Nat.le_of_ble_eq_true rfl) hR.1, Nat.le_trans (Nat.le_of_ble_eq_true rfl) hR.2⟩) (rcvOf C hP (show (wC ad cI cF σ)[14]? = some (ad 14, _) from rfl) rfl) rfl hls rfl hcat hP hS hd kk
  have hf := ite_f hf h4
  by_cases h5 : σ 0 5 = 5
  · have hf := ite_t hf h5
    rw [h5]
    exact callUV (x := ⟨"ResumableCoder$Form", "stepMade", "()V"⟩) (C0 := RX7) (owner := "ResumableCoder$Form") (As := []) (rest := rest) C (mX7_stepMade hI hf) (va_cwO 0 hts (GT_in (in6 gt3_136 gt3_138 gt3_137 gt3_143 gt3_144 gt1_9 (cons_in gt3_145))) rfl rfl rfl (by exact gt3_147) ⟨by decide, by decide, by decide +kernel⟩ ⟨Nat.le_trans (Nat.le_of_ble_eq_true rfl) hR.1, Nat.le_trans (Nat.le_of_ble_eq_true rfl) hR.2⟩) (rcvOf C hP (show (wC ad cI cF σ)[15]? = some (ad 15, _) from rfl) rfl) rfl hls rfl hcat hP hS hd kk
  have hf := ite_f hf h5
  by_cases h6 : σ 0 5 = 6
  · have hf := ite_t hf h6
    rw [h6]
    exact callUV (x := ⟨"ResumableCoder$Form", "stepMade", "()V"⟩) (C0 := RX2) (owner := "ResumableCoder$Form") (As := []) (rest := rest) C (mX0_stepMade hI (a := ad 1) hf) (va_cwU 0 hts (GT_in (in5 gt3_136 gt3_138 gt3_139 gt3_137 gt1_2 (cons_in gt3_147))) rfl rfl rfl rfl ⟨by decide, by decide, by decide +kernel⟩ ⟨Nat.le_trans (Nat.le_of_ble_eq_true rfl) hR.1, Nat.le_trans (Nat.le_of_ble_eq_true rfl) hR.2⟩) (rcvOf C hP (show (wC ad cI cF σ)[1]? = some (ad 1, _) from rfl) rfl) rfl hls rfl hcat hP hS hd kk
  have hf := ite_f hf h6
  exact nomatch (show (none : Option (Int32 × St)) = some (r, σ0) from hf)
def fX9_makeStep (σ : St) : Option (Int32 × St) := bd (fX9_fits σ) (fun v1 σ2 => (if v1 = 0 then some (1, σ2) else bd (fX9_takeUnits σ2 (σ2 8 2)) (fun _ σ4 => bd (fX9_putUnits σ4) (fun _ σ6 => bd (fv_stepMade σ6) (fun _ σ8 => some ((-2), σ8))))))
set_option maxHeartbeats 4000000 in
set_option maxRecDepth 100000 in
theorem mX9_makeStep {l : Launch} {D : va_G} {kS vS : Nat → Nat} {ad : Nat → Nat} {cI cF : ClassId} {σ σ0 : St} {r : Int32} (hI : Inj ad 18) (hf : fX9_makeStep σ  = some (r, σ0)) : MI l D (tyC cI cF) (inA ad 18) kS vS yX9_makeStep cX9_makeStep 1 .int 3 103 [.ref (ad 0)] (wC ad cI cF σ) (wC ad cI cF σ0) r := by
  refine MI.of (by decide) (Nat.le_of_ble_eq_true rfl) (fun p e s m args below meth c ls Q hQ C hr hlk hP hS hl => ?_)
  obtain ⟨hx, hb, hml, hown, hts, hK, hKS⟩ := id C
  have hl : lv_has ls 1 [(0, .ref (ad 0))] := hl
  unfold fX9_makeStep at hf
  refine lv_aload_n hx hb dX9_makeStep_0 rfl (lv_at hl 0 rfl) ?_
  obtain ⟨v1, σ2, hc, hf⟩ := bd_at hf
  refine callVI (As := []) (rest := []) C (mX9_fits hI hc) ⟨gt3_111, gt3_113, gtp20, gt1_1, gt3_114⟩ okX9_fits ⟨Nat.le_of_ble_eq_true rfl, Nat.le_of_ble_eq_true rfl⟩ (rcvOf C hP (show (wC ad cI cF _)[0]? = some (ad 0, _) from rfl) rfl) rfl hl.1 rfl (Nat.le_of_ble_eq_true rfl) hP hS dX9_makeStep_1 (fun H locs hP hS => ?_)
  refine lv_if_ne (tgt := 9) hx hb dX9_makeStep_4 (by decide) (fun hc => ?_) (fun hc => ?_)
  · have hf := ite_f hf hc
    refine lv_aload_n hx hb dX9_makeStep_9 rfl (lv_at hl 0 rfl) ?_
    refine lv_aload_n hx hb dX9_makeStep_10 rfl (lv_at hl 0 rfl) ?_
    refine GX9_4 C hP gt1_154 dX9_makeStep_11 ?_
    refine GX1_2N C hP (by decide) dX9_makeStep_14 ?_
    obtain ⟨v3, σ4, hc, hf⟩ := bd_at hf
    refine callVV (As := [.int (σ2 8 2)]) (rest := []) C (mX9_takeUnits hI hc) ⟨gt3_115, gt3_117, gtp21, gt1_1, gt3_118⟩ okX9_takeUnits ⟨Nat.le_of_ble_eq_true rfl, Nat.le_of_ble_eq_true rfl⟩ (rcvOf C hP (show (wC ad cI cF _)[0]? = some (ad 0, _) from rfl) rfl) rfl hl.1 rfl (Nat.le_of_ble_eq_true rfl) hP hS dX9_makeStep_17 (fun H locs hP hS => ?_)
    refine lv_aload_n hx hb dX9_makeStep_20 rfl (lv_at hl 0 rfl) ?_
    obtain ⟨v5, σ6, hc, hf⟩ := bd_at hf
    refine callVV (As := []) (rest := []) C (mX9_putUnits hI hc) ⟨gt3_128, gt3_130, gtp22, gt1_1, gt3_131⟩ okX9_putUnits ⟨Nat.le_of_ble_eq_true rfl, Nat.le_of_ble_eq_true rfl⟩ (rcvOf C hP (show (wC ad cI cF _)[0]? = some (ad 0, _) from rfl) rfl) rfl hl.1 rfl (Nat.le_of_ble_eq_true rfl) hP hS dX9_makeStep_21 (fun H locs hP hS => ?_)
    refine lv_aload_n hx hb dX9_makeStep_24 rfl (lv_at hl 0 rfl) ?_
    refine GX9_5 C hP gt1_155 dX9_makeStep_25 ?_
    obtain ⟨v7, σ8, hc, hf⟩ := bd_at hf
    refine dv_stepMade (rest := []) hI C hc ⟨Nat.le_of_ble_eq_true rfl, Nat.le_of_ble_eq_true rfl⟩ hl.1 (Nat.le_of_ble_eq_true rfl) hP hS dX9_makeStep_28 (fun H locs hP hS => ?_)
    refine lv_bipush (v := (-2)) hx hb dX9_makeStep_31 (by decide) ?_
    exact MI.ret (wf := wC ad cI cF) hQ C hr hlk rfl hf hP hS dX9_makeStep_33
  · have hf := ite_t hf hc
    refine lv_iconst (v := 1) hx hb dX9_makeStep_7 (by decide) ?_
    exact MI.ret (wf := wC ad cI cF) hQ C hr hlk rfl hf hP hS dX9_makeStep_8
