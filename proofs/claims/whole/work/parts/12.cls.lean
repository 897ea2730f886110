def fX8_codePointOf_b50 : Nat → St → Int32 → Int32 → Int32 → Option (Int32 × St)
  | 0, _, _, _, _ => none
  | n + 1, σ, x1, x3, x4 => (if x1 ≤ x4 then some (x3, σ) else bd (fX5_at 4 σ x4) (fun v3 σ4 => nm (((x3 * 64) + v3) - 128) (fun v5 => nm (x4 + 1) (fun v6 => fX8_codePointOf_b50 n σ4 x1 v5 v6))))
def fX8_codePointOf_b46 (σ : St) (x1 y0 : Int32) : Option (Int32 × St) := fX8_codePointOf_b50 200 σ x1 y0 1
def fX8_codePointOf (σ : St) (p1 : Int32) : Option (Int32 × St) := bd (fX5_at 4 σ 0) (fun v1 σ2 => (if p1 = 1 then fX8_codePointOf_b46 σ2 p1 v1 else (if p1 = 2 then fX8_codePointOf_b46 σ2 p1 (v1 - 192) else (if p1 = 3 then fX8_codePointOf_b46 σ2 p1 (v1 - 224) else fX8_codePointOf_b46 σ2 p1 (v1 - 240)))))
set_option maxHeartbeats 4000000 in
set_option maxRecDepth 100000 in
theorem mX8_codePointOf {l : Launch} {D : va_G} {kS vS : Nat → Nat} {ad : Nat → Nat} {cI cF : ClassId} {σ σ0 : St} {p1 : Int32} {r : Int32} (hI : Inj ad 18) (hf : fX8_codePointOf σ p1 = some (r, σ0)) : MI l D (tyC cI cF) (inA ad 18) kS vS yX8_codePointOf cX8_codePointOf 5 .int 1 21 [.ref (ad 4), .int p1] (wC ad cI cF σ) (wC ad cI cF σ0) r := by
  refine MI.of (by decide) (Nat.le_of_ble_eq_true rfl) (fun p e s m args below meth c ls Q hQ C hr hlk hP hS hl => ?_)
  obtain ⟨hx, hb, hml, hown, hts, hK, hKS⟩ := id C
  have hl : lv_has ls 5 [(0, .ref (ad 4)), (1, .int p1)] := hl
  have B50 : ∀ n : Nat, ∀ (σ : St) (x1 x3 x4 : Int32) (H : Heap) (locs : List Loc) (ls : Array Slot), va_P D vwCl (wC ad cI cF σ) H → va_S (inA ad 18) s.heap H locs → lv_has ls 5 [(0, .ref (ad 4)), (1, .int x1), (3, .int x3), (4, .int x4)] → fX8_codePointOf_b50 n σ x1 x3 x4 = some (r, σ0) → W p l e (rmN 1 21) s m args below meth c H locs 0 0 Q (F0 m 50 ls []) := by
    intro n
    induction n with
    | zero =>
      intro σ x1 x3 x4 H locs ls hP hS hl hf
      exact nomatch (show (none : Option (Int32 × St)) = some (r, σ0) from hf)
    | succ n ih =>
      intro σ x1 x3 x4 H locs ls hP hS hl hf
      rw [fX8_codePointOf_b50] at hf
      refine lv_iload hx hb dX8_codePointOf_50 (lv_at hl 3 rfl) ?_
      refine lv_iload_n hx hb dX8_codePointOf_52 rfl (lv_at hl 1 rfl) ?_
      refine lv_icmp_ge (tgt := 78) hx hb dX8_codePointOf_53 (by decide) (fun hc => ?_) (fun hc => ?_)
      · have hf := ite_t hf hc
        refine lv_iload_n hx hb dX8_codePointOf_78 rfl (lv_at hl 2 rfl) ?_
        exact MI.ret (wf := wC ad cI cF) hQ C hr hlk rfl hf hP hS dX8_codePointOf_79
      · have hf := ite_f hf hc
        refine lv_iload_n hx hb dX8_codePointOf_56 rfl (lv_at hl 2 rfl) ?_
        refine lv_bipush (v := 64) hx hb dX8_codePointOf_57 (by decide) ?_
        refine lv_imul hx hb dX8_codePointOf_59 ?_
        refine lv_aload_n hx hb dX8_codePointOf_60 rfl (lv_at hl 0 rfl) ?_
        refine lv_iload hx hb dX8_codePointOf_61 (lv_at hl 3 rfl) ?_
        obtain ⟨v3, σ4, hc, hf⟩ := bd_at hf
        refine callVI (As := [.int x4]) (rest := [.int (x3 * 64)]) C (mX5_at (j := 4) hI (by decide) hc) ⟨gt3_5, gt2_39, gt2_40, gt1_5, gt2_41⟩ okX5_at ⟨Nat.le_of_ble_eq_true rfl, Nat.le_of_ble_eq_true rfl⟩ (rcvOf C hP (show (wC ad cI cF _)[4]? = some (ad 4, _) from rfl) rfl) rfl hl.1 rfl (Nat.le_of_ble_eq_true rfl) hP hS dX8_codePointOf_63 (fun H locs hP hS => ?_)
        refine lv_iadd hx hb dX8_codePointOf_66 ?_
        refine lv_sipush (v := 128) hx hb dX8_codePointOf_67 (by decide) ?_
        refine lv_isub hx hb dX8_codePointOf_70 ?_
        refine lv_topi (fun v5 ev5 => ?_)
        have hf := nm_at hf v5 ev5
        refine lv_istore_n (lv' := [(3, .int v5), (0, .ref (ad 4)), (1, .int x1), (4, .int x4)]) hx hb dX8_codePointOf_71 rfl hl (by decide) rfl (fun ls hl => ?_)
        obtain ⟨v6, ev6⟩ : ∃ y : Int32, y = x4 + 1 := ⟨_, rfl⟩
        have hf := nm_at hf v6 ev6
        refine lv_iinc (v := v6) (lv' := [(4, .int v6), (3, .int v5), (0, .ref (ad 4)), (1, .int x1)]) hx hb dX8_codePointOf_72 hl (k := 3) rfl (by rw [ev6]; rfl) (by decide) rfl (fun ls hl => ?_)
        refine lv_goto (tgt := 50) hx hb dX8_codePointOf_75 (by decide) ?_
        exact ih σ4 x1 v5 v6 _ _ _ hP hS (lv_sub hl [2, 3, 1, 0] rfl) hf
  have B46 : ∀ (σ : St) (x1 y0 : Int32) (H : Heap) (locs : List Loc) (ls : Array Slot), va_P D vwCl (wC ad cI cF σ) H → va_S (inA ad 18) s.heap H locs → lv_has ls 5 [(0, .ref (ad 4)), (1, .int x1)] → fX8_codePointOf_b46 σ x1 y0 = some (r, σ0) → W p l e (rmN 1 21) s m args below meth c H locs 0 0 Q (F0 m 46 ls [.int y0]) := by
    intro σ x1 y0 H locs ls hP hS hl hf
    unfold fX8_codePointOf_b46 at hf
    refine lv_istore_n (lv' := [(3, .int y0), (0, .ref (ad 4)), (1, .int x1)]) hx hb dX8_codePointOf_46 rfl hl (by decide) rfl (fun ls hl => ?_)
    refine lv_iconst (v := 1) hx hb dX8_codePointOf_47 (by decide) ?_
    refine lv_istore (lv' := [(4, .int 1), (3, .int y0), (0, .ref (ad 4)), (1, .int x1)]) hx hb dX8_codePointOf_48 hl (by decide) rfl (fun ls hl => ?_)
    exact B50 200 σ x1 y0 1 _ _ _ hP hS (lv_sub hl [2, 3, 1, 0] rfl) hf
  unfold fX8_codePointOf at hf
  refine lv_aload_n hx hb dX8_codePointOf_0 rfl (lv_at hl 0 rfl) ?_
  refine lv_iconst (v := 0) hx hb dX8_codePointOf_1 (by decide) ?_
  obtain ⟨v1, σ2, hc, hf⟩ := bd_at hf
  refine callVI (As := [.int 0]) (rest := []) C (mX5_at (j := 4) hI (by decide) hc) ⟨gt3_5, gt2_39, gt2_40, gt1_5, gt2_41⟩ okX5_at ⟨Nat.le_of_ble_eq_true rfl, Nat.le_of_ble_eq_true rfl⟩ (rcvOf C hP (show (wC ad cI cF _)[4]? = some (ad 4, _) from rfl) rfl) rfl hl.1 rfl (Nat.le_of_ble_eq_true rfl) hP hS dX8_codePointOf_2 (fun H locs hP hS => ?_)
  refine lv_istore_n (lv' := [(2, .int v1), (0, .ref (ad 4)), (1, .int p1)]) hx hb dX8_codePointOf_5 rfl hl (by decide) rfl (fun ls hl => ?_)
  refine lv_iload_n hx hb dX8_codePointOf_6 rfl (lv_at hl 2 rfl) ?_
  refine lv_iconst (v := 1) hx hb dX8_codePointOf_7 (by decide) ?_
  refine lv_icmp_ne (tgt := 15) hx hb dX8_codePointOf_8 (by decide) (fun hc => ?_) (fun hc => ?_)
  · have hf := ite_f hf hc
    refine lv_iload_n hx hb dX8_codePointOf_15 rfl (lv_at hl 2 rfl) ?_
    refine lv_iconst (v := 2) hx hb dX8_codePointOf_16 (by decide) ?_
    refine lv_icmp_ne (tgt := 28) hx hb dX8_codePointOf_17 (by decide) (fun hc => ?_) (fun hc => ?_)
    · have hf := ite_f hf hc
      refine lv_iload_n hx hb dX8_codePointOf_28 rfl (lv_at hl 2 rfl) ?_
      refine lv_iconst (v := 3) hx hb dX8_codePointOf_29 (by decide) ?_
      refine lv_icmp_ne (tgt := 41) hx hb dX8_codePointOf_30 (by decide) (fun hc => ?_) (fun hc => ?_)
      · have hf := ite_f hf hc
        refine lv_iload_n hx hb dX8_codePointOf_41 rfl (lv_at hl 0 rfl) ?_
        refine lv_sipush (v := 240) hx hb dX8_codePointOf_42 (by decide) ?_
        refine lv_isub hx hb dX8_codePointOf_45 ?_
        exact B46 σ2 p1 (v1 - 240) _ _ _ hP hS (lv_sub hl [1, 2] rfl) hf
      · have hf := ite_t hf hc
        refine lv_iload_n hx hb dX8_codePointOf_33 rfl (lv_at hl 0 rfl) ?_
        refine lv_sipush (v := 224) hx hb dX8_codePointOf_34 (by decide) ?_
        refine lv_isub hx hb dX8_codePointOf_37 ?_
        refine lv_goto (tgt := 46) hx hb dX8_codePointOf_38 (by decide) ?_
        exact B46 σ2 p1 (v1 - 224) _ _ _ hP hS (lv_sub hl [1, 2] rfl) hf
    · have hf := ite_t hf hc
      refine lv_iload_n hx hb dX8_codePointOf_20 rfl (lv_at hl 0 rfl) ?_
      refine lv_sipush (v := 192) hx hb dX8_codePointOf_21 (by decide) ?_
      refine lv_isub hx hb dX8_codePointOf_24 ?_
      refine lv_goto (tgt := 46) hx hb dX8_codePointOf_25 (by decide) ?_
      exact B46 σ2 p1 (v1 - 192) _ _ _ hP hS (lv_sub hl [1, 2] rfl) hf
  · have hf := ite_t hf hc
    refine lv_iload_n hx hb dX8_codePointOf_11 rfl (lv_at hl 0 rfl) ?_
    refine lv_goto (tgt := 46) hx hb dX8_codePointOf_12 (by decide) ?_
    exact B46 σ2 p1 v1 _ _ _ hP hS (lv_sub hl [1, 2] rfl) hf
def fX1_add (σ : St) (p1 : Int32) : Option (Int32 × St) := (if 4 ≤ (σ 8 3) then some (0, σ) else sv σ 9 4 (σ 8 3) p1 (fun σ1 => nm (up σ1 8 3 ((σ1 8 3) + 1)) (fun σ2 => some (0, σ2))))
set_option maxHeartbeats 4000000 in
set_option maxRecDepth 100000 in
theorem mX1_add {l : Launch} {D : va_G} {kS vS : Nat → Nat} {ad : Nat → Nat} {cI cF : ClassId} {σ σ0 : St} {p1 : Int32} {r : Int32} (hI : Inj ad 18) (hf : fX1_add σ p1 = some (r, σ0)) : MV l D (tyC cI cF) (inA ad 18) kS vS yX1_add cX1_add 2 0 0 [.ref (ad 8), .int p1] (wC ad cI cF σ) (wC ad cI cF σ0) := by
  refine MV.of (by decide) (Nat.le_of_ble_eq_true rfl) (fun p e s m args below meth c ls Q hQ C hr hlk hP hS hl => ?_)
  obtain ⟨hx, hb, hml, hown, hts, hK, hKS⟩ := id C
  have hl : lv_has ls 2 [(0, .ref (ad 8)), (1, .int p1)] := hl
  unfold fX1_add at hf
  refine lv_aload_n hx hb dX1_add_0 rfl (lv_at hl 0 rfl) ?_
  refine GX1_3 C hP gt1_69 dX1_add_1 ?_
  refine lv_iconst (v := 4) hx hb dX1_add_4 (by decide) ?_
  refine lv_icmp_ge (tgt := 28) hx hb dX1_add_5 (by decide) (fun hc => ?_) (fun hc => ?_)
  · have hf := ite_t hf hc
    exact MV.ret (wf := wC ad cI cF) hQ C hr hlk hf hP hS dX1_add_28
  · have hf := ite_f hf hc
    refine lv_aload_n hx hb dX1_add_8 rfl (lv_at hl 0 rfl) ?_
    refine GX1_0 C hP gt1_64 dX1_add_9 ?_
    refine lv_aload_n hx hb dX1_add_12 rfl (lv_at hl 0 rfl) ?_
    refine GX1_3 C hP gt1_69 dX1_add_13 ?_
    refine lv_iload_n hx hb dX1_add_16 rfl (lv_at hl 1 rfl) ?_
    obtain ⟨hin, hf⟩ := sv_at hf
    refine astor (wf := wC ad cI cF) C hP (dC hI _) hS 9 rfl rfl hin (fun _ => rfl) dX1_add_17 (fun σ1 eσ1 H locs hP hS => ?_)
    have hf := hf σ1 eσ1
    refine lv_aload_n hx hb dX1_add_18 rfl (lv_at hl 0 rfl) ?_
    refine lv_dup hx hb dX1_add_19 rfl ?_
    refine GX1_3 C hP gt1_69 dX1_add_20 ?_
    refine lv_iconst (v := 1) hx hb dX1_add_23 (by decide) ?_
    refine lv_iadd hx hb dX1_add_24 ?_
    refine PX1_3 hI C hP hS gt1_69 rfl rfl dX1_add_25 (fun σ2 eσ2 H locs hP hS => ?_)
    have hf := nm_at hf σ2 eσ2
    exact MV.ret (wf := wC ad cI cF) hQ C hr hlk hf hP hS dX1_add_28
def fX4_addCharacters (σ : St) (p0 : Int32) : Option (Int32 × St) := (if 65536 ≤ p0 then bd (fX1_add σ (55296 + ((p0 - 65536) / 1024))) (fun _ σ2 => bd (fX1_add σ2 (56320 + ((p0 - 65536) - (p0 - 65536) / 1024 * 1024))) (fun _ σ4 => some (0, σ4))) else bd (fX1_add σ p0) (fun _ σ6 => some (0, σ6)))
set_option maxHeartbeats 4000000 in
set_option maxRecDepth 100000 in
theorem mX4_addCharacters {l : Launch} {D : va_G} {kS vS : Nat → Nat} {ad : Nat → Nat} {cI cF : ClassId} {σ σ0 : St} {p0 : Int32} {r : Int32} (hI : Inj ad 18) (hf : fX4_addCharacters σ p0 = some (r, σ0)) : MV l D (tyC cI cF) (inA ad 18) kS vS yX4_addCharacters cX4_addCharacters 2 1 21 [.int p0, .ref (ad 8)] (wC ad cI cF σ) (wC ad cI cF σ0) := by
  refine MV.of (by decide) (Nat.le_of_ble_eq_true rfl) (fun p e s m args below meth c ls Q hQ C hr hlk hP hS hl => ?_)
  obtain ⟨hx, hb, hml, hown, hts, hK, hKS⟩ := id C
  have hl : lv_has ls 2 [(0, .int p0), (1, .ref (ad 8))] := hl
  unfold fX4_addCharacters at hf
  refine lv_iload_n hx hb dX4_addCharacters_0 rfl (lv_at hl 0 rfl) ?_
  refine lv_ldc hx hb (v := 65536) hown (hts _ gt3_22) dX4_addCharacters_1 ?_
  refine lv_icmp_ge (tgt := 14) hx hb dX4_addCharacters_3 (by decide) (fun hc => ?_) (fun hc => ?_)
  · have hf := ite_t hf hc
    refine lv_aload_n hx hb dX4_addCharacters_14 rfl (lv_at hl 1 rfl) ?_
    refine lv_ldc hx hb (v := 55296) hown (hts _ gt2_60) dX4_addCharacters_15 ?_
    refine lv_iload_n hx hb dX4_addCharacters_17 rfl (lv_at hl 0 rfl) ?_
    refine lv_ldc hx hb (v := 65536) hown (hts _ gt3_22) dX4_addCharacters_18 ?_
    refine lv_isub hx hb dX4_addCharacters_20 ?_
    refine lv_sipush (v := 1024) hx hb dX4_addCharacters_21 (by decide) ?_
    refine lv_idiv hx hb dX4_addCharacters_24 (by decide) ?_
    refine lv_iadd hx hb dX4_addCharacters_25 ?_
    obtain ⟨v1, σ2, hc, hf⟩ := bd_at hf
    refine callVV (As := [.int (55296 + ((p0 - 65536) / 1024))]) (rest := []) C (mX1_add hI hc) ⟨gt3_102, gt2_51, gt2_52, gt1_6, gt2_53⟩ okX1_add ⟨Nat.le_of_ble_eq_true rfl, Nat.le_of_ble_eq_true rfl⟩ (rcvOf C hP (show (wC ad cI cF _)[8]? = some (ad 8, _) from rfl) rfl) rfl hl.1 rfl (Nat.le_of_ble_eq_true rfl) hP hS dX4_addCharacters_26 (fun H locs hP hS => ?_)
    refine lv_aload_n hx hb dX4_addCharacters_29 rfl (lv_at hl 1 rfl) ?_
    refine lv_ldc hx hb (v := 56320) hown (hts _ gt2_61) dX4_addCharacters_30 ?_
    refine lv_iload_n hx hb dX4_addCharacters_32 rfl (lv_at hl 0 rfl) ?_
    refine lv_ldc hx hb (v := 65536) hown (hts _ gt3_22) dX4_addCharacters_33 ?_
    refine lv_isub hx hb dX4_addCharacters_35 ?_
    refine lv_sipush (v := 1024) hx hb dX4_addCharacters_36 (by decide) ?_
    refine lv_irem hx hb dX4_addCharacters_39 (by decide) ?_
    refine lv_iadd hx hb dX4_addCharacters_40 ?_
    obtain ⟨v3, σ4, hc, hf⟩ := bd_at hf
    refine callVV (As := [.int (56320 + ((p0 - 65536) - (p0 - 65536) / 1024 * 1024))]) (rest := []) C (mX1_add hI hc) ⟨gt3_102, gt2_51, gt2_52, gt1_6, gt2_53⟩ okX1_add ⟨Nat.le_of_ble_eq_true rfl, Nat.le_of_ble_eq_true rfl⟩ (rcvOf C hP (show (wC ad cI cF _)[8]? = some (ad 8, _) from rfl) rfl) rfl hl.1 rfl (Nat.le_of_ble_eq_true rfl) hP hS dX4_addCharacters_41 (fun H locs hP hS => ?_)
    exact MV.ret (wf := wC ad cI cF) hQ C hr hlk hf hP hS dX4_addCharacters_44
  · have hf := ite_f hf hc
    refine lv_aload_n hx hb dX4_addCharacters_6 rfl (lv_at hl 1 rfl) ?_
    refine lv_iload_n hx hb dX4_addCharacters_7 rfl (lv_at hl 0 rfl) ?_
    obtain ⟨v5, σ6, hc, hf⟩ := bd_at hf
    refine callVV (As := [.int p0]) (rest := []) C (mX1_add hI hc) ⟨gt3_102, gt2_51, gt2_52, gt1_6, gt2_53⟩ okX1_add ⟨Nat.le_of_ble_eq_true rfl, Nat.le_of_ble_eq_true rfl⟩ (rcvOf C hP (show (wC ad cI cF _)[8]? = some (ad 8, _) from rfl) rfl) rfl hl.1 rfl (Nat.le_of_ble_eq_true rfl) hP hS dX4_addCharacters_8 (fun H locs hP hS => ?_)
    refine lv_goto (tgt := 44) hx hb dX4_addCharacters_11 (by decide) ?_
    exact MV.ret (wf := wC ad cI cF) hQ C hr hlk hf hP hS dX4_addCharacters_44
def fX8_decode_b45 (j : Nat) (σ : St) (x4 : Int32) : Option (Int32 × St) := bd (fX5_count 4 σ) (fun v7 σ8 => (if x4 = v7 then bd (fX1_setNeed σ8) (fun _ σ12 => some (0, σ12)) else bd (fX1_setBad σ8 (if 1 < x4 then x4 else 1)) (fun _ σ10 => some (0, σ10))))
def fX8_decode (j : Nat) (σ : St) : Option (Int32 × St) := bd (fX5_at 4 σ 0) (fun v1 σ2 => bd (fX8_lengthBehind j σ2 v1) (fun v3 σ4 => bd (fX8_countFitting j σ4 v3) (fun v5 σ6 => (if v3 ≤ 0 then fX8_decode_b45 j σ6 v5 else (if v5 = v3 then bd (fX1_setStep σ6 v3) (fun _ σ14 => bd (fX8_codePointOf σ14 v3) (fun v15 σ16 => bd (fX4_addCharacters σ16 v15) (fun _ σ18 => some (0, σ18)))) else fX8_decode_b45 j σ6 v5)))))
set_option maxHeartbeats 4000000 in
set_option maxRecDepth 100000 in
theorem mX8_decode {l : Launch} {D : va_G} {kS vS : Nat → Nat} {ad : Nat → Nat} {cI cF : ClassId} {j : Nat} {σ σ0 : St} {r : Int32} (hI : Inj ad 18) (hj : jX8 j) (hf : fX8_decode j σ  = some (r, σ0)) : MV l D (tyC cI cF) (inA ad 18) kS vS yX8_decode cX8_decode 5 3 68 [.ref (ad j), .ref (ad 4), .ref (ad 8)] (wC ad cI cF σ) (wC ad cI cF σ0) := by
  refine MV.of (by decide) (Nat.le_of_ble_eq_true rfl) (fun p e s m args below meth c ls Q hQ C hr hlk hP hS hl => ?_)
  obtain ⟨hx, hb, hml, hown, hts, hK, hKS⟩ := id C
  have hl : lv_has ls 5 [(0, .ref (ad j)), (1, .ref (ad 4)), (2, .ref (ad 8))] := hl
  have B45 : ∀ (σ : St) (x4 : Int32) (H : Heap) (locs : List Loc) (ls : Array Slot), va_P D vwCl (wC ad cI cF σ) H → va_S (inA ad 18) s.heap H locs → lv_has ls 5 [(1, .ref (ad 4)), (2, .ref (ad 8)), (4, .int x4)] → fX8_decode_b45 j σ x4 = some (r, σ0) → W p l e (rmN 3 68) s m args below meth c H locs 0 0 Q (F0 m 45 ls []) := by
    intro σ x4 H locs ls hP hS hl hf
    unfold fX8_decode_b45 at hf
    refine lv_iload hx hb dX8_decode_45 (lv_at hl 2 rfl) ?_
    refine lv_aload_n hx hb dX8_decode_47 rfl (lv_at hl 0 rfl) ?_
    obtain ⟨v7, σ8, hc, hf⟩ := bd_at hf
    refine callVI (As := []) (rest := [.int x4]) C (mX5_count (j := 4) hI (by decide) hc) ⟨gt3_83, gt2_1, gt2_2, gt1_5, gt2_3⟩ okX5_count ⟨Nat.le_of_ble_eq_true rfl, Nat.le_of_ble_eq_true rfl⟩ (rcvOf C hP (show (wC ad cI cF _)[4]? = some (ad 4, _) from rfl) rfl) rfl hl.1 rfl (Nat.le_of_ble_eq_true rfl) hP hS dX8_decode_48 (fun H locs hP hS => ?_)
    refine lv_icmp_ne (tgt := 61) hx hb dX8_decode_51 (by decide) (fun hc => ?_) (fun hc => ?_)
    · have hf := ite_f hf hc
      refine lv_aload_n hx hb dX8_decode_61 rfl (lv_at hl 1 rfl) ?_
      refine lv_iconst (v := 1) hx hb dX8_decode_62 (by decide) ?_
      refine lv_iload hx hb dX8_decode_63 (lv_at hl 2 rfl) ?_
      refine va_mmax hx hb (hml.trans hl.1.symm) hown (hts _ gt3_104) (hts _ gt2_141) (hts _ gt1_15) (hts _ gt2_142) (Nat.le_of_ble_eq_true rfl) (Nat.le_of_ble_eq_true rfl) (Nat.zero_le _) (Nat.zero_le _) dX8_decode_65 ?_
      obtain ⟨v9, σ10, hc, hf⟩ := bd_at hf
      refine callVV (As := [.int (if 1 < x4 then x4 else 1)]) (rest := []) C (mX1_setBad hI hc) ⟨gt3_105, gt2_80, gt2_81, gt1_6, gt2_82⟩ okX1_setBad ⟨Nat.le_of_ble_eq_true rfl, Nat.le_of_ble_eq_true rfl⟩ (rcvOf C hP (show (wC ad cI cF _)[8]? = some (ad 8, _) from rfl) rfl) rfl hl.1 rfl (Nat.le_of_ble_eq_true rfl) hP hS dX8_decode_68 (fun H locs hP hS => ?_)
      exact MV.ret (wf := wC ad cI cF) hQ C hr hlk hf hP hS dX8_decode_71
    · have hf := ite_t hf hc
      refine lv_aload_n hx hb dX8_decode_54 rfl (lv_at hl 1 rfl) ?_
      obtain ⟨v11, σ12, hc, hf⟩ := bd_at hf
      refine callVV (As := []) (rest := []) C (mX1_setNeed hI hc) ⟨gt3_103, gt2_25, gt2_26, gt1_6, gt2_27⟩ okX1_setNeed ⟨Nat.le_of_ble_eq_true rfl, Nat.le_of_ble_eq_true rfl⟩ (rcvOf C hP (show (wC ad cI cF _)[8]? = some (ad 8, _) from rfl) rfl) rfl hl.1 rfl (Nat.le_of_ble_eq_true rfl) hP hS dX8_decode_55 (fun H locs hP hS => ?_)
      refine lv_goto (tgt := 71) hx hb dX8_decode_58 (by decide) ?_
      exact MV.ret (wf := wC ad cI cF) hQ C hr hlk hf hP hS dX8_decode_71
  unfold fX8_decode at hf
  refine lv_aload_n hx hb dX8_decode_0 rfl (lv_at hl 0 rfl) ?_
  refine lv_aload_n hx hb dX8_decode_1 rfl (lv_at hl 1 rfl) ?_
  refine lv_iconst (v := 0) hx hb dX8_decode_2 (by decide) ?_
  obtain ⟨v1, σ2, hc, hf⟩ := bd_at hf
  refine callVI (As := [.int 0]) (rest := [.ref (ad j)]) C (mX5_at (j := 4) hI (by decide) hc) ⟨gt3_5, gt2_39, gt2_40, gt1_5, gt2_41⟩ okX5_at ⟨Nat.le_of_ble_eq_true rfl, Nat.le_of_ble_eq_true rfl⟩ (rcvOf C hP (show (wC ad cI cF _)[4]? = some (ad 4, _) from rfl) rfl) rfl hl.1 rfl (Nat.le_of_ble_eq_true rfl) hP hS dX8_decode_3 (fun H locs hP hS => ?_)
  obtain ⟨v3, σ4, hc, hf⟩ := bd_at hf
  refine callVI (As := [.int v1]) (rest := []) C (mX8_lengthBehind (j := j) hI hj hc) ⟨gt3_75, gt3_77, gtp15, gt1_7, gt3_78⟩ okX8_lengthBehind ⟨Nat.le_of_ble_eq_true rfl, Nat.le_of_ble_eq_true rfl⟩ (rcvOf C hP (eX8 hj) rfl) rfl hl.1 rfl (Nat.le_of_ble_eq_true rfl) hP hS dX8_decode_6 (fun H locs hP hS => ?_)
  refine lv_istore_n (lv' := [(3, .int v3), (0, .ref (ad j)), (1, .ref (ad 4)), (2, .ref (ad 8))]) hx hb dX8_decode_9 rfl hl (by decide) rfl (fun ls hl => ?_)
  refine lv_aload_n hx hb dX8_decode_10 rfl (lv_at hl 1 rfl) ?_
  refine lv_aload_n hx hb dX8_decode_11 rfl (lv_at hl 2 rfl) ?_
  refine lv_iload_n hx hb dX8_decode_12 rfl (lv_at hl 0 rfl) ?_
  obtain ⟨v5, σ6, hc, hf⟩ := bd_at hf
  refine callVI (As := [.ref (ad 4), .int v3]) (rest := []) C (mX8_countFitting (j := j) hI hj hc) ⟨gt3_79, gt3_81, gtp16, gt1_7, gt3_82⟩ okX8_countFitting ⟨Nat.le_of_ble_eq_true rfl, Nat.le_of_ble_eq_true rfl⟩ (rcvOf C hP (eX8 hj) rfl) rfl hl.1 rfl (Nat.le_of_ble_eq_true rfl) hP hS dX8_decode_13 (fun H locs hP hS => ?_)
  refine lv_istore (lv' := [(4, .int v5), (3, .int v3), (0, .ref (ad j)), (1, .ref (ad 4)), (2, .ref (ad 8))]) hx hb dX8_decode_16 hl (by decide) rfl (fun ls hl => ?_)
  refine lv_iload_n hx hb dX8_decode_18 rfl (lv_at hl 1 rfl) ?_
  refine lv_if_le (tgt := 45) hx hb dX8_decode_19 (by decide) (fun hc => ?_) (fun hc => ?_)
  · have hf := ite_t hf hc
    exact B45 σ6 v5 _ _ _ hP hS (lv_sub hl [3, 4, 0] rfl) hf
  · have hf := ite_f hf hc
    refine lv_iload hx hb dX8_decode_22 (lv_at hl 0 rfl) ?_
    refine lv_iload_n hx hb dX8_decode_24 rfl (lv_at hl 1 rfl) ?_
    refine lv_icmp_ne (tgt := 45) hx hb dX8_decode_25 (by decide) (fun hc => ?_) (fun hc => ?_)
    · have hf := ite_f hf hc
      exact B45 σ6 v5 _ _ _ hP hS (lv_sub hl [3, 4, 0] rfl) hf
    · have hf := ite_t hf hc
      refine lv_aload_n hx hb dX8_decode_28 rfl (lv_at hl 4 rfl) ?_
      refine lv_iload_n hx hb dX8_decode_29 rfl (lv_at hl 1 rfl) ?_
      obtain ⟨v13, σ14, hc, hf⟩ := bd_at hf
      refine callVV (As := [.int v3]) (rest := []) C (mX1_setStep hI hc) ⟨gt3_7, gt2_47, gt2_48, gt1_6, gt2_49⟩ okX1_setStep ⟨Nat.le_of_ble_eq_true rfl, Nat.le_of_ble_eq_true rfl⟩ (rcvOf C hP (show (wC ad cI cF _)[8]? = some (ad 8, _) from rfl) rfl) rfl hl.1 rfl (Nat.le_of_ble_eq_true rfl) hP hS dX8_decode_30 (fun H locs hP hS => ?_)
      refine lv_aload_n hx hb dX8_decode_33 rfl (lv_at hl 3 rfl) ?_
      refine lv_iload_n hx hb dX8_decode_34 rfl (lv_at hl 1 rfl) ?_
      obtain ⟨v15, σ16, hc, hf⟩ := bd_at hf
      refine callSI (As := [.ref (ad 4), .int v3]) (rest := []) C (mX8_codePointOf hI hc) ⟨gt3_96, gt3_97, gt1_7, gt3_98⟩ okX8_codePointOf ⟨Nat.le_of_ble_eq_true rfl, Nat.le_of_ble_eq_true rfl⟩ rfl hl.1 rfl (Nat.le_of_ble_eq_true rfl) hP hS dX8_decode_35 (fun H locs hP hS => ?_)
      refine lv_aload_n hx hb dX8_decode_38 rfl (lv_at hl 4 rfl) ?_
      obtain ⟨v17, σ18, hc, hf⟩ := bd_at hf
      refine callSV (As := [.int v15, .ref (ad 8)]) (rest := []) C (mX4_addCharacters hI hc) ⟨gt3_99, gt3_100, gt1_12, gt3_101⟩ okX4_addCharacters ⟨Nat.le_of_ble_eq_true rfl, Nat.le_of_ble_eq_true rfl⟩ rfl hl.1 rfl (Nat.le_of_ble_eq_true rfl) hP hS dX8_decode_39 (fun H locs hP hS => ?_)
      refine lv_goto (tgt := 71) hx hb dX8_decode_42 (by decide) ?_
      exact MV.ret (wf := wC ad cI cF) hQ C hr hlk hf hP hS dX8_decode_71
def fX6_characterAt (j : Nat) (σ : St) (p2 : Int32) : Option (Int32 × St) := bd (fX5_at 4 σ p2) (fun v1 σ2 => bd (fX5_at 4 σ2 (p2 + 1)) (fun v3 σ4 => (if (σ4 j 3) = 0 then some ((v1 * 256) + v3, σ4) else some ((v3 * 256) + v1, σ4))))
set_option maxHeartbeats 4000000 in
set_option maxRecDepth 100000 in
theorem mX6_characterAt {l : Launch} {D : va_G} {kS vS : Nat → Nat} {ad : Nat → Nat} {cI cF : ClassId} {j : Nat} {σ σ0 : St} {p2 : Int32} {r : Int32} (hI : Inj ad 18) (hj : jX6 j) (hf : fX6_characterAt j σ p2 = some (r, σ0)) : MI l D (tyC cI cF) (inA ad 18) kS vS yX6_characterAt cX6_characterAt 5 .int 1 21 [.ref (ad j), .ref (ad 4), .int p2] (wC ad cI cF σ) (wC ad cI cF σ0) r := by
  refine MI.of (by decide) (Nat.le_of_ble_eq_true rfl) (fun p e s m args below meth c ls Q hQ C hr hlk hP hS hl => ?_)
  obtain ⟨hx, hb, hml, hown, hts, hK, hKS⟩ := id C
  have hl : lv_has ls 5 [(0, .ref (ad j)), (1, .ref (ad 4)), (2, .int p2)] := hl
  unfold fX6_characterAt at hf
  refine lv_aload_n hx hb dX6_characterAt_0 rfl (lv_at hl 1 rfl) ?_
  refine lv_iload_n hx hb dX6_characterAt_1 rfl (lv_at hl 2 rfl) ?_
  obtain ⟨v1, σ2, hc, hf⟩ := bd_at hf
  refine callVI (As := [.int p2]) (rest := []) C (mX5_at (j := 4) hI (by decide) hc) ⟨gt2_86, gt2_39, gt2_40, gt1_5, gt2_41⟩ okX5_at ⟨Nat.le_of_ble_eq_true rfl, Nat.le_of_ble_eq_true rfl⟩ (rcvOf C hP (show (wC ad cI cF _)[4]? = some (ad 4, _) from rfl) rfl) rfl hl.1 rfl (Nat.le_of_ble_eq_true rfl) hP hS dX6_characterAt_2 (fun H locs hP hS => ?_)
  refine lv_istore_n (lv' := [(3, .int v1), (0, .ref (ad j)), (1, .ref (ad 4)), (2, .int p2)]) hx hb dX6_characterAt_5 rfl hl (by decide) rfl (fun ls hl => ?_)
  refine lv_aload_n hx hb dX6_characterAt_6 rfl (lv_at hl 2 rfl) ?_
  refine lv_iload_n hx hb dX6_characterAt_7 rfl (lv_at hl 3 rfl) ?_
  refine lv_iconst (v := 1) hx hb dX6_characterAt_8 (by decide) ?_
  refine lv_iadd hx hb dX6_characterAt_9 ?_
  obtain ⟨v3, σ4, hc, hf⟩ := bd_at hf
  refine callVI (As := [.int (p2 + 1)]) (rest := []) C (mX5_at (j := 4) hI (by decide) hc) ⟨gt2_86, gt2_39, gt2_40, gt1_5, gt2_41⟩ okX5_at ⟨Nat.le_of_ble_eq_true rfl, Nat.le_of_ble_eq_true rfl⟩ (rcvOf C hP (show (wC ad cI cF _)[4]? = some (ad 4, _) from rfl) rfl) rfl hl.1 rfl (Nat.le_of_ble_eq_true rfl) hP hS dX6_characterAt_10 (fun H locs hP hS => ?_)
  refine lv_istore (lv' := [(4, .int v3), (3, .int v1), (0, .ref (ad j)), (1, .ref (ad 4)), (2, .int p2)]) hx hb dX6_characterAt_13 hl (by decide) rfl (fun ls hl => ?_)
  refine lv_aload_n hx hb dX6_characterAt_15 rfl (lv_at hl 2 rfl) ?_
  refine GX6_3 C hP hj gt1_101 dX6_characterAt_16 ?_
  refine lv_if_eq (tgt := 33) hx hb dX6_characterAt_19 (by decide) (fun hc => ?_) (fun hc => ?_)
  · have hf := ite_t hf hc
    refine lv_iload_n hx hb dX6_characterAt_33 rfl (lv_at hl 1 rfl) ?_
    refine lv_sipush (v := 256) hx hb dX6_characterAt_34 (by decide) ?_
    refine lv_imul hx hb dX6_characterAt_37 ?_
    refine lv_iload hx hb dX6_characterAt_38 (lv_at hl 0 rfl) ?_
    refine lv_iadd hx hb dX6_characterAt_40 ?_
    exact MI.ret (wf := wC ad cI cF) hQ C hr hlk rfl hf hP hS dX6_characterAt_41
  · have hf := ite_f hf hc
    refine lv_iload hx hb dX6_characterAt_22 (lv_at hl 0 rfl) ?_
    refine lv_sipush (v := 256) hx hb dX6_characterAt_24 (by decide) ?_
    refine lv_imul hx hb dX6_characterAt_27 ?_
    refine lv_iload_n hx hb dX6_characterAt_28 rfl (lv_at hl 1 rfl) ?_
    refine lv_iadd hx hb dX6_characterAt_29 ?_
    refine lv_goto (tgt := 41) hx hb dX6_characterAt_30 (by decide) ?_
    exact MI.ret (wf := wC ad cI cF) hQ C hr hlk rfl hf hP hS dX6_characterAt_41
def fX4_isEither (σ : St) (p0 : Int32) : Option (Int32 × St) := (if p0 < 55296 then some (0, σ) else (if 57343 < p0 then some (0, σ) else some (1, σ)))
set_option maxHeartbeats 4000000 in
set_option maxRecDepth 100000 in
theorem mX4_isEither {l : Launch} {D : va_G} {kS vS : Nat → Nat} {ad : Nat → Nat} {cI cF : ClassId} {σ σ0 : St} {p0 : Int32} {r : Int32} (hI : Inj ad 18) (hf : fX4_isEither σ p0 = some (r, σ0)) : MI l D (tyC cI cF) (inA ad 18) kS vS yX4_isEither cX4_isEither 1 .boolean 0 0 [.int p0] (wC ad cI cF σ) (wC ad cI cF σ0) r := by
  refine MI.of (by decide) (Nat.le_of_ble_eq_true rfl) (fun p e s m args below meth c ls Q hQ C hr hlk hP hS hl => ?_)
  obtain ⟨hx, hb, hml, hown, hts, hK, hKS⟩ := id C
  have hl : lv_has ls 1 [(0, .int p0)] := hl
  unfold fX4_isEither at hf
  refine lv_iload_n hx hb dX4_isEither_0 rfl (lv_at hl 0 rfl) ?_
  refine lv_ldc hx hb (v := 55296) hown (hts _ gt2_60) dX4_isEither_1 ?_
  refine lv_icmp_lt (tgt := 16) hx hb dX4_isEither_3 (by decide) (fun hc => ?_) (fun hc => ?_)
  · have hf := ite_t hf hc
    refine lv_iconst (v := 0) hx hb dX4_isEither_16 (by decide) ?_
    exact MI.ret (wf := wC ad cI cF) hQ C hr hlk rfl hf hP hS dX4_isEither_17
  · have hf := ite_f hf hc
    refine lv_iload_n hx hb dX4_isEither_6 rfl (lv_at hl 0 rfl) ?_
    refine lv_ldc hx hb (v := 57343) hown (hts _ gt2_65) dX4_isEither_7 ?_
    refine lv_icmp_gt (tgt := 16) hx hb dX4_isEither_9 (by decide) (fun hc => ?_) (fun hc => ?_)
    · have hf := ite_t hf hc
      refine lv_iconst (v := 0) hx hb dX4_isEither_16 (by decide) ?_
      exact MI.ret (wf := wC ad cI cF) hQ C hr hlk rfl hf hP hS dX4_isEither_17
    · have hf := ite_f hf hc
      refine lv_iconst (v := 1) hx hb dX4_isEither_12 (by decide) ?_
      refine lv_goto (tgt := 17) hx hb dX4_isEither_13 (by decide) ?_
      exact MI.ret (wf := wC ad cI cF) hQ C hr hlk rfl hf hP hS dX4_isEither_17
def fX4_isLow (σ : St) (p0 : Int32) : Option (Int32 × St) := (if p0 < 56320 then some (0, σ) else (if 57343 < p0 then some (0, σ) else some (1, σ)))
set_option maxHeartbeats 4000000 in
set_option maxRecDepth 100000 in
theorem mX4_isLow {l : Launch} {D : va_G} {kS vS : Nat → Nat} {ad : Nat → Nat} {cI cF : ClassId} {σ σ0 : St} {p0 : Int32} {r : Int32} (hI : Inj ad 18) (hf : fX4_isLow σ p0 = some (r, σ0)) : MI l D (tyC cI cF) (inA ad 18) kS vS yX4_isLow cX4_isLow 1 .boolean 0 0 [.int p0] (wC ad cI cF σ) (wC ad cI cF σ0) r := by
  refine MI.of (by decide) (Nat.le_of_ble_eq_true rfl) (fun p e s m args below meth c ls Q hQ C hr hlk hP hS hl => ?_)
  obtain ⟨hx, hb, hml, hown, hts, hK, hKS⟩ := id C
  have hl : lv_has ls 1 [(0, .int p0)] := hl
  unfold fX4_isLow at hf
  refine lv_iload_n hx hb dX4_isLow_0 rfl (lv_at hl 0 rfl) ?_
  refine lv_ldc hx hb (v := 56320) hown (hts _ gt2_61) dX4_isLow_1 ?_
  refine lv_icmp_lt (tgt := 16) hx hb dX4_isLow_3 (by decide) (fun hc => ?_) (fun hc => ?_)
  · have hf := ite_t hf hc
    refine lv_iconst (v := 0) hx hb dX4_isLow_16 (by decide) ?_
    exact MI.ret (wf := wC ad cI cF) hQ C hr hlk rfl hf hP hS dX4_isLow_17
  · have hf := ite_f hf hc
    refine lv_iload_n hx hb dX4_isLow_6 rfl (lv_at hl 0 rfl) ?_
    refine lv_ldc hx hb (v := 57343) hown (hts _ gt2_65) dX4_isLow_7 ?_
    refine lv_icmp_gt (tgt := 16) hx hb dX4_isLow_9 (by decide) (fun hc => ?_) (fun hc => ?_)
    · have hf := ite_t hf hc
      refine lv_iconst (v := 0) hx hb dX4_isLow_16 (by decide) ?_
      exact MI.ret (wf := wC ad cI cF) hQ C hr hlk rfl hf hP hS dX4_isLow_17
    · have hf := ite_f hf hc
      refine lv_iconst (v := 1) hx hb dX4_isLow_12 (by decide) ?_
      refine lv_goto (tgt := 17) hx hb dX4_isLow_13 (by decide) ?_
      exact MI.ret (wf := wC ad cI cF) hQ C hr hlk rfl hf hP hS dX4_isLow_17
def fX6_decodeCharacter (j : Nat) (σ : St) : Option (Int32 × St) := bd (fX6_characterAt j σ 0) (fun v1 σ2 => bd (fX4_isEither σ2 v1) (fun v3 σ4 => (if v3 = 0 then bd (fX1_setStep σ4 2) (fun _ σ28 => bd (fX1_add σ28 v1) (fun _ σ30 => some (0, σ30))) else bd (fX4_isLow σ4 v1) (fun v5 σ6 => (if v5 = 0 then bd (fX5_count 4 σ6) (fun v7 σ8 => (if 4 ≤ v7 then bd (fX6_characterAt j σ8 2) (fun v9 σ10 => bd (fX4_isLow σ10 v9) (fun v11 σ12 => (if v11 = 0 then bd (fX1_setBad σ12 2) (fun _ σ14 => some (0, σ14)) else bd (fX1_setStep σ12 4) (fun _ σ16 => bd (fX1_add σ16 v1) (fun _ σ18 => bd (fX6_characterAt j σ18 2) (fun v19 σ20 => bd (fX1_add σ20 v19) (fun _ σ22 => some (0, σ22)))))))) else bd (fX1_setNeed σ8) (fun _ σ24 => some (0, σ24)))) else bd (fX1_setBad σ6 2) (fun _ σ26 => some (0, σ26)))))))
set_option maxHeartbeats 4000000 in
set_option maxRecDepth 100000 in
theorem mX6_decodeCharacter {l : Launch} {D : va_G} {kS vS : Nat → Nat} {ad : Nat → Nat} {cI cF : ClassId} {j : Nat} {σ σ0 : St} {r : Int32} (hI : Inj ad 18) (hj : jX6 j) (hf : fX6_decodeCharacter j σ  = some (r, σ0)) : MV l D (tyC cI cF) (inA ad 18) kS vS yX6_decodeCharacter cX6_decodeCharacter 4 2 45 [.ref (ad j), .ref (ad 4), .ref (ad 8)] (wC ad cI cF σ) (wC ad cI cF σ0) := by
  refine MV.of (by decide) (Nat.le_of_ble_eq_true rfl) (fun p e s m args below meth c ls Q hQ C hr hlk hP hS hl => ?_)
  obtain ⟨hx, hb, hml, hown, hts, hK, hKS⟩ := id C
  have hl : lv_has ls 4 [(0, .ref (ad j)), (1, .ref (ad 4)), (2, .ref (ad 8))] := hl
  unfold fX6_decodeCharacter at hf
  refine lv_aload_n hx hb dX6_decodeCharacter_0 rfl (lv_at hl 0 rfl) ?_
  refine lv_aload_n hx hb dX6_decodeCharacter_1 rfl (lv_at hl 1 rfl) ?_
  refine lv_iconst (v := 0) hx hb dX6_decodeCharacter_2 (by decide) ?_
  obtain ⟨v1, σ2, hc, hf⟩ := bd_at hf
  refine callVI (As := [.ref (ad 4), .int 0]) (rest := []) C (mX6_characterAt (j := j) hI hj hc) ⟨gt3_46, gt3_48, gtp11, gt1_8, gt3_49⟩ okX6_characterAt ⟨Nat.le_of_ble_eq_true rfl, Nat.le_of_ble_eq_true rfl⟩ (rcvOf C hP (eX6 hj) rfl) rfl hl.1 rfl (Nat.le_of_ble_eq_true rfl) hP hS dX6_decodeCharacter_3 (fun H locs hP hS => ?_)
  refine lv_istore_n (lv' := [(3, .int v1), (0, .ref (ad j)), (1, .ref (ad 4)), (2, .ref (ad 8))]) hx hb dX6_decodeCharacter_6 rfl hl (by decide) rfl (fun ls hl => ?_)
  refine lv_iload_n hx hb dX6_decodeCharacter_7 rfl (lv_at hl 0 rfl) ?_
  obtain ⟨v3, σ4, hc, hf⟩ := bd_at hf
  refine callSI (As := [.int v1]) (rest := []) C (mX4_isEither hI hc) ⟨gt2_89, gt2_71, gt1_12, gt2_72⟩ okX4_isEither ⟨Nat.le_of_ble_eq_true rfl, Nat.le_of_ble_eq_true rfl⟩ rfl hl.1 rfl (Nat.le_of_ble_eq_true rfl) hP hS dX6_decodeCharacter_8 (fun H locs hP hS => ?_)
  refine lv_if_ne (tgt := 27) hx hb dX6_decodeCharacter_11 (by decide) (fun hc => ?_) (fun hc => ?_)
  · have hf := ite_f hf hc
    refine lv_iload_n hx hb dX6_decodeCharacter_27 rfl (lv_at hl 0 rfl) ?_
    obtain ⟨v5, σ6, hc, hf⟩ := bd_at hf
    refine callSI (As := [.int v1]) (rest := []) C (mX4_isLow hI hc) ⟨gt3_50, gt2_63, gt1_12, gt2_64⟩ okX4_isLow ⟨Nat.le_of_ble_eq_true rfl, Nat.le_of_ble_eq_true rfl⟩ rfl hl.1 rfl (Nat.le_of_ble_eq_true rfl) hP hS dX6_decodeCharacter_28 (fun H locs hP hS => ?_)
    refine lv_if_eq (tgt := 42) hx hb dX6_decodeCharacter_31 (by decide) (fun hc => ?_) (fun hc => ?_)
    · have hf := ite_t hf hc
      refine lv_aload_n hx hb dX6_decodeCharacter_42 rfl (lv_at hl 2 rfl) ?_
      obtain ⟨v7, σ8, hc, hf⟩ := bd_at hf
      refine callVI (As := []) (rest := []) C (mX5_count (j := 4) hI (by decide) hc) ⟨gt3_37, gt2_1, gt2_2, gt1_5, gt2_3⟩ okX5_count ⟨Nat.le_of_ble_eq_true rfl, Nat.le_of_ble_eq_true rfl⟩ (rcvOf C hP (show (wC ad cI cF _)[4]? = some (ad 4, _) from rfl) rfl) rfl hl.1 rfl (Nat.le_of_ble_eq_true rfl) hP hS dX6_decodeCharacter_43 (fun H locs hP hS => ?_)
      refine lv_iconst (v := 4) hx hb dX6_decodeCharacter_46 (by decide) ?_
      refine lv_icmp_ge (tgt := 57) hx hb dX6_decodeCharacter_47 (by decide) (fun hc => ?_) (fun hc => ?_)
      · have hf := ite_t hf hc
        refine lv_aload_n hx hb dX6_decodeCharacter_57 rfl (lv_at hl 1 rfl) ?_
        refine lv_aload_n hx hb dX6_decodeCharacter_58 rfl (lv_at hl 2 rfl) ?_
        refine lv_iconst (v := 2) hx hb dX6_decodeCharacter_59 (by decide) ?_
        obtain ⟨v9, σ10, hc, hf⟩ := bd_at hf
        refine callVI (As := [.ref (ad 4), .int 2]) (rest := []) C (mX6_characterAt (j := j) hI hj hc) ⟨gt3_46, gt3_48, gtp11, gt1_8, gt3_49⟩ okX6_characterAt ⟨Nat.le_of_ble_eq_true rfl, Nat.le_of_ble_eq_true rfl⟩ (rcvOf C hP (eX6 hj) rfl) rfl hl.1 rfl (Nat.le_of_ble_eq_true rfl) hP hS dX6_decodeCharacter_60 (fun H locs hP hS => ?_)
        obtain ⟨v11, σ12, hc, hf⟩ := bd_at hf
        refine callSI (As := [.int v9]) (rest := []) C (mX4_isLow hI hc) ⟨gt3_50, gt2_63, gt1_12, gt2_64⟩ okX4_isLow ⟨Nat.le_of_ble_eq_true rfl, Nat.le_of_ble_eq_true rfl⟩ rfl hl.1 rfl (Nat.le_of_ble_eq_true rfl) hP hS dX6_decodeCharacter_63 (fun H locs hP hS => ?_)
        refine lv_if_eq (tgt := 92) hx hb dX6_decodeCharacter_66 (by decide) (fun hc => ?_) (fun hc => ?_)
        · have hf := ite_t hf hc
          refine lv_aload_n hx hb dX6_decodeCharacter_92 rfl (lv_at hl 3 rfl) ?_
          refine lv_iconst (v := 2) hx hb dX6_decodeCharacter_93 (by decide) ?_
          obtain ⟨v13, σ14, hc, hf⟩ := bd_at hf
          refine callVV (As := [.int 2]) (rest := []) C (mX1_setBad hI hc) ⟨gt3_51, gt2_80, gt2_81, gt1_6, gt2_82⟩ okX1_setBad ⟨Nat.le_of_ble_eq_true rfl, Nat.le_of_ble_eq_true rfl⟩ (rcvOf C hP (show (wC ad cI cF _)[8]? = some (ad 8, _) from rfl) rfl) rfl hl.1 rfl (Nat.le_of_ble_eq_true rfl) hP hS dX6_decodeCharacter_94 (fun H locs hP hS => ?_)
          exact MV.ret (wf := wC ad cI cF) hQ C hr hlk hf hP hS dX6_decodeCharacter_97
        · have hf := ite_f hf hc
          refine lv_aload_n hx hb dX6_decodeCharacter_69 rfl (lv_at hl 3 rfl) ?_
          refine lv_iconst (v := 4) hx hb dX6_decodeCharacter_70 (by decide) ?_
          obtain ⟨v15, σ16, hc, hf⟩ := bd_at hf
          refine callVV (As := [.int 4]) (rest := []) C (mX1_setStep hI hc) ⟨gt2_87, gt2_47, gt2_48, gt1_6, gt2_49⟩ okX1_setStep ⟨Nat.le_of_ble_eq_true rfl, Nat.le_of_ble_eq_true rfl⟩ (rcvOf C hP (show (wC ad cI cF _)[8]? = some (ad 8, _) from rfl) rfl) rfl hl.1 rfl (Nat.le_of_ble_eq_true rfl) hP hS dX6_decodeCharacter_71 (fun H locs hP hS => ?_)
          refine lv_aload_n hx hb dX6_decodeCharacter_74 rfl (lv_at hl 3 rfl) ?_
          refine lv_iload_n hx hb dX6_decodeCharacter_75 rfl (lv_at hl 0 rfl) ?_
          obtain ⟨v17, σ18, hc, hf⟩ := bd_at hf
          refine callVV (As := [.int v1]) (rest := []) C (mX1_add hI hc) ⟨gt2_88, gt2_51, gt2_52, gt1_6, gt2_53⟩ okX1_add ⟨Nat.le_of_ble_eq_true rfl, Nat.le_of_ble_eq_true rfl⟩ (rcvOf C hP (show (wC ad cI cF _)[8]? = some (ad 8, _) from rfl) rfl) rfl hl.1 rfl (Nat.le_of_ble_eq_true rfl) hP hS dX6_decodeCharacter_76 (fun H locs hP hS => ?_)
          refine lv_aload_n hx hb dX6_decodeCharacter_79 rfl (lv_at hl 3 rfl) ?_
          refine lv_aload_n hx hb dX6_decodeCharacter_80 rfl (lv_at hl 1 rfl) ?_
          refine lv_aload_n hx hb dX6_decodeCharacter_81 rfl (lv_at hl 2 rfl) ?_
          refine lv_iconst (v := 2) hx hb dX6_decodeCharacter_82 (by decide) ?_
          obtain ⟨v19, σ20, hc, hf⟩ := bd_at hf
          refine callVI (As := [.ref (ad 4), .int 2]) (rest := [.ref (ad 8)]) C (mX6_characterAt (j := j) hI hj hc) ⟨gt3_46, gt3_48, gtp11, gt1_8, gt3_49⟩ okX6_characterAt ⟨Nat.le_of_ble_eq_true rfl, Nat.le_of_ble_eq_true rfl⟩ (rcvOf C hP (eX6 hj) rfl) rfl hl.1 rfl (Nat.le_of_ble_eq_true rfl) hP hS dX6_decodeCharacter_83 (fun H locs hP hS => ?_)
          obtain ⟨v21, σ22, hc, hf⟩ := bd_at hf
          refine callVV (As := [.int v19]) (rest := []) C (mX1_add hI hc) ⟨gt2_88, gt2_51, gt2_52, gt1_6, gt2_53⟩ okX1_add ⟨Nat.le_of_ble_eq_true rfl, Nat.le_of_ble_eq_true rfl⟩ (rcvOf C hP (show (wC ad cI cF _)[8]? = some (ad 8, _) from rfl) rfl) rfl hl.1 rfl (Nat.le_of_ble_eq_true rfl) hP hS dX6_decodeCharacter_86 (fun H locs hP hS => ?_)
          refine lv_goto (tgt := 97) hx hb dX6_decodeCharacter_89 (by decide) ?_
          exact MV.ret (wf := wC ad cI cF) hQ C hr hlk hf hP hS dX6_decodeCharacter_97
      · have hf := ite_f hf hc
        refine lv_aload_n hx hb dX6_decodeCharacter_50 rfl (lv_at hl 3 rfl) ?_
        obtain ⟨v23, σ24, hc, hf⟩ := bd_at hf
        refine callVV (As := []) (rest := []) C (mX1_setNeed hI hc) ⟨gt3_38, gt2_25, gt2_26, gt1_6, gt2_27⟩ okX1_setNeed ⟨Nat.le_of_ble_eq_true rfl, Nat.le_of_ble_eq_true rfl⟩ (rcvOf C hP (show (wC ad cI cF _)[8]? = some (ad 8, _) from rfl) rfl) rfl hl.1 rfl (Nat.le_of_ble_eq_true rfl) hP hS dX6_decodeCharacter_51 (fun H locs hP hS => ?_)
        refine lv_goto (tgt := 97) hx hb dX6_decodeCharacter_54 (by decide) ?_
        exact MV.ret (wf := wC ad cI cF) hQ C hr hlk hf hP hS dX6_decodeCharacter_97
    · have hf := ite_f hf hc
      refine lv_aload_n hx hb dX6_decodeCharacter_34 rfl (lv_at hl 3 rfl) ?_
      refine lv_iconst (v := 2) hx hb dX6_decodeCharacter_35 (by decide) ?_
      obtain ⟨v25, σ26, hc, hf⟩ := bd_at hf
      refine callVV (As := [.int 2]) (rest := []) C (mX1_setBad hI hc) ⟨gt3_51, gt2_80, gt2_81, gt1_6, gt2_82⟩ okX1_setBad ⟨Nat.le_of_ble_eq_true rfl, Nat.le_of_ble_eq_true rfl⟩ (rcvOf C hP (show (wC ad cI cF _)[8]? = some (ad 8, _) from rfl) rfl) rfl hl.1 rfl (Nat.le_of_ble_eq_true rfl) hP hS dX6_decodeCharacter_36 (fun H locs hP hS => ?_)
      refine lv_goto (tgt := 97) hx hb dX6_decodeCharacter_39 (by decide) ?_
      exact MV.ret (wf := wC ad cI cF) hQ C hr hlk hf hP hS dX6_decodeCharacter_97
  · have hf := ite_t hf hc
    refine lv_aload_n hx hb dX6_decodeCharacter_14 rfl (lv_at hl 3 rfl) ?_
    refine lv_iconst (v := 2) hx hb dX6_decodeCharacter_15 (by decide) ?_
    obtain ⟨v27, σ28, hc, hf⟩ := bd_at hf
    refine callVV (As := [.int 2]) (rest := []) C (mX1_setStep hI hc) ⟨gt2_87, gt2_47, gt2_48, gt1_6, gt2_49⟩ okX1_setStep ⟨Nat.le_of_ble_eq_true rfl, Nat.le_of_ble_eq_true rfl⟩ (rcvOf C hP (show (wC ad cI cF _)[8]? = some (ad 8, _) from rfl) rfl) rfl hl.1 rfl (Nat.le_of_ble_eq_true rfl) hP hS dX6_decodeCharacter_16 (fun H locs hP hS => ?_)
    refine lv_aload_n hx hb dX6_decodeCharacter_19 rfl (lv_at hl 3 rfl) ?_
    refine lv_iload_n hx hb dX6_decodeCharacter_20 rfl (lv_at hl 0 rfl) ?_
    obtain ⟨v29, σ30, hc, hf⟩ := bd_at hf
    refine callVV (As := [.int v1]) (rest := []) C (mX1_add hI hc) ⟨gt2_88, gt2_51, gt2_52, gt1_6, gt2_53⟩ okX1_add ⟨Nat.le_of_ble_eq_true rfl, Nat.le_of_ble_eq_true rfl⟩ (rcvOf C hP (show (wC ad cI cF _)[8]? = some (ad 8, _) from rfl) rfl) rfl hl.1 rfl (Nat.le_of_ble_eq_true rfl) hP hS dX6_decodeCharacter_21 (fun H locs hP hS => ?_)
    refine lv_goto (tgt := 97) hx hb dX6_decodeCharacter_24 (by decide) ?_
    exact MV.ret (wf := wC ad cI cF) hQ C hr hlk hf hP hS dX6_decodeCharacter_97
def fX6_isMark_b14 (σ : St) (x0 x1 : Int32) : Option (Int32 × St) := (if x0 = 255 then (if x1 = 254 then some (1, σ) else some (0, σ)) else some (0, σ))
def fX6_isMark (σ : St) (p0 p1 : Int32) : Option (Int32 × St) := (if p0 = 254 then (if p1 = 255 then some (1, σ) else fX6_isMark_b14 σ p0 p1) else fX6_isMark_b14 σ p0 p1)
set_option maxHeartbeats 4000000 in
set_option maxRecDepth 100000 in
theorem mX6_isMark {l : Launch} {D : va_G} {kS vS : Nat → Nat} {ad : Nat → Nat} {cI cF : ClassId} {σ σ0 : St} {p0 p1 : Int32} {r : Int32} (hI : Inj ad 18) (hf : fX6_isMark σ p0 p1 = some (r, σ0)) : MI l D (tyC cI cF) (inA ad 18) kS vS yX6_isMark cX6_isMark 2 .boolean 0 0 [.int p0, .int p1] (wC ad cI cF σ) (wC ad cI cF σ0) r := by
  refine MI.of (by decide) (Nat.le_of_ble_eq_true rfl) (fun p e s m args below meth c ls Q hQ C hr hlk hP hS hl => ?_)
  obtain ⟨hx, hb, hml, hown, hts, hK, hKS⟩ := id C
  have hl : lv_has ls 2 [(0, .int p0), (1, .int p1)] := hl
  have B14 : ∀ (σ : St) (x0 x1 : Int32) (H : Heap) (locs : List Loc) (ls : Array Slot), va_P D vwCl (wC ad cI cF σ) H → va_S (inA ad 18) s.heap H locs → lv_has ls 2 [(0, .int x0), (1, .int x1)] → fX6_isMark_b14 σ x0 x1 = some (r, σ0) → W p l e (rmN 0 0) s m args below meth c H locs 0 0 Q (F0 m 14 ls []) := by
    intro σ x0 x1 H locs ls hP hS hl hf
    unfold fX6_isMark_b14 at hf
    refine lv_iload_n hx hb dX6_isMark_14 rfl (lv_at hl 0 rfl) ?_
    refine lv_sipush (v := 255) hx hb dX6_isMark_15 (by decide) ?_
    refine lv_icmp_ne (tgt := 32) hx hb dX6_isMark_18 (by decide) (fun hc => ?_) (fun hc => ?_)
    · have hf := ite_f hf hc
      refine lv_iconst (v := 0) hx hb dX6_isMark_32 (by decide) ?_
      exact MI.ret (wf := wC ad cI cF) hQ C hr hlk rfl hf hP hS dX6_isMark_33
    · have hf := ite_t hf hc
      refine lv_iload_n hx hb dX6_isMark_21 rfl (lv_at hl 1 rfl) ?_
      refine lv_sipush (v := 254) hx hb dX6_isMark_22 (by decide) ?_
      refine lv_icmp_ne (tgt := 32) hx hb dX6_isMark_25 (by decide) (fun hc => ?_) (fun hc => ?_)
      · have hf := ite_f hf hc
        refine lv_iconst (v := 0) hx hb dX6_isMark_32 (by decide) ?_
        exact MI.ret (wf := wC ad cI cF) hQ C hr hlk rfl hf hP hS dX6_isMark_33
      · have hf := ite_t hf hc
        refine lv_iconst (v := 1) hx hb dX6_isMark_28 (by decide) ?_
        refine lv_goto (tgt := 33) hx hb dX6_isMark_29 (by decide) ?_
        exact MI.ret (wf := wC ad cI cF) hQ C hr hlk rfl hf hP hS dX6_isMark_33
  unfold fX6_isMark at hf
  refine lv_iload_n hx hb dX6_isMark_0 rfl (lv_at hl 0 rfl) ?_
  refine lv_sipush (v := 254) hx hb dX6_isMark_1 (by decide) ?_
  refine lv_icmp_ne (tgt := 14) hx hb dX6_isMark_4 (by decide) (fun hc => ?_) (fun hc => ?_)
  · have hf := ite_f hf hc
    exact B14 σ p0 p1 _ _ _ hP hS (lv_sub hl [0, 1] rfl) hf
  · have hf := ite_t hf hc
    refine lv_iload_n hx hb dX6_isMark_7 rfl (lv_at hl 1 rfl) ?_
    refine lv_sipush (v := 255) hx hb dX6_isMark_8 (by decide) ?_
    refine lv_icmp_eq (tgt := 28) hx hb dX6_isMark_11 (by decide) (fun hc => ?_) (fun hc => ?_)
    · have hf := ite_t hf hc
      refine lv_iconst (v := 1) hx hb dX6_isMark_28 (by decide) ?_
      refine lv_goto (tgt := 33) hx hb dX6_isMark_29 (by decide) ?_
      exact MI.ret (wf := wC ad cI cF) hQ C hr hlk rfl hf hP hS dX6_isMark_33
    · have hf := ite_f hf hc
      exact B14 σ p0 p1 _ _ _ hP hS (lv_sub hl [0, 1] rfl) hf
def fX6_decode (j : Nat) (σ : St) : Option (Int32 × St) := zk (σ j 3) (nm (up σ j 4 (σ j 3)) (fun σ1 => bd (fX5_count 4 σ1) (fun v2 σ3 => (if 2 ≤ v2 then (if (σ3 j 0) = 0 then bd (fX6_decodeCharacter j σ3) (fun _ σ5 => some (0, σ5)) else (if (σ3 j 2) = 0 then bd (fX6_decodeCharacter j σ3) (fun _ σ7 => some (0, σ7)) else bd (fX5_at 4 σ3 0) (fun v8 σ9 => bd (fX5_at 4 σ9 1) (fun v10 σ11 => bd (fX6_isMark σ11 v8 v10) (fun v12 σ13 => (if v12 = 0 then bd (fX6_decodeCharacter j σ13) (fun _ σ15 => some (0, σ15)) else bd (fX1_setStep σ13 2) (fun _ σ17 => bd (fX5_at 4 σ17 0) (fun v18 σ19 => (if v18 = 255 then nm (up σ19 j 4 1) (fun σ21 => some (0, σ21)) else nm (up σ19 j 4 0) (fun σ20 => some (0, σ20))))))))))) else bd (fX1_setNeed σ3) (fun _ σ23 => some (0, σ23))))))
set_option maxHeartbeats 4000000 in
set_option maxRecDepth 100000 in
theorem mX6_decode {l : Launch} {D : va_G} {kS vS : Nat → Nat} {ad : Nat → Nat} {cI cF : ClassId} {j : Nat} {σ σ0 : St} {r : Int32} (hI : Inj ad 18) (hj : jX6 j) (hf : fX6_decode j σ  = some (r, σ0)) : MV l D (tyC cI cF) (inA ad 18) kS vS yX6_decode cX6_decode 3 3 68 [.ref (ad j), .ref (ad 4), .ref (ad 8)] (wC ad cI cF σ) (wC ad cI cF σ0) := by
  refine MV.of (by decide) (Nat.le_of_ble_eq_true rfl) (fun p e s m args below meth c ls Q hQ C hr hlk hP hS hl => ?_)
  obtain ⟨hx, hb, hml, hown, hts, hK, hKS⟩ := id C
  have hl : lv_has ls 3 [(0, .ref (ad j)), (1, .ref (ad 4)), (2, .ref (ad 8))] := hl
  unfold fX6_decode at hf
  refine lv_aload_n hx hb dX6_decode_0 rfl (lv_at hl 0 rfl) ?_
  refine lv_aload_n hx hb dX6_decode_1 rfl (lv_at hl 0 rfl) ?_
  refine GX6_3 C hP hj gt1_101 dX6_decode_2 ?_
  obtain ⟨hz, hf⟩ := zk_at hf
  refine PX6_4 hI C hP hS hj gt1_102 (zn hz) (zf hz) dX6_decode_5 (fun σ1 eσ1 H locs hP hS => ?_)
  have hf := nm_at hf σ1 eσ1
  refine lv_aload_n hx hb dX6_decode_8 rfl (lv_at hl 1 rfl) ?_
  obtain ⟨v2, σ3, hc, hf⟩ := bd_at hf
  refine callVI (As := []) (rest := []) C (mX5_count (j := 4) hI (by decide) hc) ⟨gt3_37, gt2_1, gt2_2, gt1_5, gt2_3⟩ okX5_count ⟨Nat.le_of_ble_eq_true rfl, Nat.le_of_ble_eq_true rfl⟩ (rcvOf C hP (show (wC ad cI cF _)[4]? = some (ad 4, _) from rfl) rfl) rfl hl.1 rfl (Nat.le_of_ble_eq_true rfl) hP hS dX6_decode_9 (fun H locs hP hS => ?_)
  refine lv_iconst (v := 2) hx hb dX6_decode_12 (by decide) ?_
  refine lv_icmp_ge (tgt := 23) hx hb dX6_decode_13 (by decide) (fun hc => ?_) (fun hc => ?_)
  · have hf := ite_t hf hc
    refine lv_aload_n hx hb dX6_decode_23 rfl (lv_at hl 0 rfl) ?_
    refine GX6_0 C hP hj gt1_98 dX6_decode_24 ?_
    refine lv_if_eq (tgt := 81) hx hb dX6_decode_27 (by decide) (fun hc => ?_) (fun hc => ?_)
    · have hf := ite_t hf hc
      refine lv_aload_n hx hb dX6_decode_81 rfl (lv_at hl 0 rfl) ?_
      refine lv_aload_n hx hb dX6_decode_82 rfl (lv_at hl 1 rfl) ?_
      refine lv_aload_n hx hb dX6_decode_83 rfl (lv_at hl 2 rfl) ?_
      obtain ⟨v4, σ5, hc, hf⟩ := bd_at hf
      refine callVV (As := [.ref (ad 4), .ref (ad 8)]) (rest := []) C (mX6_decodeCharacter (j := j) hI hj hc) ⟨gt3_42, gt3_44, gtp10, gt1_8, gt3_45⟩ okX6_decodeCharacter ⟨Nat.le_of_ble_eq_true rfl, Nat.le_of_ble_eq_true rfl⟩ (rcvOf C hP (eX6 hj) rfl) rfl hl.1 rfl (Nat.le_of_ble_eq_true rfl) hP hS dX6_decode_84 (fun H locs hP hS => ?_)
      exact MV.ret (wf := wC ad cI cF) hQ C hr hlk hf hP hS dX6_decode_87
    · have hf := ite_f hf hc
      refine lv_aload_n hx hb dX6_decode_30 rfl (lv_at hl 0 rfl) ?_
      refine GX6_2 C hP hj gt1_100 dX6_decode_31 ?_
      refine lv_if_eq (tgt := 81) hx hb dX6_decode_34 (by decide) (fun hc => ?_) (fun hc => ?_)
      · have hf := ite_t hf hc
        refine lv_aload_n hx hb dX6_decode_81 rfl (lv_at hl 0 rfl) ?_
        refine lv_aload_n hx hb dX6_decode_82 rfl (lv_at hl 1 rfl) ?_
        refine lv_aload_n hx hb dX6_decode_83 rfl (lv_at hl 2 rfl) ?_
        obtain ⟨v6, σ7, hc, hf⟩ := bd_at hf
        refine callVV (As := [.ref (ad 4), .ref (ad 8)]) (rest := []) C (mX6_decodeCharacter (j := j) hI hj hc) ⟨gt3_42, gt3_44, gtp10, gt1_8, gt3_45⟩ okX6_decodeCharacter ⟨Nat.le_of_ble_eq_true rfl, Nat.le_of_ble_eq_true rfl⟩ (rcvOf C hP (eX6 hj) rfl) rfl hl.1 rfl (Nat.le_of_ble_eq_true rfl) hP hS dX6_decode_84 (fun H locs hP hS => ?_)
        exact MV.ret (wf := wC ad cI cF) hQ C hr hlk hf hP hS dX6_decode_87
      · have hf := ite_f hf hc
        refine lv_aload_n hx hb dX6_decode_37 rfl (lv_at hl 1 rfl) ?_
        refine lv_iconst (v := 0) hx hb dX6_decode_38 (by decide) ?_
        obtain ⟨v8, σ9, hc, hf⟩ := bd_at hf
        refine callVI (As := [.int 0]) (rest := []) C (mX5_at (j := 4) hI (by decide) hc) ⟨gt2_86, gt2_39, gt2_40, gt1_5, gt2_41⟩ okX5_at ⟨Nat.le_of_ble_eq_true rfl, Nat.le_of_ble_eq_true rfl⟩ (rcvOf C hP (show (wC ad cI cF _)[4]? = some (ad 4, _) from rfl) rfl) rfl hl.1 rfl (Nat.le_of_ble_eq_true rfl) hP hS dX6_decode_39 (fun H locs hP hS => ?_)
        refine lv_aload_n hx hb dX6_decode_42 rfl (lv_at hl 1 rfl) ?_
        refine lv_iconst (v := 1) hx hb dX6_decode_43 (by decide) ?_
        obtain ⟨v10, σ11, hc, hf⟩ := bd_at hf
        refine callVI (As := [.int 1]) (rest := [.int v8]) C (mX5_at (j := 4) hI (by decide) hc) ⟨gt2_86, gt2_39, gt2_40, gt1_5, gt2_41⟩ okX5_at ⟨Nat.le_of_ble_eq_true rfl, Nat.le_of_ble_eq_true rfl⟩ (rcvOf C hP (show (wC ad cI cF _)[4]? = some (ad 4, _) from rfl) rfl) rfl hl.1 rfl (Nat.le_of_ble_eq_true rfl) hP hS dX6_decode_44 (fun H locs hP hS => ?_)
        obtain ⟨v12, σ13, hc, hf⟩ := bd_at hf
        refine callSI (As := [.int v8, .int v10]) (rest := []) C (mX6_isMark hI hc) ⟨gt3_39, gt3_40, gt1_8, gt3_41⟩ okX6_isMark ⟨Nat.le_of_ble_eq_true rfl, Nat.le_of_ble_eq_true rfl⟩ rfl hl.1 rfl (Nat.le_of_ble_eq_true rfl) hP hS dX6_decode_47 (fun H locs hP hS => ?_)
        refine lv_if_eq (tgt := 81) hx hb dX6_decode_50 (by decide) (fun hc => ?_) (fun hc => ?_)
        · have hf := ite_t hf hc
          refine lv_aload_n hx hb dX6_decode_81 rfl (lv_at hl 0 rfl) ?_
          refine lv_aload_n hx hb dX6_decode_82 rfl (lv_at hl 1 rfl) ?_
          refine lv_aload_n hx hb dX6_decode_83 rfl (lv_at hl 2 rfl) ?_
          obtain ⟨v14, σ15, hc, hf⟩ := bd_at hf
          refine callVV (As := [.ref (ad 4), .ref (ad 8)]) (rest := []) C (mX6_decodeCharacter (j := j) hI hj hc) ⟨gt3_42, gt3_44, gtp10, gt1_8, gt3_45⟩ okX6_decodeCharacter ⟨Nat.le_of_ble_eq_true rfl, Nat.le_of_ble_eq_true rfl⟩ (rcvOf C hP (eX6 hj) rfl) rfl hl.1 rfl (Nat.le_of_ble_eq_true rfl) hP hS dX6_decode_84 (fun H locs hP hS => ?_)
          exact MV.ret (wf := wC ad cI cF) hQ C hr hlk hf hP hS dX6_decode_87
        · have hf := ite_f hf hc
          refine lv_aload_n hx hb dX6_decode_53 rfl (lv_at hl 2 rfl) ?_
          refine lv_iconst (v := 2) hx hb dX6_decode_54 (by decide) ?_
          obtain ⟨v16, σ17, hc, hf⟩ := bd_at hf
          refine callVV (As := [.int 2]) (rest := []) C (mX1_setStep hI hc) ⟨gt2_87, gt2_47, gt2_48, gt1_6, gt2_49⟩ okX1_setStep ⟨Nat.le_of_ble_eq_true rfl, Nat.le_of_ble_eq_true rfl⟩ (rcvOf C hP (show (wC ad cI cF _)[8]? = some (ad 8, _) from rfl) rfl) rfl hl.1 rfl (Nat.le_of_ble_eq_true rfl) hP hS dX6_decode_55 (fun H locs hP hS => ?_)
          refine lv_aload_n hx hb dX6_decode_58 rfl (lv_at hl 0 rfl) ?_
          refine lv_aload_n hx hb dX6_decode_59 rfl (lv_at hl 1 rfl) ?_
          refine lv_iconst (v := 0) hx hb dX6_decode_60 (by decide) ?_
          obtain ⟨v18, σ19, hc, hf⟩ := bd_at hf
          refine callVI (As := [.int 0]) (rest := [.ref (ad j)]) C (mX5_at (j := 4) hI (by decide) hc) ⟨gt2_86, gt2_39, gt2_40, gt1_5, gt2_41⟩ okX5_at ⟨Nat.le_of_ble_eq_true rfl, Nat.le_of_ble_eq_true rfl⟩ (rcvOf C hP (show (wC ad cI cF _)[4]? = some (ad 4, _) from rfl) rfl) rfl hl.1 rfl (Nat.le_of_ble_eq_true rfl) hP hS dX6_decode_61 (fun H locs hP hS => ?_)
          refine lv_sipush (v := 255) hx hb dX6_decode_64 (by decide) ?_
          refine lv_icmp_ne (tgt := 74) hx hb dX6_decode_67 (by decide) (fun hc => ?_) (fun hc => ?_)
          · have hf := ite_f hf hc
            refine lv_iconst (v := 0) hx hb dX6_decode_74 (by decide) ?_
            refine PX6_4 hI C hP hS hj gt1_102 rfl rfl dX6_decode_75 (fun σ20 eσ20 H locs hP hS => ?_)
            have hf := nm_at hf σ20 eσ20
            refine lv_goto (tgt := 87) hx hb dX6_decode_78 (by decide) ?_
            exact MV.ret (wf := wC ad cI cF) hQ C hr hlk hf hP hS dX6_decode_87
          · have hf := ite_t hf hc
            refine lv_iconst (v := 1) hx hb dX6_decode_70 (by decide) ?_
            refine lv_goto (tgt := 75) hx hb dX6_decode_71 (by decide) ?_
            refine PX6_4 hI C hP hS hj gt1_102 rfl rfl dX6_decode_75 (fun σ21 eσ21 H locs hP hS => ?_)
            have hf := nm_at hf σ21 eσ21
            refine lv_goto (tgt := 87) hx hb dX6_decode_78 (by decide) ?_
            exact MV.ret (wf := wC ad cI cF) hQ C hr hlk hf hP hS dX6_decode_87
  · have hf := ite_f hf hc
    refine lv_aload_n hx hb dX6_decode_16 rfl (lv_at hl 2 rfl) ?_
    obtain ⟨v22, σ23, hc, hf⟩ := bd_at hf
    refine callVV (As := []) (rest := []) C (mX1_setNeed hI hc) ⟨gt3_38, gt2_25, gt2_26, gt1_6, gt2_27⟩ okX1_setNeed ⟨Nat.le_of_ble_eq_true rfl, Nat.le_of_ble_eq_true rfl⟩ (rcvOf C hP (show (wC ad cI cF _)[8]? = some (ad 8, _) from rfl) rfl) rfl hl.1 rfl (Nat.le_of_ble_eq_true rfl) hP hS dX6_decode_17 (fun H locs hP hS => ?_)
    refine lv_goto (tgt := 87) hx hb dX6_decode_20 (by decide) ?_
    exact MV.ret (wf := wC ad cI cF) hQ C hr hlk hf hP hS dX6_decode_87
def fX3_copy (j : Nat) (j2 : Nat) (σ : St) : Option (Int32 × St) := zk (σ j2 0) (nm (up σ j 0 (σ j2 0)) (fun σ1 => zk (σ1 j2 1) (nm (up σ1 j 1 (σ1 j2 1)) (fun σ2 => nm (up σ2 j 2 (σ2 j2 2)) (fun σ3 => nm (up σ3 j 3 (σ3 j2 3)) (fun σ4 => some (0, σ4)))))))
set_option maxHeartbeats 4000000 in
set_option maxRecDepth 100000 in
theorem mX3_copy {l : Launch} {D : va_G} {kS vS : Nat → Nat} {ad : Nat → Nat} {cI cF : ClassId} {j : Nat} {j2 : Nat} {σ σ0 : St} {r : Int32} (hI : Inj ad 18) (hj : jX3 j) (hj2 : jX3 j2) (hf : fX3_copy j j2 σ  = some (r, σ0)) : MV l D (tyC cI cF) (inA ad 18) kS vS yX3_copy cX3_copy 2 0 0 [.ref (ad j), .ref (ad j2)] (wC ad cI cF σ) (wC ad cI cF σ0) := by
  refine MV.of (by decide) (Nat.le_of_ble_eq_true rfl) (fun p e s m args below meth c ls Q hQ C hr hlk hP hS hl => ?_)
  obtain ⟨hx, hb, hml, hown, hts, hK, hKS⟩ := id C
  have hl : lv_has ls 2 [(0, .ref (ad j)), (1, .ref (ad j2))] := hl
  unfold fX3_copy at hf
  refine lv_aload_n hx hb dX3_copy_0 rfl (lv_at hl 0 rfl) ?_
  refine lv_aload_n hx hb dX3_copy_1 rfl (lv_at hl 1 rfl) ?_
  refine GX3_0 C hP hj2 gt1_126 dX3_copy_2 ?_
  obtain ⟨hz, hf⟩ := zk_at hf
  refine PX3_0 hI C hP hS hj gt1_126 (zn hz) (zf hz) dX3_copy_5 (fun σ1 eσ1 H locs hP hS => ?_)
  have hf := nm_at hf σ1 eσ1
  refine lv_aload_n hx hb dX3_copy_8 rfl (lv_at hl 0 rfl) ?_
  refine lv_aload_n hx hb dX3_copy_9 rfl (lv_at hl 1 rfl) ?_
  refine GX3_1 C hP hj2 gt1_128 dX3_copy_10 ?_
  obtain ⟨hz, hf⟩ := zk_at hf
  refine PX3_1 hI C hP hS hj gt1_128 (zn hz) (zf hz) dX3_copy_13 (fun σ2 eσ2 H locs hP hS => ?_)
  have hf := nm_at hf σ2 eσ2
  refine lv_aload_n hx hb dX3_copy_16 rfl (lv_at hl 0 rfl) ?_
  refine lv_aload_n hx hb dX3_copy_17 rfl (lv_at hl 1 rfl) ?_
  refine GX3_2 C hP hj2 gt1_130 dX3_copy_18 ?_
  refine PX3_2 hI C hP hS hj gt1_130 rfl rfl dX3_copy_21 (fun σ3 eσ3 H locs hP hS => ?_)
  have hf := nm_at hf σ3 eσ3
  refine lv_aload_n hx hb dX3_copy_24 rfl (lv_at hl 0 rfl) ?_
  refine lv_aload_n hx hb dX3_copy_25 rfl (lv_at hl 1 rfl) ?_
  refine GX3_3 C hP hj2 gt1_132 dX3_copy_26 ?_
  refine PX3_3 hI C hP hS hj gt1_132 rfl rfl dX3_copy_29 (fun σ4 eσ4 H locs hP hS => ?_)
  have hf := nm_at hf σ4 eσ4
  exact MV.ret (wf := wC ad cI cF) hQ C hr hlk hf hP hS dX3_copy_32
def fX7_valueOf (σ : St) (p0 : Int32) : Option (Int32 × St) := (if 128 ≤ p0 then some ((-1), σ) else bd (fJ0_indexOf_0f7a4 0 σ (((p0).toUInt32 % 65536).toInt32)) (fun v1 σ2 => some (v1, σ2)))
set_option maxHeartbeats 4000000 in
set_option maxRecDepth 100000 in
theorem mX7_valueOf {l : Launch} {D : va_G} {kS vS : Nat → Nat} {ad : Nat → Nat} {cI cF : ClassId} {σ σ0 : St} {p0 : Int32} {r : Int32} (hI : Inj ad 18) (hf : fX7_valueOf σ p0 = some (r, σ0)) : MI l D (tyC cI cF) (inA ad 18) kS vS yX7_valueOf cX7_valueOf 1 .int 4 91 [.int p0] (wC ad cI cF σ) (wC ad cI cF σ0) r := by
  refine MI.of (by decide) (Nat.le_of_ble_eq_true rfl) (fun p e s m args below meth c ls Q hQ C hr hlk hP hS hl => ?_)
  obtain ⟨hx, hb, hml, hown, hts, hK, hKS⟩ := id C
  have hl : lv_has ls 1 [(0, .int p0)] := hl
  unfold fX7_valueOf at hf
  refine lv_iload_n hx hb dX7_valueOf_0 rfl (lv_at hl 0 rfl) ?_
  refine lv_sipush (v := 128) hx hb dX7_valueOf_1 (by decide) ?_
  refine lv_icmp_ge (tgt := 17) hx hb dX7_valueOf_4 (by decide) (fun hc => ?_) (fun hc => ?_)
  · have hf := ite_t hf hc
    refine lv_iconst (v := (-1)) hx hb dX7_valueOf_17 (by decide) ?_
    exact MI.ret (wf := wC ad cI cF) hQ C hr hlk rfl hf hP hS dX7_valueOf_18
  · have hf := ite_f hf hc
    refine va_ldcS hx hb hown (hKS.2.1 0 (by decide)) dX7_valueOf_7 ?_
    refine lv_iload_n hx hb dX7_valueOf_9 rfl (lv_at hl 0 rfl) ?_
    refine lv_i2c (v := ((p0).toUInt32 % 65536).toInt32) hx hb dX7_valueOf_10 rfl ?_
    obtain ⟨v1, σ2, hc, hf⟩ := bd_at hf
    refine callVI (As := [.int (((p0).toUInt32 % 65536).toInt32)]) (rest := []) C (mJ0_indexOf_0f7a4 (i := 0) (wf := wC ad cI cF) (by decide) hc) ⟨gt2_112, gt2_113, gt2_114, gt1_13, gt2_115⟩ okJ0_indexOf_0f7a4 ⟨Nat.le_of_ble_eq_true rfl, Nat.le_of_ble_eq_true rfl⟩ (vk_recv hKS.1 (by decide) hS) rfl hl.1 rfl (Nat.le_of_ble_eq_true rfl) hP hS dX7_valueOf_11 (fun H locs hP hS => ?_)
    refine lv_goto (tgt := 18) hx hb dX7_valueOf_14 (by decide) ?_
    exact MI.ret (wf := wC ad cI cF) hQ C hr hlk rfl hf hP hS dX7_valueOf_18
def fX3_holdsRemains (j : Nat) (σ : St) : Option (Int32 × St) := (if 6 ≤ (σ j 3) then some (1, σ) else (if (σ j 2) = 0 then some (0, σ) else some (1, σ)))
set_option maxHeartbeats 4000000 in
set_option maxRecDepth 100000 in
theorem mX3_holdsRemains {l : Launch} {D : va_G} {kS vS : Nat → Nat} {ad : Nat → Nat} {cI cF : ClassId} {j : Nat} {σ σ0 : St} {r : Int32} (hI : Inj ad 18) (hj : jX3 j) (hf : fX3_holdsRemains j σ  = some (r, σ0)) : MI l D (tyC cI cF) (inA ad 18) kS vS yX3_holdsRemains cX3_holdsRemains 1 .boolean 0 0 [.ref (ad j)] (wC ad cI cF σ) (wC ad cI cF σ0) r := by
  refine MI.of (by decide) (Nat.le_of_ble_eq_true rfl) (fun p e s m args below meth c ls Q hQ C hr hlk hP hS hl => ?_)
  obtain ⟨hx, hb, hml, hown, hts, hK, hKS⟩ := id C
  have hl : lv_has ls 1 [(0, .ref (ad j))] := hl
  unfold fX3_holdsRemains at hf
  refine lv_aload_n hx hb dX3_holdsRemains_0 rfl (lv_at hl 0 rfl) ?_
  refine GX3_3 C hP hj gt1_132 dX3_holdsRemains_1 ?_
  refine lv_bipush (v := 6) hx hb dX3_holdsRemains_4 (by decide) ?_
  refine lv_icmp_ge (tgt := 16) hx hb dX3_holdsRemains_6 (by decide) (fun hc => ?_) (fun hc => ?_)
  · have hf := ite_t hf hc
    refine lv_iconst (v := 1) hx hb dX3_holdsRemains_16 (by decide) ?_
    refine lv_goto (tgt := 21) hx hb dX3_holdsRemains_17 (by decide) ?_
    exact MI.ret (wf := wC ad cI cF) hQ C hr hlk rfl hf hP hS dX3_holdsRemains_21
  · have hf := ite_f hf hc
    refine lv_aload_n hx hb dX3_holdsRemains_9 rfl (lv_at hl 0 rfl) ?_
    refine GX3_2 C hP hj gt1_130 dX3_holdsRemains_10 ?_
    refine lv_if_eq (tgt := 20) hx hb dX3_holdsRemains_13 (by decide) (fun hc => ?_) (fun hc => ?_)
    · have hf := ite_t hf hc
      refine lv_iconst (v := 0) hx hb dX3_holdsRemains_20 (by decide) ?_
      exact MI.ret (wf := wC ad cI cF) hQ C hr hlk rfl hf hP hS dX3_holdsRemains_21
    · have hf := ite_f hf hc
      refine lv_iconst (v := 1) hx hb dX3_holdsRemains_16 (by decide) ?_
      refine lv_goto (tgt := 21) hx hb dX3_holdsRemains_17 (by decide) ?_
      exact MI.ret (wf := wC ad cI cF) hQ C hr hlk rfl hf hP hS dX3_holdsRemains_21
def fX7_decodeEnd_b42 (σ : St) (x1 x3 : Int32) : Option (Int32 × St) := bd (fX1_setStep σ 1) (fun _ σ6 => bd (fX3_becomePlain 17 σ6) (fun _ σ8 => (if x3 = 0 then bd (fX1_add σ8 x1) (fun _ σ12 => some (0, σ12)) else (if (σ8 16 1) = 0 then some (0, σ8) else bd (fX1_add σ8 43) (fun _ σ10 => some (0, σ10))))))
def fX7_decodeEnd_b11 (σ : St) (x1 y0 : Int32) : Option (Int32 × St) := bd (fX3_holdsRemains 16 σ) (fun v1 σ2 => (if v1 = 0 then (if (σ2 16 1) = 0 then fX7_decodeEnd_b42 σ2 x1 y0 else (if y0 = 0 then bd (fX1_setBad σ2 1) (fun _ σ14 => some (0, σ14)) else fX7_decodeEnd_b42 σ2 x1 y0)) else bd (fX1_setBad σ2 1) (fun _ σ4 => some (0, σ4))))
def fX7_decodeEnd (σ : St) (p1 : Int32) : Option (Int32 × St) := (if p1 = 45 then fX7_decodeEnd_b11 σ p1 1 else fX7_decodeEnd_b11 σ p1 0)
set_option maxHeartbeats 4000000 in
set_option maxRecDepth 100000 in
theorem mX7_decodeEnd {l : Launch} {D : va_G} {kS vS : Nat → Nat} {ad : Nat → Nat} {cI cF : ClassId} {σ σ0 : St} {p1 : Int32} {r : Int32} (hI : Inj ad 18) (hf : fX7_decodeEnd σ p1 = some (r, σ0)) : MV l D (tyC cI cF) (inA ad 18) kS vS yX7_decodeEnd cX7_decodeEnd 4 2 43 [.ref (ad 15), .int p1, .ref (ad 8)] (wC ad cI cF σ) (wC ad cI cF σ0) := by
  refine MV.of (by decide) (Nat.le_of_ble_eq_true rfl) (fun p e s m args below meth c ls Q hQ C hr hlk hP hS hl => ?_)
  obtain ⟨hx, hb, hml, hown, hts, hK, hKS⟩ := id C
  have hl : lv_has ls 4 [(0, .ref (ad 15)), (1, .int p1), (2, .ref (ad 8))] := hl
  have B42 : ∀ (σ : St) (x1 x3 : Int32) (H : Heap) (locs : List Loc) (ls : Array Slot), va_P D vwCl (wC ad cI cF σ) H → va_S (inA ad 18) s.heap H locs → lv_has ls 4 [(0, .ref (ad 15)), (1, .int x1), (2, .ref (ad 8)), (3, .int x3)] → fX7_decodeEnd_b42 σ x1 x3 = some (r, σ0) → W p l e (rmN 2 43) s m args below meth c H locs 0 0 Q (F0 m 42 ls []) := by
    intro σ x1 x3 H locs ls hP hS hl hf
    unfold fX7_decodeEnd_b42 at hf
    refine lv_aload_n hx hb dX7_decodeEnd_42 rfl (lv_at hl 2 rfl) ?_
    refine lv_iconst (v := 1) hx hb dX7_decodeEnd_43 (by decide) ?_
    obtain ⟨v5, σ6, hc, hf⟩ := bd_at hf
    refine callVV (As := [.int 1]) (rest := []) C (mX1_setStep hI hc) ⟨gt2_104, gt2_47, gt2_48, gt1_6, gt2_49⟩ okX1_setStep ⟨Nat.le_of_ble_eq_true rfl, Nat.le_of_ble_eq_true rfl⟩ (rcvOf C hP (show (wC ad cI cF _)[8]? = some (ad 8, _) from rfl) rfl) rfl hl.1 rfl (Nat.le_of_ble_eq_true rfl) hP hS dX7_decodeEnd_44 (fun H locs hP hS => ?_)
    refine lv_aload_n hx hb dX7_decodeEnd_47 rfl (lv_at hl 0 rfl) ?_
    refine GX7_1 C hP gt1_144 dX7_decodeEnd_48 ?_
    obtain ⟨v7, σ8, hc, hf⟩ := bd_at hf
    refine callVV (As := []) (rest := []) C (mX3_becomePlain (j := 17) hI (by decide) hc) ⟨gt1_221, gt1_222, gt1_223, gt1_10, gt1_224⟩ okX3_becomePlain ⟨Nat.le_of_ble_eq_true rfl, Nat.le_of_ble_eq_true rfl⟩ (rcvOf C hP (show (wC ad cI cF _)[17]? = some (ad 17, _) from rfl) rfl) rfl hl.1 rfl (Nat.le_of_ble_eq_true rfl) hP hS dX7_decodeEnd_51 (fun H locs hP hS => ?_)
    refine lv_iload_n hx hb dX7_decodeEnd_54 rfl (lv_at hl 3 rfl) ?_
    refine lv_if_ne (tgt := 66) hx hb dX7_decodeEnd_55 (by decide) (fun hc => ?_) (fun hc => ?_)
    · have hf := ite_f hf hc
      refine lv_aload_n hx hb dX7_decodeEnd_66 rfl (lv_at hl 0 rfl) ?_
      refine GX7_0 C hP gt1_143 dX7_decodeEnd_67 ?_
      refine GX3_1N C hP (j := 16) (by decide) (by decide) dX7_decodeEnd_70 ?_
      refine lv_if_eq (tgt := 82) hx hb dX7_decodeEnd_73 (by decide) (fun hc => ?_) (fun hc => ?_)
      · have hf := ite_t hf hc
        exact MV.ret (wf := wC ad cI cF) hQ C hr hlk hf hP hS dX7_decodeEnd_82
      · have hf := ite_f hf hc
        refine lv_aload_n hx hb dX7_decodeEnd_76 rfl (lv_at hl 2 rfl) ?_
        refine lv_bipush (v := 43) hx hb dX7_decodeEnd_77 (by decide) ?_
        obtain ⟨v9, σ10, hc, hf⟩ := bd_at hf
        refine callVV (As := [.int 43]) (rest := []) C (mX1_add hI hc) ⟨gt2_223, gt2_51, gt2_52, gt1_6, gt2_53⟩ okX1_add ⟨Nat.le_of_ble_eq_true rfl, Nat.le_of_ble_eq_true rfl⟩ (rcvOf C hP (show (wC ad cI cF _)[8]? = some (ad 8, _) from rfl) rfl) rfl hl.1 rfl (Nat.le_of_ble_eq_true rfl) hP hS dX7_decodeEnd_79 (fun H locs hP hS => ?_)
        exact MV.ret (wf := wC ad cI cF) hQ C hr hlk hf hP hS dX7_decodeEnd_82
    · have hf := ite_t hf hc
      refine lv_aload_n hx hb dX7_decodeEnd_58 rfl (lv_at hl 2 rfl) ?_
      refine lv_iload_n hx hb dX7_decodeEnd_59 rfl (lv_at hl 1 rfl) ?_
      obtain ⟨v11, σ12, hc, hf⟩ := bd_at hf
      refine callVV (As := [.int x1]) (rest := []) C (mX1_add hI hc) ⟨gt2_223, gt2_51, gt2_52, gt1_6, gt2_53⟩ okX1_add ⟨Nat.le_of_ble_eq_true rfl, Nat.le_of_ble_eq_true rfl⟩ (rcvOf C hP (show (wC ad cI cF _)[8]? = some (ad 8, _) from rfl) rfl) rfl hl.1 rfl (Nat.le_of_ble_eq_true rfl) hP hS dX7_decodeEnd_60 (fun H locs hP hS => ?_)
      refine lv_goto (tgt := 82) hx hb dX7_decodeEnd_63 (by decide) ?_
      exact MV.ret (wf := wC ad cI cF) hQ C hr hlk hf hP hS dX7_decodeEnd_82
  have B11 : ∀ (σ : St) (x1 y0 : Int32) (H : Heap) (locs : List Loc) (ls : Array Slot), va_P D vwCl (wC ad cI cF σ) H → va_S (inA ad 18) s.heap H locs → lv_has ls 4 [(0, .ref (ad 15)), (1, .int x1), (2, .ref (ad 8))] → fX7_decodeEnd_b11 σ x1 y0 = some (r, σ0) → W p l e (rmN 2 43) s m args below meth c H locs 0 0 Q (F0 m 11 ls [.int y0]) := by
    intro σ x1 y0 H locs ls hP hS hl hf
    unfold fX7_decodeEnd_b11 at hf
    refine lv_istore_n (lv' := [(3, .int y0), (0, .ref (ad 15)), (1, .int x1), (2, .ref (ad 8))]) hx hb dX7_decodeEnd_11 rfl hl (by decide) rfl (fun ls hl => ?_)
    refine lv_aload_n hx hb dX7_decodeEnd_12 rfl (lv_at hl 1 rfl) ?_
    refine GX7_0 C hP gt1_143 dX7_decodeEnd_13 ?_
    obtain ⟨v1, σ2, hc, hf⟩ := bd_at hf
    refine callVI (As := []) (rest := []) C (mX3_holdsRemains (j := 16) hI (by decide) hc) ⟨gt3_68, gt3_69, gt3_70, gt1_10, gt3_71⟩ okX3_holdsRemains ⟨Nat.le_of_ble_eq_true rfl, Nat.le_of_ble_eq_true rfl⟩ (rcvOf C hP (show (wC ad cI cF _)[16]? = some (ad 16, _) from rfl) rfl) rfl hl.1 rfl (Nat.le_of_ble_eq_true rfl) hP hS dX7_decodeEnd_16 (fun H locs hP hS => ?_)
    refine lv_if_ne (tgt := 36) hx hb dX7_decodeEnd_19 (by decide) (fun hc => ?_) (fun hc => ?_)
    · have hf := ite_f hf hc
      refine lv_aload_n hx hb dX7_decodeEnd_36 rfl (lv_at hl 3 rfl) ?_
      refine lv_iconst (v := 1) hx hb dX7_decodeEnd_37 (by decide) ?_
      obtain ⟨v3, σ4, hc, hf⟩ := bd_at hf
      refine callVV (As := [.int 1]) (rest := []) C (mX1_setBad hI hc) ⟨gt3_55, gt2_80, gt2_81, gt1_6, gt2_82⟩ okX1_setBad ⟨Nat.le_of_ble_eq_true rfl, Nat.le_of_ble_eq_true rfl⟩ (rcvOf C hP (show (wC ad cI cF _)[8]? = some (ad 8, _) from rfl) rfl) rfl hl.1 rfl (Nat.le_of_ble_eq_true rfl) hP hS dX7_decodeEnd_38 (fun H locs hP hS => ?_)
      exact MV.ret (wf := wC ad cI cF) hQ C hr hlk hf hP hS dX7_decodeEnd_41
    · have hf := ite_t hf hc
      refine lv_aload_n hx hb dX7_decodeEnd_22 rfl (lv_at hl 1 rfl) ?_
      refine GX7_0 C hP gt1_143 dX7_decodeEnd_23 ?_
      refine GX3_1N C hP (j := 16) (by decide) (by decide) dX7_decodeEnd_26 ?_
      refine lv_if_eq (tgt := 42) hx hb dX7_decodeEnd_29 (by decide) (fun hc => ?_) (fun hc => ?_)
      · have hf := ite_t hf hc
        exact B42 σ2 x1 y0 _ _ _ hP hS (lv_sub hl [1, 2, 3, 0] rfl) hf
      · have hf := ite_f hf hc
        refine lv_iload_n hx hb dX7_decodeEnd_32 rfl (lv_at hl 0 rfl) ?_
        refine lv_if_ne (tgt := 42) hx hb dX7_decodeEnd_33 (by decide) (fun hc => ?_) (fun hc => ?_)
        · have hf := ite_f hf hc
          exact B42 σ2 x1 y0 _ _ _ hP hS (lv_sub hl [1, 2, 3, 0] rfl) hf
        · have hf := ite_t hf hc
          refine lv_aload_n hx hb dX7_decodeEnd_36 rfl (lv_at hl 3 rfl) ?_
          refine lv_iconst (v := 1) hx hb dX7_decodeEnd_37 (by decide) ?_
          obtain ⟨v13, σ14, hc, hf⟩ := bd_at hf
          refine callVV (As := [.int 1]) (rest := []) C (mX1_setBad hI hc) ⟨gt3_55, gt2_80, gt2_81, gt1_6, gt2_82⟩ okX1_setBad ⟨Nat.le_of_ble_eq_true rfl, Nat.le_of_ble_eq_true rfl⟩ (rcvOf C hP (show (wC ad cI cF _)[8]? = some (ad 8, _) from rfl) rfl) rfl hl.1 rfl (Nat.le_of_ble_eq_true rfl) hP hS dX7_decodeEnd_38 (fun H locs hP hS => ?_)
          exact MV.ret (wf := wC ad cI cF) hQ C hr hlk hf hP hS dX7_decodeEnd_41
  unfold fX7_decodeEnd at hf
  refine lv_iload_n hx hb dX7_decodeEnd_0 rfl (lv_at hl 1 rfl) ?_
  refine lv_bipush (v := 45) hx hb dX7_decodeEnd_1 (by decide) ?_
  refine lv_icmp_ne (tgt := 10) hx hb dX7_decodeEnd_3 (by decide) (fun hc => ?_) (fun hc => ?_)
  · have hf := ite_f hf hc
    refine lv_iconst (v := 0) hx hb dX7_decodeEnd_10 (by decide) ?_
    exact B11 σ p1 0 _ _ _ hP hS (lv_sub hl [0, 1, 2] rfl) hf
  · have hf := ite_t hf hc
    refine lv_iconst (v := 1) hx hb dX7_decodeEnd_6 (by decide) ?_
    refine lv_goto (tgt := 11) hx hb dX7_decodeEnd_7 (by decide) ?_
    exact B11 σ p1 1 _ _ _ hP hS (lv_sub hl [0, 1, 2] rfl) hf
def fX3_keep (j : Nat) (σ : St) (p1 p2 : Int32) : Option (Int32 × St) := nm (up σ j 2 (((σ j 2) <<< (p2 &&& 31)) ||| p1)) (fun σ1 => nm (up σ1 j 3 ((σ1 j 3) + p2)) (fun σ2 => nm (up σ2 j 1 0) (fun σ3 => some (0, σ3))))
set_option maxHeartbeats 4000000 in
set_option maxRecDepth 100000 in
theorem mX3_keep {l : Launch} {D : va_G} {kS vS : Nat → Nat} {ad : Nat → Nat} {cI cF : ClassId} {j : Nat} {σ σ0 : St} {p1 p2 : Int32} {r : Int32} (hI : Inj ad 18) (hj : jX3 j) (hf : fX3_keep j σ p1 p2 = some (r, σ0)) : MV l D (tyC cI cF) (inA ad 18) kS vS yX3_keep cX3_keep 3 0 0 [.ref (ad j), .int p1, .int p2] (wC ad cI cF σ) (wC ad cI cF σ0) := by
  refine MV.of (by decide) (Nat.le_of_ble_eq_true rfl) (fun p e s m args below meth c ls Q hQ C hr hlk hP hS hl => ?_)
  obtain ⟨hx, hb, hml, hown, hts, hK, hKS⟩ := id C
  have hl : lv_has ls 3 [(0, .ref (ad j)), (1, .int p1), (2, .int p2)] := hl
  unfold fX3_keep at hf
  refine lv_aload_n hx hb dX3_keep_0 rfl (lv_at hl 0 rfl) ?_
  refine lv_aload_n hx hb dX3_keep_1 rfl (lv_at hl 0 rfl) ?_
  refine GX3_2 C hP hj gt1_130 dX3_keep_2 ?_
  refine lv_iload_n hx hb dX3_keep_5 rfl (lv_at hl 2 rfl) ?_
  refine lv_ishl hx hb dX3_keep_6 ?_
  refine lv_iload_n hx hb dX3_keep_7 rfl (lv_at hl 1 rfl) ?_
  refine lv_ior hx hb dX3_keep_8 ?_
  refine PX3_2 hI C hP hS hj gt1_130 rfl rfl dX3_keep_9 (fun σ1 eσ1 H locs hP hS => ?_)
  have hf := nm_at hf σ1 eσ1
  refine lv_aload_n hx hb dX3_keep_12 rfl (lv_at hl 0 rfl) ?_
  refine lv_dup hx hb dX3_keep_13 rfl ?_
  refine GX3_3 C hP hj gt1_132 dX3_keep_14 ?_
  refine lv_iload_n hx hb dX3_keep_17 rfl (lv_at hl 2 rfl) ?_
  refine lv_iadd hx hb dX3_keep_18 ?_
  refine PX3_3 hI C hP hS hj gt1_132 rfl rfl dX3_keep_19 (fun σ2 eσ2 H locs hP hS => ?_)
  have hf := nm_at hf σ2 eσ2
  refine lv_aload_n hx hb dX3_keep_22 rfl (lv_at hl 0 rfl) ?_
  refine lv_iconst (v := 0) hx hb dX3_keep_23 (by decide) ?_
  refine PX3_1 hI C hP hS hj gt1_128 rfl rfl dX3_keep_24 (fun σ3 eσ3 H locs hP hS => ?_)
  have hf := nm_at hf σ3 eσ3
  exact MV.ret (wf := wC ad cI cF) hQ C hr hlk hf hP hS dX3_keep_27
def fX3_removeFirst (j : Nat) (σ : St) (p1 : Int32) : Option (Int32 × St) := nm (up σ j 3 (if 0 < ((σ j 3) - p1) then ((σ j 3) - p1) else 0)) (fun σ1 => nm ((σ1 j 2) >>> ((σ1 j 3) &&& 31)) (fun v2 => nm (up σ1 j 2 ((σ1 j 2) &&& ((1 <<< ((σ1 j 3) &&& 31)) - 1))) (fun σ3 => some (v2, σ3))))
set_option maxHeartbeats 4000000 in
set_option maxRecDepth 100000 in
theorem mX3_removeFirst {l : Launch} {D : va_G} {kS vS : Nat → Nat} {ad : Nat → Nat} {cI cF : ClassId} {j : Nat} {σ σ0 : St} {p1 : Int32} {r : Int32} (hI : Inj ad 18) (hj : jX3 j) (hf : fX3_removeFirst j σ p1 = some (r, σ0)) : MI l D (tyC cI cF) (inA ad 18) kS vS yX3_removeFirst cX3_removeFirst 3 .int 1 21 [.ref (ad j), .int p1] (wC ad cI cF σ) (wC ad cI cF σ0) r := by
  refine MI.of (by decide) (Nat.le_of_ble_eq_true rfl) (fun p e s m args below meth c ls Q hQ C hr hlk hP hS hl => ?_)
  obtain ⟨hx, hb, hml, hown, hts, hK, hKS⟩ := id C
  have hl : lv_has ls 3 [(0, .ref (ad j)), (1, .int p1)] := hl
  unfold fX3_removeFirst at hf
  refine lv_aload_n hx hb dX3_removeFirst_0 rfl (lv_at hl 0 rfl) ?_
  refine lv_iconst (v := 0) hx hb dX3_removeFirst_1 (by decide) ?_
  refine lv_aload_n hx hb dX3_removeFirst_2 rfl (lv_at hl 0 rfl) ?_
  refine GX3_3 C hP hj gt1_132 dX3_removeFirst_3 ?_
  refine lv_iload_n hx hb dX3_removeFirst_6 rfl (lv_at hl 1 rfl) ?_
  refine lv_isub hx hb dX3_removeFirst_7 ?_
  refine va_mmax hx hb (hml.trans hl.1.symm) hown (hts _ gt3_1) (hts _ gt2_141) (hts _ gt1_15) (hts _ gt2_142) (Nat.le_of_ble_eq_true rfl) (Nat.le_of_ble_eq_true rfl) (Nat.zero_le _) (Nat.zero_le _) dX3_removeFirst_8 ?_
  refine PX3_3 hI C hP hS hj gt1_132 rfl rfl dX3_removeFirst_11 (fun σ1 eσ1 H locs hP hS => ?_)
  have hf := nm_at hf σ1 eσ1
  refine lv_aload_n hx hb dX3_removeFirst_14 rfl (lv_at hl 0 rfl) ?_
  refine GX3_2 C hP hj gt1_130 dX3_removeFirst_15 ?_
  refine lv_aload_n hx hb dX3_removeFirst_18 rfl (lv_at hl 0 rfl) ?_
  refine GX3_3 C hP hj gt1_132 dX3_removeFirst_19 ?_
  refine lv_ishr hx hb dX3_removeFirst_22 ?_
  refine lv_topi (fun v2 ev2 => ?_)
  have hf := nm_at hf v2 ev2
  refine lv_istore_n (lv' := [(2, .int v2), (0, .ref (ad j)), (1, .int p1)]) hx hb dX3_removeFirst_23 rfl hl (by decide) rfl (fun ls hl => ?_)
  refine lv_aload_n hx hb dX3_removeFirst_24 rfl (lv_at hl 1 rfl) ?_
  refine lv_aload_n hx hb dX3_removeFirst_25 rfl (lv_at hl 1 rfl) ?_
  refine GX3_2 C hP hj gt1_130 dX3_removeFirst_26 ?_
  refine lv_iconst (v := 1) hx hb dX3_removeFirst_29 (by decide) ?_
  refine lv_aload_n hx hb dX3_removeFirst_30 rfl (lv_at hl 1 rfl) ?_
  refine GX3_3 C hP hj gt1_132 dX3_removeFirst_31 ?_
  refine lv_ishl hx hb dX3_removeFirst_34 ?_
  refine lv_iconst (v := 1) hx hb dX3_removeFirst_35 (by decide) ?_
  refine lv_isub hx hb dX3_removeFirst_36 ?_
  refine lv_iand hx hb dX3_removeFirst_37 ?_
  refine PX3_2 hI C hP hS hj gt1_130 rfl rfl dX3_removeFirst_38 (fun σ3 eσ3 H locs hP hS => ?_)
  have hf := nm_at hf σ3 eσ3
  refine lv_iload_n hx hb dX3_removeFirst_41 rfl (lv_at hl 0 rfl) ?_
  exact MI.ret (wf := wC ad cI cF) hQ C hr hlk rfl hf hP hS dX3_removeFirst_42
def fX7_decodeSign (σ : St) (p1 : Int32) : Option (Int32 × St) := bd (fX1_setStep σ 1) (fun _ σ2 => bd (fX3_keep 17 σ2 p1 6) (fun _ σ4 => (if (σ4 17 3) < 16 then some (0, σ4) else bd (fX3_removeFirst 17 σ4 16) (fun v5 σ6 => bd (fX1_add σ6 v5) (fun _ σ8 => some (0, σ8))))))
set_option maxHeartbeats 4000000 in
set_option maxRecDepth 100000 in
theorem mX7_decodeSign {l : Launch} {D : va_G} {kS vS : Nat → Nat} {ad : Nat → Nat} {cI cF : ClassId} {σ σ0 : St} {p1 : Int32} {r : Int32} (hI : Inj ad 18) (hf : fX7_decodeSign σ p1 = some (r, σ0)) : MV l D (tyC cI cF) (inA ad 18) kS vS yX7_decodeSign cX7_decodeSign 3 2 43 [.ref (ad 15), .int p1, .ref (ad 8)] (wC ad cI cF σ) (wC ad cI cF σ0) := by
  refine MV.of (by decide) (Nat.le_of_ble_eq_true rfl) (fun p e s m args below meth c ls Q hQ C hr hlk hP hS hl => ?_)
  obtain ⟨hx, hb, hml, hown, hts, hK, hKS⟩ := id C
  have hl : lv_has ls 3 [(0, .ref (ad 15)), (1, .int p1), (2, .ref (ad 8))] := hl
  unfold fX7_decodeSign at hf
  refine lv_aload_n hx hb dX7_decodeSign_0 rfl (lv_at hl 2 rfl) ?_
  refine lv_iconst (v := 1) hx hb dX7_decodeSign_1 (by decide) ?_
  obtain ⟨v1, σ2, hc, hf⟩ := bd_at hf
  refine callVV (As := [.int 1]) (rest := []) C (mX1_setStep hI hc) ⟨gt2_104, gt2_47, gt2_48, gt1_6, gt2_49⟩ okX1_setStep ⟨Nat.le_of_ble_eq_true rfl, Nat.le_of_ble_eq_true rfl⟩ (rcvOf C hP (show (wC ad cI cF _)[8]? = some (ad 8, _) from rfl) rfl) rfl hl.1 rfl (Nat.le_of_ble_eq_true rfl) hP hS dX7_decodeSign_2 (fun H locs hP hS => ?_)
  refine lv_aload_n hx hb dX7_decodeSign_5 rfl (lv_at hl 0 rfl) ?_
  refine GX7_1 C hP gt1_144 dX7_decodeSign_6 ?_
  refine lv_iload_n hx hb dX7_decodeSign_9 rfl (lv_at hl 1 rfl) ?_
  refine lv_bipush (v := 6) hx hb dX7_decodeSign_10 (by decide) ?_
  obtain ⟨v3, σ4, hc, hf⟩ := bd_at hf
  refine callVV (As := [.int p1, .int 6]) (rest := []) C (mX3_keep (j := 17) hI (by decide) hc) ⟨gt2_233, gt2_234, gt2_235, gt1_10, gt2_236⟩ okX3_keep ⟨Nat.le_of_ble_eq_true rfl, Nat.le_of_ble_eq_true rfl⟩ (rcvOf C hP (show (wC ad cI cF _)[17]? = some (ad 17, _) from rfl) rfl) rfl hl.1 rfl (Nat.le_of_ble_eq_true rfl) hP hS dX7_decodeSign_12 (fun H locs hP hS => ?_)
  refine lv_aload_n hx hb dX7_decodeSign_15 rfl (lv_at hl 0 rfl) ?_
  refine GX7_1 C hP gt1_144 dX7_decodeSign_16 ?_
  refine GX3_3N C hP (j := 17) (by decide) (by decide) dX7_decodeSign_19 ?_
  refine lv_bipush (v := 16) hx hb dX7_decodeSign_22 (by decide) ?_
  refine lv_icmp_lt (tgt := 40) hx hb dX7_decodeSign_24 (by decide) (fun hc => ?_) (fun hc => ?_)
  · have hf := ite_t hf hc
    exact MV.ret (wf := wC ad cI cF) hQ C hr hlk hf hP hS dX7_decodeSign_40
  · have hf := ite_f hf hc
    refine lv_aload_n hx hb dX7_decodeSign_27 rfl (lv_at hl 2 rfl) ?_
    refine lv_aload_n hx hb dX7_decodeSign_28 rfl (lv_at hl 0 rfl) ?_
    refine GX7_1 C hP gt1_144 dX7_decodeSign_29 ?_
    refine lv_bipush (v := 16) hx hb dX7_decodeSign_32 (by decide) ?_
    obtain ⟨v5, σ6, hc, hf⟩ := bd_at hf
    refine callVI (As := [.int 16]) (rest := [.ref (ad 8)]) C (mX3_removeFirst (j := 17) hI (by decide) hc) ⟨gt2_237, gt2_238, gt2_239, gt1_10, gt3_0⟩ okX3_removeFirst ⟨Nat.le_of_ble_eq_true rfl, Nat.le_of_ble_eq_true rfl⟩ (rcvOf C hP (show (wC ad cI cF _)[17]? = some (ad 17, _) from rfl) rfl) rfl hl.1 rfl (Nat.le_of_ble_eq_true rfl) hP hS dX7_decodeSign_34 (fun H locs hP hS => ?_)
    obtain ⟨v7, σ8, hc, hf⟩ := bd_at hf
    refine callVV (As := [.int v5]) (rest := []) C (mX1_add hI hc) ⟨gt2_223, gt2_51, gt2_52, gt1_6, gt2_53⟩ okX1_add ⟨Nat.le_of_ble_eq_true rfl, Nat.le_of_ble_eq_true rfl⟩ (rcvOf C hP (show (wC ad cI cF _)[8]? = some (ad 8, _) from rfl) rfl) rfl hl.1 rfl (Nat.le_of_ble_eq_true rfl) hP hS dX7_decodeSign_37 (fun H locs hP hS => ?_)
    exact MV.ret (wf := wC ad cI cF) hQ C hr hlk hf hP hS dX7_decodeSign_40
def fX3_becomeShifted (j : Nat) (σ : St) : Option (Int32 × St) := bd (fX3_becomePlain j σ) (fun _ σ2 => nm (up σ2 j 0 1) (fun σ3 => nm (up σ3 j 1 1) (fun σ4 => some (0, σ4))))
set_option maxHeartbeats 4000000 in
set_option maxRecDepth 100000 in
theorem mX3_becomeShifted {l : Launch} {D : va_G} {kS vS : Nat → Nat} {ad : Nat → Nat} {cI cF : ClassId} {j : Nat} {σ σ0 : St} {r : Int32} (hI : Inj ad 18) (hj : jX3 j) (hf : fX3_becomeShifted j σ  = some (r, σ0)) : MV l D (tyC cI cF) (inA ad 18) kS vS yX3_becomeShifted cX3_becomeShifted 1 1 20 [.ref (ad j)] (wC ad cI cF σ) (wC ad cI cF σ0) := by
  refine MV.of (by decide) (Nat.le_of_ble_eq_true rfl) (fun p e s m args below meth c ls Q hQ C hr hlk hP hS hl => ?_)
  obtain ⟨hx, hb, hml, hown, hts, hK, hKS⟩ := id C
  have hl : lv_has ls 1 [(0, .ref (ad j))] := hl
  unfold fX3_becomeShifted at hf
  refine lv_aload_n hx hb dX3_becomeShifted_0 rfl (lv_at hl 0 rfl) ?_
  obtain ⟨v1, σ2, hc, hf⟩ := bd_at hf
  refine callVV (As := []) (rest := []) C (mX3_becomePlain (j := j) hI hj hc) ⟨gt2_232, gt1_222, gt1_223, gt1_10, gt1_224⟩ okX3_becomePlain ⟨Nat.le_of_ble_eq_true rfl, Nat.le_of_ble_eq_true rfl⟩ (rcvOf C hP (eX3 hj) rfl) rfl hl.1 rfl (Nat.le_of_ble_eq_true rfl) hP hS dX3_becomeShifted_1 (fun H locs hP hS => ?_)
  refine lv_aload_n hx hb dX3_becomeShifted_4 rfl (lv_at hl 0 rfl) ?_
  refine lv_iconst (v := 1) hx hb dX3_becomeShifted_5 (by decide) ?_
  refine PX3_0 hI C hP hS hj gt1_126 rfl rfl dX3_becomeShifted_6 (fun σ3 eσ3 H locs hP hS => ?_)
  have hf := nm_at hf σ3 eσ3
  refine lv_aload_n hx hb dX3_becomeShifted_9 rfl (lv_at hl 0 rfl) ?_
  refine lv_iconst (v := 1) hx hb dX3_becomeShifted_10 (by decide) ?_
  refine PX3_1 hI C hP hS hj gt1_128 rfl rfl dX3_becomeShifted_11 (fun σ4 eσ4 H locs hP hS => ?_)
  have hf := nm_at hf σ4 eσ4
  exact MV.ret (wf := wC ad cI cF) hQ C hr hlk hf hP hS dX3_becomeShifted_14
def fX7_decodePlain (σ : St) (p1 : Int32) : Option (Int32 × St) := bd (fX1_setStep σ 1) (fun _ σ2 => (if p1 = 43 then bd (fX3_becomeShifted 17 σ2) (fun _ σ6 => some (0, σ6)) else bd (fX1_add σ2 p1) (fun _ σ4 => some (0, σ4))))
set_option maxHeartbeats 4000000 in
set_option maxRecDepth 100000 in
theorem mX7_decodePlain {l : Launch} {D : va_G} {kS vS : Nat → Nat} {ad : Nat → Nat} {cI cF : ClassId} {σ σ0 : St} {p1 : Int32} {r : Int32} (hI : Inj ad 18) (hf : fX7_decodePlain σ p1 = some (r, σ0)) : MV l D (tyC cI cF) (inA ad 18) kS vS yX7_decodePlain cX7_decodePlain 3 2 43 [.ref (ad 15), .int p1, .ref (ad 8)] (wC ad cI cF σ) (wC ad cI cF σ0) := by
  refine MV.of (by decide) (Nat.le_of_ble_eq_true rfl) (fun p e s m args below meth c ls Q hQ C hr hlk hP hS hl => ?_)
  obtain ⟨hx, hb, hml, hown, hts, hK, hKS⟩ := id C
  have hl : lv_has ls 3 [(0, .ref (ad 15)), (1, .int p1), (2, .ref (ad 8))] := hl
  unfold fX7_decodePlain at hf
  refine lv_aload_n hx hb dX7_decodePlain_0 rfl (lv_at hl 2 rfl) ?_
  refine lv_iconst (v := 1) hx hb dX7_decodePlain_1 (by decide) ?_
  obtain ⟨v1, σ2, hc, hf⟩ := bd_at hf
  refine callVV (As := [.int 1]) (rest := []) C (mX1_setStep hI hc) ⟨gt2_104, gt2_47, gt2_48, gt1_6, gt2_49⟩ okX1_setStep ⟨Nat.le_of_ble_eq_true rfl, Nat.le_of_ble_eq_true rfl⟩ (rcvOf C hP (show (wC ad cI cF _)[8]? = some (ad 8, _) from rfl) rfl) rfl hl.1 rfl (Nat.le_of_ble_eq_true rfl) hP hS dX7_decodePlain_2 (fun H locs hP hS => ?_)
  refine lv_iload_n hx hb dX7_decodePlain_5 rfl (lv_at hl 1 rfl) ?_
  refine lv_bipush (v := 43) hx hb dX7_decodePlain_6 (by decide) ?_
  refine lv_icmp_ne (tgt := 21) hx hb dX7_decodePlain_8 (by decide) (fun hc => ?_) (fun hc => ?_)
  · have hf := ite_f hf hc
    refine lv_aload_n hx hb dX7_decodePlain_21 rfl (lv_at hl 2 rfl) ?_
    refine lv_iload_n hx hb dX7_decodePlain_22 rfl (lv_at hl 1 rfl) ?_
    obtain ⟨v3, σ4, hc, hf⟩ := bd_at hf
    refine callVV (As := [.int p1]) (rest := []) C (mX1_add hI hc) ⟨gt2_223, gt2_51, gt2_52, gt1_6, gt2_53⟩ okX1_add ⟨Nat.le_of_ble_eq_true rfl, Nat.le_of_ble_eq_true rfl⟩ (rcvOf C hP (show (wC ad cI cF _)[8]? = some (ad 8, _) from rfl) rfl) rfl hl.1 rfl (Nat.le_of_ble_eq_true rfl) hP hS dX7_decodePlain_23 (fun H locs hP hS => ?_)
    exact MV.ret (wf := wC ad cI cF) hQ C hr hlk hf hP hS dX7_decodePlain_26
  · have hf := ite_t hf hc
    refine lv_aload_n hx hb dX7_decodePlain_11 rfl (lv_at hl 0 rfl) ?_
    refine GX7_1 C hP gt1_144 dX7_decodePlain_12 ?_
    obtain ⟨v5, σ6, hc, hf⟩ := bd_at hf
    refine callVV (As := []) (rest := []) C (mX3_becomeShifted (j := 17) hI (by decide) hc) ⟨gt2_228, gt2_229, gt2_230, gt1_10, gt2_231⟩ okX3_becomeShifted ⟨Nat.le_of_ble_eq_true rfl, Nat.le_of_ble_eq_true rfl⟩ (rcvOf C hP (show (wC ad cI cF _)[17]? = some (ad 17, _) from rfl) rfl) rfl hl.1 rfl (Nat.le_of_ble_eq_true rfl) hP hS dX7_decodePlain_15 (fun H locs hP hS => ?_)
    refine lv_goto (tgt := 26) hx hb dX7_decodePlain_18 (by decide) ?_
    exact MV.ret (wf := wC ad cI cF) hQ C hr hlk hf hP hS dX7_decodePlain_26
