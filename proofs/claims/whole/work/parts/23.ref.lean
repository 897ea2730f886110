def fX10_putEight_b98 : Nat → St → Int32 → Int32 → Option (Int32 × St)
  | 0, _, _, _ => none
  | n + 1, σ, x1, x3 => (if x3 < 0 then some (0, σ) else bd (fX10_result σ (128 + ((x1 >>> ((6 * x3) &&& 31)) - (x1 >>> ((6 * x3) &&& 31)) / 64 * 64))) (fun _ σ5 => nm (x3 + (-1)) (fun v6 => fX10_putEight_b98 n σ5 x1 v6)))
def fX10_putEight_b82 (σ : St) (x1 x2 y0 : Int32) : Option (Int32 × St) := bd (fX10_result σ (y0 + (x1 >>> ((6 * (x2 - 1)) &&& 31)))) (fun _ σ2 => nm (x2 - 2) (fun v3 => fX10_putEight_b98 200 σ2 x1 v3))
def fX10_putEight_b44 (σ : St) (x1 y0 : Int32) : Option (Int32 × St) := (if y0 = 1 then bd (fX10_result σ x1) (fun _ σ8 => some (0, σ8)) else (if y0 = 2 then fX10_putEight_b82 σ x1 y0 192 else (if y0 = 3 then fX10_putEight_b82 σ x1 y0 224 else fX10_putEight_b82 σ x1 y0 240)))
def fX10_putEight_b22 (σ : St) (x1 : Int32) : Option (Int32 × St) := (if 2048 ≤ x1 then (if 65536 ≤ x1 then fX10_putEight_b44 σ x1 4 else fX10_putEight_b44 σ x1 3) else fX10_putEight_b44 σ x1 2)
def fX10_putEight_b18 (σ : St) (x1 : Int32) : Option (Int32 × St) := fX10_putEight_b44 σ x1 1
def fX10_putEight (σ : St) (p1 : Int32) : Option (Int32 × St) := (if 128 ≤ p1 then fX10_putEight_b22 σ p1 else (if (σ 0 1) = 0 then fX10_putEight_b18 σ p1 else (if p1 ≤ 0 then fX10_putEight_b22 σ p1 else fX10_putEight_b18 σ p1)))
set_option maxHeartbeats 4000000 in
set_option maxRecDepth 100000 in
theorem mX10_putEight {l : Launch} {D : va_G} {kS vS : Nat → Nat} {ad : Nat → Nat} {cI cF : ClassId} {σ σ0 : St} {p1 : Int32} {r : Int32} (hI : Inj ad 5) (hf : fX10_putEight σ p1 = some (r, σ0)) : MV l D (tyC cI cF) (inA ad 5) kS vS yX10_putEight cX10_putEight 4 1 21 [.ref (ad 0), .int p1] (wM ad cI σ) (wM ad cI σ0) := by
  refine MV.of (by decide) (Nat.le_of_ble_eq_true rfl) (fun p e s m args below meth c ls Q hQ C hr hlk hP hS hl => ?_)
  obtain ⟨hx, hb, hml, hown, hts, hK, hKS⟩ := id C
  have hl : lv_has ls 4 [(0, .ref (ad 0)), (1, .int p1)] := hl
  have B98 : ∀ n : Nat, ∀ (σ : St) (x1 x3 : Int32) (H : Heap) (locs : List Loc) (ls : Array Slot), va_P D vwCl (wM ad cI σ) H → va_S (inA ad 5) s.heap H locs → lv_has ls 4 [(0, .ref (ad 0)), (1, .int x1), (3, .int x3)] → fX10_putEight_b98 n σ x1 x3 = some (r, σ0) → W p l e (rmN 1 21) s m args below meth c H locs 0 0 Q (F0 m 98 ls []) := by
    intro n
    induction n with
    | zero =>
      intro σ x1 x3 H locs ls hP hS hl hf
      exact nomatch (show (none : Option (Int32 × St)) = some (r, σ0) from hf)
    | succ n ih =>
      intro σ x1 x3 H locs ls hP hS hl hf
      rw [fX10_putEight_b98] at hf
      refine lv_iload_n hx hb dX10_putEight_98 rfl (lv_at hl 2 rfl) ?_
      refine lv_if_lt (tgt := 125) hx hb dX10_putEight_99 (by decide) (fun hc => ?_) (fun hc => ?_)
      · have hf := ite_t hf hc
        exact MV.ret (wf := wM ad cI) hQ C hr hlk hf hP hS dX10_putEight_125
      · have hf := ite_f hf hc
        refine lv_aload_n hx hb dX10_putEight_102 rfl (lv_at hl 0 rfl) ?_
        refine lv_sipush (v := 128) hx hb dX10_putEight_103 (by decide) ?_
        refine lv_iload_n hx hb dX10_putEight_106 rfl (lv_at hl 1 rfl) ?_
        refine lv_bipush (v := 6) hx hb dX10_putEight_107 (by decide) ?_
        refine lv_iload_n hx hb dX10_putEight_109 rfl (lv_at hl 2 rfl) ?_
        refine lv_imul hx hb dX10_putEight_110 ?_
        refine lv_ishr hx hb dX10_putEight_111 ?_
        refine lv_bipush (v := 64) hx hb dX10_putEight_112 (by decide) ?_
        refine lv_irem hx hb dX10_putEight_114 (by decide) ?_
        refine lv_iadd hx hb dX10_putEight_115 ?_
        obtain ⟨v4, σ5, hc, hf⟩ := bd_at hf
        refine callVV (As := [.int (128 + ((x1 >>> ((6 * x3) &&& 31)) - (x1 >>> ((6 * x3) &&& 31)) / 64 * 64))]) (rest := []) C (mX10_result hI hc) ⟨gt4_192, gt4_194, gtp32, gt1_11, gt4_195⟩ okX10_result ⟨Nat.le_of_ble_eq_true rfl, Nat.le_of_ble_eq_true rfl⟩ (rcvOf C hP (show (wM ad cI _)[0]? = some (ad 0, _) from rfl) rfl) rfl hl.1 rfl (Nat.le_of_ble_eq_true rfl) hP hS dX10_putEight_116 (fun H locs hP hS => ?_)
        obtain ⟨v6, ev6⟩ : ∃ y : Int32, y = x3 + (-1) := ⟨_, rfl⟩
        have hf := nm_at hf v6 ev6
        refine lv_iinc (v := v6) (lv' := [(3, .int v6), (0, .ref (ad 0)), (1, .int x1)]) hx hb dX10_putEight_119 hl (k := 2) rfl (by rw [ev6]; rfl) (by decide) rfl (fun ls hl => ?_)
        refine lv_goto (tgt := 98) hx hb dX10_putEight_122 (by decide) ?_
        exact ih σ5 x1 v6 _ _ _ hP hS (lv_sub hl [1, 2, 0] rfl) hf
  have B82 : ∀ (σ : St) (x1 x2 y0 : Int32) (H : Heap) (locs : List Loc) (ls : Array Slot), va_P D vwCl (wM ad cI σ) H → va_S (inA ad 5) s.heap H locs → lv_has ls 4 [(0, .ref (ad 0)), (1, .int x1), (2, .int x2)] → fX10_putEight_b82 σ x1 x2 y0 = some (r, σ0) → W p l e (rmN 1 21) s m args below meth c H locs 0 0 Q (F0 m 82 ls [.int y0, .ref (ad 0)]) := by
    intro σ x1 x2 y0 H locs ls hP hS hl hf
    unfold fX10_putEight_b82 at hf
    refine lv_iload_n hx hb dX10_putEight_82 rfl (lv_at hl 1 rfl) ?_
    refine lv_bipush (v := 6) hx hb dX10_putEight_83 (by decide) ?_
    refine lv_iload_n hx hb dX10_putEight_85 rfl (lv_at hl 2 rfl) ?_
    refine lv_iconst (v := 1) hx hb dX10_putEight_86 (by decide) ?_
    refine lv_isub hx hb dX10_putEight_87 ?_
    refine lv_imul hx hb dX10_putEight_88 ?_
    refine lv_ishr hx hb dX10_putEight_89 ?_
    refine lv_iadd hx hb dX10_putEight_90 ?_
    obtain ⟨v1, σ2, hc, hf⟩ := bd_at hf
    refine callVV (As := [.int (y0 + (x1 >>> ((6 * (x2 - 1)) &&& 31)))]) (rest := []) C (mX10_result hI hc) ⟨gt4_192, gt4_194, gtp32, gt1_11, gt4_195⟩ okX10_result ⟨Nat.le_of_ble_eq_true rfl, Nat.le_of_ble_eq_true rfl⟩ (rcvOf C hP (show (wM ad cI _)[0]? = some (ad 0, _) from rfl) rfl) rfl hl.1 rfl (Nat.le_of_ble_eq_true rfl) hP hS dX10_putEight_91 (fun H locs hP hS => ?_)
    refine lv_iload_n hx hb dX10_putEight_94 rfl (lv_at hl 2 rfl) ?_
    refine lv_iconst (v := 2) hx hb dX10_putEight_95 (by decide) ?_
    refine lv_isub hx hb dX10_putEight_96 ?_
    refine lv_topi (fun v3 ev3 => ?_)
    have hf := nm_at hf v3 ev3
    refine lv_istore_n (lv' := [(3, .int v3), (0, .ref (ad 0)), (1, .int x1), (2, .int x2)]) hx hb dX10_putEight_97 rfl hl (by decide) rfl (fun ls hl => ?_)
    exact B98 200 σ2 x1 v3 _ _ _ hP hS (lv_sub hl [1, 2, 0] rfl) hf
  have B44 : ∀ (σ : St) (x1 y0 : Int32) (H : Heap) (locs : List Loc) (ls : Array Slot), va_P D vwCl (wM ad cI σ) H → va_S (inA ad 5) s.heap H locs → lv_has ls 4 [(0, .ref (ad 0)), (1, .int x1)] → fX10_putEight_b44 σ x1 y0 = some (r, σ0) → W p l e (rmN 1 21) s m args below meth c H locs 0 0 Q (F0 m 44 ls [.int y0]) := by
    intro σ x1 y0 H locs ls hP hS hl hf
    unfold fX10_putEight_b44 at hf
    refine lv_istore_n (lv' := [(2, .int y0), (0, .ref (ad 0)), (1, .int x1)]) hx hb dX10_putEight_44 rfl hl (by decide) rfl (fun ls hl => ?_)
    refine lv_iload_n hx hb dX10_putEight_45 rfl (lv_at hl 0 rfl) ?_
    refine lv_iconst (v := 1) hx hb dX10_putEight_46 (by decide) ?_
    refine lv_icmp_ne (tgt := 56) hx hb dX10_putEight_47 (by decide) (fun hc => ?_) (fun hc => ?_)
    · have hf := ite_f hf hc
      refine lv_aload_n hx hb dX10_putEight_56 rfl (lv_at hl 1 rfl) ?_
      refine lv_iload_n hx hb dX10_putEight_57 rfl (lv_at hl 0 rfl) ?_
      refine lv_iconst (v := 2) hx hb dX10_putEight_58 (by decide) ?_
      refine lv_icmp_ne (tgt := 68) hx hb dX10_putEight_59 (by decide) (fun hc => ?_) (fun hc => ?_)
      · have hf := ite_f hf hc
        refine lv_iload_n hx hb dX10_putEight_68 rfl (lv_at hl 0 rfl) ?_
        refine lv_iconst (v := 3) hx hb dX10_putEight_69 (by decide) ?_
        refine lv_icmp_ne (tgt := 79) hx hb dX10_putEight_70 (by decide) (fun hc => ?_) (fun hc => ?_)
        · have hf := ite_f hf hc
          refine lv_sipush (v := 240) hx hb dX10_putEight_79 (by decide) ?_
          exact B82 σ x1 y0 240 _ _ _ hP hS (lv_sub hl [1, 2, 0] rfl) hf
        · have hf := ite_t hf hc
          refine lv_sipush (v := 224) hx hb dX10_putEight_73 (by decide) ?_
          refine lv_goto (tgt := 82) hx hb dX10_putEight_76 (by decide) ?_
          exact B82 σ x1 y0 224 _ _ _ hP hS (lv_sub hl [1, 2, 0] rfl) hf
      · have hf := ite_t hf hc
        refine lv_sipush (v := 192) hx hb dX10_putEight_62 (by decide) ?_
        refine lv_goto (tgt := 82) hx hb dX10_putEight_65 (by decide) ?_
        exact B82 σ x1 y0 192 _ _ _ hP hS (lv_sub hl [1, 2, 0] rfl) hf
    · have hf := ite_t hf hc
      refine lv_aload_n hx hb dX10_putEight_50 rfl (lv_at hl 1 rfl) ?_
      refine lv_iload_n hx hb dX10_putEight_51 rfl (lv_at hl 2 rfl) ?_
      obtain ⟨v7, σ8, hc, hf⟩ := bd_at hf
      refine callVV (As := [.int x1]) (rest := []) C (mX10_result hI hc) ⟨gt4_192, gt4_194, gtp32, gt1_11, gt4_195⟩ okX10_result ⟨Nat.le_of_ble_eq_true rfl, Nat.le_of_ble_eq_true rfl⟩ (rcvOf C hP (show (wM ad cI _)[0]? = some (ad 0, _) from rfl) rfl) rfl hl.1 rfl (Nat.le_of_ble_eq_true rfl) hP hS dX10_putEight_52 (fun H locs hP hS => ?_)
      exact MV.ret (wf := wM ad cI) hQ C hr hlk hf hP hS dX10_putEight_55
  have B22 : ∀ (σ : St) (x1 : Int32) (H : Heap) (locs : List Loc) (ls : Array Slot), va_P D vwCl (wM ad cI σ) H → va_S (inA ad 5) s.heap H locs → lv_has ls 4 [(0, .ref (ad 0)), (1, .int x1)] → fX10_putEight_b22 σ x1 = some (r, σ0) → W p l e (rmN 1 21) s m args below meth c H locs 0 0 Q (F0 m 22 ls []) := by
    intro σ x1 H locs ls hP hS hl hf
    unfold fX10_putEight_b22 at hf
    refine lv_iload_n hx hb dX10_putEight_22 rfl (lv_at hl 1 rfl) ?_
    refine lv_sipush (v := 2048) hx hb dX10_putEight_23 (by decide) ?_
    refine lv_icmp_ge (tgt := 33) hx hb dX10_putEight_26 (by decide) (fun hc => ?_) (fun hc => ?_)
    · have hf := ite_t hf hc
      refine lv_iload_n hx hb dX10_putEight_33 rfl (lv_at hl 1 rfl) ?_
      refine lv_ldc hx hb (v := 65536) hown (hts _ gt4_191) dX10_putEight_34 ?_
      refine lv_icmp_ge (tgt := 43) hx hb dX10_putEight_36 (by decide) (fun hc => ?_) (fun hc => ?_)
      · have hf := ite_t hf hc
        refine lv_iconst (v := 4) hx hb dX10_putEight_43 (by decide) ?_
        exact B44 σ x1 4 _ _ _ hP hS (lv_sub hl [0, 1] rfl) hf
      · have hf := ite_f hf hc
        refine lv_iconst (v := 3) hx hb dX10_putEight_39 (by decide) ?_
        refine lv_goto (tgt := 44) hx hb dX10_putEight_40 (by decide) ?_
        exact B44 σ x1 3 _ _ _ hP hS (lv_sub hl [0, 1] rfl) hf
    · have hf := ite_f hf hc
      refine lv_iconst (v := 2) hx hb dX10_putEight_29 (by decide) ?_
      refine lv_goto (tgt := 44) hx hb dX10_putEight_30 (by decide) ?_
      exact B44 σ x1 2 _ _ _ hP hS (lv_sub hl [0, 1] rfl) hf
  have B18 : ∀ (σ : St) (x1 : Int32) (H : Heap) (locs : List Loc) (ls : Array Slot), va_P D vwCl (wM ad cI σ) H → va_S (inA ad 5) s.heap H locs → lv_has ls 4 [(0, .ref (ad 0)), (1, .int x1)] → fX10_putEight_b18 σ x1 = some (r, σ0) → W p l e (rmN 1 21) s m args below meth c H locs 0 0 Q (F0 m 18 ls []) := by
    intro σ x1 H locs ls hP hS hl hf
    unfold fX10_putEight_b18 at hf
    refine lv_iconst (v := 1) hx hb dX10_putEight_18 (by decide) ?_
    refine lv_goto (tgt := 44) hx hb dX10_putEight_19 (by decide) ?_
    exact B44 σ x1 1 _ _ _ hP hS (lv_sub hl [0, 1] rfl) hf
  unfold fX10_putEight at hf
  refine lv_iload_n hx hb dX10_putEight_0 rfl (lv_at hl 1 rfl) ?_
  refine lv_sipush (v := 128) hx hb dX10_putEight_1 (by decide) ?_
  refine lv_icmp_ge (tgt := 22) hx hb dX10_putEight_4 (by decide) (fun hc => ?_) (fun hc => ?_)
  · have hf := ite_t hf hc
    exact B22 σ p1 _ _ _ hP hS (lv_sub hl [0, 1] rfl) hf
  · have hf := ite_f hf hc
    refine lv_aload_n hx hb dX10_putEight_7 rfl (lv_at hl 0 rfl) ?_
    refine GX10_1 C hP gt4_4 dX10_putEight_8 ?_
    refine lv_if_eq (tgt := 18) hx hb dX10_putEight_11 (by decide) (fun hc => ?_) (fun hc => ?_)
    · have hf := ite_t hf hc
      exact B18 σ p1 _ _ _ hP hS (lv_sub hl [0, 1] rfl) hf
    · have hf := ite_f hf hc
      refine lv_iload_n hx hb dX10_putEight_14 rfl (lv_at hl 1 rfl) ?_
      refine lv_if_le (tgt := 22) hx hb dX10_putEight_15 (by decide) (fun hc => ?_) (fun hc => ?_)
      · have hf := ite_t hf hc
        exact B22 σ p1 _ _ _ hP hS (lv_sub hl [0, 1] rfl) hf
      · have hf := ite_f hf hc
        exact B18 σ p1 _ _ _ hP hS (lv_sub hl [0, 1] rfl) hf
def fX10_encodeEight_b57 (σ : St) (x1 : Int32) : Option (Int32 × St) := bd (fX10_low σ x1) (fun v10 σ11 => (if v10 = 0 then ld (σ11 2) 24 1 (fun v14 => bd (fX10_low σ11 v14) (fun v15 σ16 => (if v15 = 0 then bd (fX10_fault σ16 2 1) (fun v22 σ23 => some (v22, σ23)) else ld (σ16 2) 24 1 (fun v17 => bd (fX10_putEight σ16 (((65536 + ((x1 - 55296) * 1024)) + v17) - 56320)) (fun _ σ19 => bd (fX10_step σ19 2) (fun v20 σ21 => some (v20, σ21))))))) else bd (fX10_fault σ11 2 1) (fun v12 σ13 => some (v12, σ13))))
def fX10_encodeEight_b40 (σ : St) (x1 : Int32) : Option (Int32 × St) := bd (fX10_high σ x1) (fun v8 σ9 => (if v8 = 0 then fX10_encodeEight_b57 σ9 x1 else (if (σ9 0 9) = 1 then some (1, σ9) else fX10_encodeEight_b57 σ9 x1)))
def fX10_encodeEight (σ : St) : Option (Int32 × St) := ld (σ 2) 24 0 (fun v1 => (if (σ 0 1) = 1 then bd (fX10_putEight σ v1) (fun _ σ3 => bd (fX10_step σ3 1) (fun v4 σ5 => some (v4, σ5))) else bd (fX10_high σ v1) (fun v6 σ7 => (if v6 = 0 then bd (fX10_low σ7 v1) (fun v24 σ25 => (if v24 = 0 then bd (fX10_putEight σ25 v1) (fun _ σ27 => bd (fX10_step σ27 1) (fun v28 σ29 => some (v28, σ29))) else fX10_encodeEight_b40 σ25 v1)) else fX10_encodeEight_b40 σ7 v1))))
set_option maxHeartbeats 4000000 in
set_option maxRecDepth 100000 in
theorem mX10_encodeEight {l : Launch} {D : va_G} {kS vS : Nat → Nat} {ad : Nat → Nat} {cI cF : ClassId} {σ σ0 : St} {r : Int32} (hI : Inj ad 5) (hf : fX10_encodeEight σ  = some (r, σ0)) : MI l D (tyC cI cF) (inA ad 5) kS vS yX10_encodeEight cX10_encodeEight 2 .int 2 44 [.ref (ad 0)] (wM ad cI σ) (wM ad cI σ0) r := by
  refine MI.of (by decide) (Nat.le_of_ble_eq_true rfl) (fun p e s m args below meth c ls Q hQ C hr hlk hP hS hl => ?_)
  obtain ⟨hx, hb, hml, hown, hts, hK, hKS⟩ := id C
  have hl : lv_has ls 2 [(0, .ref (ad 0))] := hl
  have B57 : ∀ (σ : St) (x1 : Int32) (H : Heap) (locs : List Loc) (ls : Array Slot), va_P D vwCl (wM ad cI σ) H → va_S (inA ad 5) s.heap H locs → lv_has ls 2 [(0, .ref (ad 0)), (1, .int x1)] → fX10_encodeEight_b57 σ x1 = some (r, σ0) → W p l e (rmN 2 44) s m args below meth c H locs 0 0 Q (F0 m 57 ls []) := by
    intro σ x1 H locs ls hP hS hl hf
    unfold fX10_encodeEight_b57 at hf
    refine lv_iload_n hx hb dX10_encodeEight_57 rfl (lv_at hl 1 rfl) ?_
    obtain ⟨v10, σ11, hc, hf⟩ := bd_at hf
    refine callSI (As := [.int x1]) (rest := []) C (mX10_low hI hc) ⟨gt4_182, gt4_183, gt1_11, gt4_184⟩ okX10_low ⟨Nat.le_of_ble_eq_true rfl, Nat.le_of_ble_eq_true rfl⟩ rfl hl.1 rfl (Nat.le_of_ble_eq_true rfl) hP hS dX10_encodeEight_58 (fun H locs hP hS => ?_)
    refine lv_if_ne (tgt := 76) hx hb dX10_encodeEight_61 (by decide) (fun hc => ?_) (fun hc => ?_)
    · have hf := ite_f hf hc
      refine lv_aload_n hx hb dX10_encodeEight_76 rfl (lv_at hl 0 rfl) ?_
      refine lv_iconst (v := 2) hx hb dX10_encodeEight_77 (by decide) ?_
      refine lv_iconst (v := 1) hx hb dX10_encodeEight_78 (by decide) ?_
      obtain ⟨v12, σ13, hc, hf⟩ := bd_at hf
      refine callVI (As := [.int 2, .int 1]) (rest := []) C (mX10_fault hI hc) ⟨gt4_200, gt4_202, gtp34, gt1_11, gt4_203⟩ okX10_fault ⟨Nat.le_of_ble_eq_true rfl, Nat.le_of_ble_eq_true rfl⟩ (rcvOf C hP (show (wM ad cI _)[0]? = some (ad 0, _) from rfl) rfl) rfl hl.1 rfl (Nat.le_of_ble_eq_true rfl) hP hS dX10_encodeEight_79 (fun H locs hP hS => ?_)
      exact MI.ret (wf := wM ad cI) hQ C hr hlk rfl hf hP hS dX10_encodeEight_82
    · have hf := ite_t hf hc
      refine lv_aload_n hx hb dX10_encodeEight_64 rfl (lv_at hl 0 rfl) ?_
      refine GX10_8 C hP gt4_11 dX10_encodeEight_65 ?_
      refine lv_iconst (v := 1) hx hb dX10_encodeEight_68 (by decide) ?_
      obtain ⟨hin, hf⟩ := ld_at hf
      refine aload C hP 2 rfl rfl hin dX10_encodeEight_69 (fun v14 ev14 => ?_)
      have hf := hf v14 ev14
      obtain ⟨v15, σ16, hc, hf⟩ := bd_at hf
      refine callSI (As := [.int v14]) (rest := []) C (mX10_low hI hc) ⟨gt4_182, gt4_183, gt1_11, gt4_184⟩ okX10_low ⟨Nat.le_of_ble_eq_true rfl, Nat.le_of_ble_eq_true rfl⟩ rfl hl.1 rfl (Nat.le_of_ble_eq_true rfl) hP hS dX10_encodeEight_70 (fun H locs hP hS => ?_)
      refine lv_if_ne (tgt := 83) hx hb dX10_encodeEight_73 (by decide) (fun hc => ?_) (fun hc => ?_)
      · have hf := ite_f hf hc
        refine lv_aload_n hx hb dX10_encodeEight_83 rfl (lv_at hl 0 rfl) ?_
        refine lv_ldc hx hb (v := 65536) hown (hts _ gt4_191) dX10_encodeEight_84 ?_
        refine lv_iload_n hx hb dX10_encodeEight_86 rfl (lv_at hl 1 rfl) ?_
        refine lv_ldc hx hb (v := 55296) hown (hts _ gt4_180) dX10_encodeEight_87 ?_
        refine lv_isub hx hb dX10_encodeEight_89 ?_
        refine lv_sipush (v := 1024) hx hb dX10_encodeEight_90 (by decide) ?_
        refine lv_imul hx hb dX10_encodeEight_93 ?_
        refine lv_iadd hx hb dX10_encodeEight_94 ?_
        refine lv_aload_n hx hb dX10_encodeEight_95 rfl (lv_at hl 0 rfl) ?_
        refine GX10_8 C hP gt4_11 dX10_encodeEight_96 ?_
        refine lv_iconst (v := 1) hx hb dX10_encodeEight_99 (by decide) ?_
        obtain ⟨hin, hf⟩ := ld_at hf
        refine aload C hP 2 rfl rfl hin dX10_encodeEight_100 (fun v17 ev17 => ?_)
        have hf := hf v17 ev17
        refine lv_iadd hx hb dX10_encodeEight_101 ?_
        refine lv_ldc hx hb (v := 56320) hown (hts _ gt4_185) dX10_encodeEight_102 ?_
        refine lv_isub hx hb dX10_encodeEight_104 ?_
        obtain ⟨v18, σ19, hc, hf⟩ := bd_at hf
        refine callVV (As := [.int (((65536 + ((x1 - 55296) * 1024)) + v17) - 56320)]) (rest := []) C (mX10_putEight hI hc) ⟨gt4_187, gt4_189, gtp31, gt1_11, gt4_190⟩ okX10_putEight ⟨Nat.le_of_ble_eq_true rfl, Nat.le_of_ble_eq_true rfl⟩ (rcvOf C hP (show (wM ad cI _)[0]? = some (ad 0, _) from rfl) rfl) rfl hl.1 rfl (Nat.le_of_ble_eq_true rfl) hP hS dX10_encodeEight_105 (fun H locs hP hS => ?_)
        refine lv_aload_n hx hb dX10_encodeEight_108 rfl (lv_at hl 0 rfl) ?_
        refine lv_iconst (v := 2) hx hb dX10_encodeEight_109 (by decide) ?_
        obtain ⟨v20, σ21, hc, hf⟩ := bd_at hf
        refine callVI (As := [.int 2]) (rest := []) C (mX10_step hI hc) ⟨gt4_196, gt4_198, gtp33, gt1_11, gt4_199⟩ okX10_step ⟨Nat.le_of_ble_eq_true rfl, Nat.le_of_ble_eq_true rfl⟩ (rcvOf C hP (show (wM ad cI _)[0]? = some (ad 0, _) from rfl) rfl) rfl hl.1 rfl (Nat.le_of_ble_eq_true rfl) hP hS dX10_encodeEight_110 (fun H locs hP hS => ?_)
        exact MI.ret (wf := wM ad cI) hQ C hr hlk rfl hf hP hS dX10_encodeEight_113
      · have hf := ite_t hf hc
        refine lv_aload_n hx hb dX10_encodeEight_76 rfl (lv_at hl 0 rfl) ?_
        refine lv_iconst (v := 2) hx hb dX10_encodeEight_77 (by decide) ?_
        refine lv_iconst (v := 1) hx hb dX10_encodeEight_78 (by decide) ?_
        obtain ⟨v22, σ23, hc, hf⟩ := bd_at hf
        refine callVI (As := [.int 2, .int 1]) (rest := []) C (mX10_fault hI hc) ⟨gt4_200, gt4_202, gtp34, gt1_11, gt4_203⟩ okX10_fault ⟨Nat.le_of_ble_eq_true rfl, Nat.le_of_ble_eq_true rfl⟩ (rcvOf C hP (show (wM ad cI _)[0]? = some (ad 0, _) from rfl) rfl) rfl hl.1 rfl (Nat.le_of_ble_eq_true rfl) hP hS dX10_encodeEight_79 (fun H locs hP hS => ?_)
        exact MI.ret (wf := wM ad cI) hQ C hr hlk rfl hf hP hS dX10_encodeEight_82
  have B40 : ∀ (σ : St) (x1 : Int32) (H : Heap) (locs : List Loc) (ls : Array Slot), va_P D vwCl (wM ad cI σ) H → va_S (inA ad 5) s.heap H locs → lv_has ls 2 [(0, .ref (ad 0)), (1, .int x1)] → fX10_encodeEight_b40 σ x1 = some (r, σ0) → W p l e (rmN 2 44) s m args below meth c H locs 0 0 Q (F0 m 40 ls []) := by
    intro σ x1 H locs ls hP hS hl hf
    unfold fX10_encodeEight_b40 at hf
    refine lv_iload_n hx hb dX10_encodeEight_40 rfl (lv_at hl 1 rfl) ?_
    obtain ⟨v8, σ9, hc, hf⟩ := bd_at hf
    refine callSI (As := [.int x1]) (rest := []) C (mX10_high hI hc) ⟨gt4_177, gt4_178, gt1_11, gt4_179⟩ okX10_high ⟨Nat.le_of_ble_eq_true rfl, Nat.le_of_ble_eq_true rfl⟩ rfl hl.1 rfl (Nat.le_of_ble_eq_true rfl) hP hS dX10_encodeEight_41 (fun H locs hP hS => ?_)
    refine lv_if_eq (tgt := 57) hx hb dX10_encodeEight_44 (by decide) (fun hc => ?_) (fun hc => ?_)
    · have hf := ite_t hf hc
      exact B57 σ9 x1 _ _ _ hP hS (lv_sub hl [0, 1] rfl) hf
    · have hf := ite_f hf hc
      refine lv_aload_n hx hb dX10_encodeEight_47 rfl (lv_at hl 0 rfl) ?_
      refine GX10_9 C hP gt4_12 dX10_encodeEight_48 ?_
      refine lv_iconst (v := 1) hx hb dX10_encodeEight_51 (by decide) ?_
      refine lv_icmp_ne (tgt := 57) hx hb dX10_encodeEight_52 (by decide) (fun hc => ?_) (fun hc => ?_)
      · have hf := ite_f hf hc
        exact B57 σ9 x1 _ _ _ hP hS (lv_sub hl [0, 1] rfl) hf
      · have hf := ite_t hf hc
        refine lv_iconst (v := 1) hx hb dX10_encodeEight_55 (by decide) ?_
        exact MI.ret (wf := wM ad cI) hQ C hr hlk rfl hf hP hS dX10_encodeEight_56
  unfold fX10_encodeEight at hf
  refine lv_aload_n hx hb dX10_encodeEight_0 rfl (lv_at hl 0 rfl) ?_
  refine GX10_8 C hP gt4_11 dX10_encodeEight_1 ?_
  refine lv_iconst (v := 0) hx hb dX10_encodeEight_4 (by decide) ?_
  obtain ⟨hin, hf⟩ := ld_at hf
  refine aload C hP 2 rfl rfl hin dX10_encodeEight_5 (fun v1 ev1 => ?_)
  have hf := hf v1 ev1
  refine lv_istore_n (lv' := [(1, .int v1), (0, .ref (ad 0))]) hx hb dX10_encodeEight_6 rfl hl (by decide) rfl (fun ls hl => ?_)
  refine lv_aload_n hx hb dX10_encodeEight_7 rfl (lv_at hl 1 rfl) ?_
  refine GX10_1 C hP gt4_4 dX10_encodeEight_8 ?_
  refine lv_iconst (v := 1) hx hb dX10_encodeEight_11 (by decide) ?_
  refine lv_icmp_eq (tgt := 29) hx hb dX10_encodeEight_12 (by decide) (fun hc => ?_) (fun hc => ?_)
  · have hf := ite_t hf hc
    refine lv_aload_n hx hb dX10_encodeEight_29 rfl (lv_at hl 1 rfl) ?_
    refine lv_iload_n hx hb dX10_encodeEight_30 rfl (lv_at hl 0 rfl) ?_
    obtain ⟨v2, σ3, hc, hf⟩ := bd_at hf
    refine callVV (As := [.int v1]) (rest := []) C (mX10_putEight hI hc) ⟨gt4_187, gt4_189, gtp31, gt1_11, gt4_190⟩ okX10_putEight ⟨Nat.le_of_ble_eq_true rfl, Nat.le_of_ble_eq_true rfl⟩ (rcvOf C hP (show (wM ad cI _)[0]? = some (ad 0, _) from rfl) rfl) rfl hl.1 rfl (Nat.le_of_ble_eq_true rfl) hP hS dX10_encodeEight_31 (fun H locs hP hS => ?_)
    refine lv_aload_n hx hb dX10_encodeEight_34 rfl (lv_at hl 1 rfl) ?_
    refine lv_iconst (v := 1) hx hb dX10_encodeEight_35 (by decide) ?_
    obtain ⟨v4, σ5, hc, hf⟩ := bd_at hf
    refine callVI (As := [.int 1]) (rest := []) C (mX10_step hI hc) ⟨gt4_196, gt4_198, gtp33, gt1_11, gt4_199⟩ okX10_step ⟨Nat.le_of_ble_eq_true rfl, Nat.le_of_ble_eq_true rfl⟩ (rcvOf C hP (show (wM ad cI _)[0]? = some (ad 0, _) from rfl) rfl) rfl hl.1 rfl (Nat.le_of_ble_eq_true rfl) hP hS dX10_encodeEight_36 (fun H locs hP hS => ?_)
    exact MI.ret (wf := wM ad cI) hQ C hr hlk rfl hf hP hS dX10_encodeEight_39
  · have hf := ite_f hf hc
    refine lv_iload_n hx hb dX10_encodeEight_15 rfl (lv_at hl 0 rfl) ?_
    obtain ⟨v6, σ7, hc, hf⟩ := bd_at hf
    refine callSI (As := [.int v1]) (rest := []) C (mX10_high hI hc) ⟨gt4_177, gt4_178, gt1_11, gt4_179⟩ okX10_high ⟨Nat.le_of_ble_eq_true rfl, Nat.le_of_ble_eq_true rfl⟩ rfl hl.1 rfl (Nat.le_of_ble_eq_true rfl) hP hS dX10_encodeEight_16 (fun H locs hP hS => ?_)
    refine lv_if_ne (tgt := 40) hx hb dX10_encodeEight_19 (by decide) (fun hc => ?_) (fun hc => ?_)
    · have hf := ite_f hf hc
      exact B40 σ7 v1 _ _ _ hP hS (lv_sub hl [1, 0] rfl) hf
    · have hf := ite_t hf hc
      refine lv_iload_n hx hb dX10_encodeEight_22 rfl (lv_at hl 0 rfl) ?_
      obtain ⟨v24, σ25, hc, hf⟩ := bd_at hf
      refine callSI (As := [.int v1]) (rest := []) C (mX10_low hI hc) ⟨gt4_182, gt4_183, gt1_11, gt4_184⟩ okX10_low ⟨Nat.le_of_ble_eq_true rfl, Nat.le_of_ble_eq_true rfl⟩ rfl hl.1 rfl (Nat.le_of_ble_eq_true rfl) hP hS dX10_encodeEight_23 (fun H locs hP hS => ?_)
      refine lv_if_ne (tgt := 40) hx hb dX10_encodeEight_26 (by decide) (fun hc => ?_) (fun hc => ?_)
      · have hf := ite_f hf hc
        exact B40 σ25 v1 _ _ _ hP hS (lv_sub hl [1, 0] rfl) hf
      · have hf := ite_t hf hc
        refine lv_aload_n hx hb dX10_encodeEight_29 rfl (lv_at hl 1 rfl) ?_
        refine lv_iload_n hx hb dX10_encodeEight_30 rfl (lv_at hl 0 rfl) ?_
        obtain ⟨v26, σ27, hc, hf⟩ := bd_at hf
        refine callVV (As := [.int v1]) (rest := []) C (mX10_putEight hI hc) ⟨gt4_187, gt4_189, gtp31, gt1_11, gt4_190⟩ okX10_putEight ⟨Nat.le_of_ble_eq_true rfl, Nat.le_of_ble_eq_true rfl⟩ (rcvOf C hP (show (wM ad cI _)[0]? = some (ad 0, _) from rfl) rfl) rfl hl.1 rfl (Nat.le_of_ble_eq_true rfl) hP hS dX10_encodeEight_31 (fun H locs hP hS => ?_)
        refine lv_aload_n hx hb dX10_encodeEight_34 rfl (lv_at hl 1 rfl) ?_
        refine lv_iconst (v := 1) hx hb dX10_encodeEight_35 (by decide) ?_
        obtain ⟨v28, σ29, hc, hf⟩ := bd_at hf
        refine callVI (As := [.int 1]) (rest := []) C (mX10_step hI hc) ⟨gt4_196, gt4_198, gtp33, gt1_11, gt4_199⟩ okX10_step ⟨Nat.le_of_ble_eq_true rfl, Nat.le_of_ble_eq_true rfl⟩ (rcvOf C hP (show (wM ad cI _)[0]? = some (ad 0, _) from rfl) rfl) rfl hl.1 rfl (Nat.le_of_ble_eq_true rfl) hP hS dX10_encodeEight_36 (fun H locs hP hS => ?_)
        exact MI.ret (wf := wM ad cI) hQ C hr hlk rfl hf hP hS dX10_encodeEight_39
def fX10_look (σ : St) : Option (Int32 × St) := nm (up σ 0 26 0) (fun σ1 => nm (up σ1 0 24 0) (fun σ2 => zk (σ2 0 18) (nm (up σ2 0 27 (σ2 0 18)) (fun σ3 => zk (σ3 0 19) (nm (up σ3 0 28 (σ3 0 19)) (fun σ4 => nm (up σ4 0 29 (σ4 0 20)) (fun σ5 => nm (up σ5 0 30 (σ5 0 21)) (fun σ6 => zk (σ6 0 17) (nm (up σ6 0 31 (σ6 0 17)) (fun σ7 => (if (σ7 0 9) = 0 then some (1, σ7) else (if 2 ≤ (σ7 0 1) then (if 5 ≤ (σ7 0 1) then (if (σ7 0 1) = 5 then (if (σ7 0 2) = 0 then bd (fX10_decodeSeven σ7) (fun v12 σ13 => some (v12, σ13)) else bd (fX10_encodeSeven σ7) (fun v14 σ15 => some (v14, σ15))) else (if (σ7 0 2) = 0 then bd (fX10_decodePage σ7) (fun v8 σ9 => some (v8, σ9)) else bd (fX10_encodePage σ7) (fun v10 σ11 => some (v10, σ11)))) else (if (σ7 0 2) = 0 then bd (fX10_decodeSixteen σ7) (fun v16 σ17 => some (v16, σ17)) else bd (fX10_encodeSixteen σ7) (fun v18 σ19 => some (v18, σ19)))) else (if (σ7 0 2) = 0 then bd (fX10_decodeEight σ7) (fun v20 σ21 => some (v20, σ21)) else bd (fX10_encodeEight σ7) (fun v22 σ23 => some (v22, σ23)))))))))))))))
set_option maxHeartbeats 4000000 in
set_option maxRecDepth 100000 in
theorem mX10_look {l : Launch} {D : va_G} {kS vS : Nat → Nat} {ad : Nat → Nat} {cI cF : ClassId} {σ σ0 : St} {r : Int32} (hI : Inj ad 5) (hf : fX10_look σ  = some (r, σ0)) : MI l D (tyC cI cF) (inA ad 5) kS vS yX10_look cX10_look 1 .int 3 69 [.ref (ad 0)] (wM ad cI σ) (wM ad cI σ0) r := by
  refine MI.of (by decide) (Nat.le_of_ble_eq_true rfl) (fun p e s m args below meth c ls Q hQ C hr hlk hP hS hl => ?_)
  obtain ⟨hx, hb, hml, hown, hts, hK, hKS⟩ := id C
  have hl : lv_has ls 1 [(0, .ref (ad 0))] := hl
  unfold fX10_look at hf
  refine lv_aload_n hx hb dX10_look_0 rfl (lv_at hl 0 rfl) ?_
  refine lv_iconst (v := 0) hx hb dX10_look_1 (by decide) ?_
  refine PX10_26 hI C hP hS gt4_29 rfl rfl dX10_look_2 (fun σ1 eσ1 H locs hP hS => ?_)
  have hf := nm_at hf σ1 eσ1
  refine lv_aload_n hx hb dX10_look_5 rfl (lv_at hl 0 rfl) ?_
  refine lv_iconst (v := 0) hx hb dX10_look_6 (by decide) ?_
  refine PX10_24 hI C hP hS gt4_27 rfl rfl dX10_look_7 (fun σ2 eσ2 H locs hP hS => ?_)
  have hf := nm_at hf σ2 eσ2
  refine lv_aload_n hx hb dX10_look_10 rfl (lv_at hl 0 rfl) ?_
  refine lv_aload_n hx hb dX10_look_11 rfl (lv_at hl 0 rfl) ?_
  refine GX10_18 C hP gt4_21 dX10_look_12 ?_
  obtain ⟨hz, hf⟩ := zk_at hf
  refine PX10_27 hI C hP hS gt4_30 (zn hz) (zf hz) dX10_look_15 (fun σ3 eσ3 H locs hP hS => ?_)
  have hf := nm_at hf σ3 eσ3
  refine lv_aload_n hx hb dX10_look_18 rfl (lv_at hl 0 rfl) ?_
  refine lv_aload_n hx hb dX10_look_19 rfl (lv_at hl 0 rfl) ?_
  refine GX10_19 C hP gt4_22 dX10_look_20 ?_
  obtain ⟨hz, hf⟩ := zk_at hf
  refine PX10_28 hI C hP hS gt4_31 (zn hz) (zf hz) dX10_look_23 (fun σ4 eσ4 H locs hP hS => ?_)
  have hf := nm_at hf σ4 eσ4
  refine lv_aload_n hx hb dX10_look_26 rfl (lv_at hl 0 rfl) ?_
  refine lv_aload_n hx hb dX10_look_27 rfl (lv_at hl 0 rfl) ?_
  refine GX10_20 C hP gt4_23 dX10_look_28 ?_
  refine PX10_29 hI C hP hS gt4_32 rfl rfl dX10_look_31 (fun σ5 eσ5 H locs hP hS => ?_)
  have hf := nm_at hf σ5 eσ5
  refine lv_aload_n hx hb dX10_look_34 rfl (lv_at hl 0 rfl) ?_
  refine lv_aload_n hx hb dX10_look_35 rfl (lv_at hl 0 rfl) ?_
  refine GX10_21 C hP gt4_24 dX10_look_36 ?_
  refine PX10_30 hI C hP hS gt4_33 rfl rfl dX10_look_39 (fun σ6 eσ6 H locs hP hS => ?_)
  have hf := nm_at hf σ6 eσ6
  refine lv_aload_n hx hb dX10_look_42 rfl (lv_at hl 0 rfl) ?_
  refine lv_aload_n hx hb dX10_look_43 rfl (lv_at hl 0 rfl) ?_
  refine GX10_17 C hP gt4_20 dX10_look_44 ?_
  obtain ⟨hz, hf⟩ := zk_at hf
  refine PX10_31 hI C hP hS gt4_34 (zn hz) (zf hz) dX10_look_47 (fun σ7 eσ7 H locs hP hS => ?_)
  have hf := nm_at hf σ7 eσ7
  refine lv_aload_n hx hb dX10_look_50 rfl (lv_at hl 0 rfl) ?_
  refine GX10_9 C hP gt4_12 dX10_look_51 ?_
  refine lv_if_ne (tgt := 59) hx hb dX10_look_54 (by decide) (fun hc => ?_) (fun hc => ?_)
  · have hf := ite_f hf hc
    refine lv_aload_n hx hb dX10_look_59 rfl (lv_at hl 0 rfl) ?_
    refine GX10_1 C hP gt4_4 dX10_look_60 ?_
    refine lv_iconst (v := 2) hx hb dX10_look_63 (by decide) ?_
    refine lv_icmp_ge (tgt := 86) hx hb dX10_look_64 (by decide) (fun hc => ?_) (fun hc => ?_)
    · have hf := ite_t hf hc
      refine lv_aload_n hx hb dX10_look_86 rfl (lv_at hl 0 rfl) ?_
      refine GX10_1 C hP gt4_4 dX10_look_87 ?_
      refine lv_iconst (v := 5) hx hb dX10_look_90 (by decide) ?_
      refine lv_icmp_ge (tgt := 113) hx hb dX10_look_91 (by decide) (fun hc => ?_) (fun hc => ?_)
      · have hf := ite_t hf hc
        refine lv_aload_n hx hb dX10_look_113 rfl (lv_at hl 0 rfl) ?_
        refine GX10_1 C hP gt4_4 dX10_look_114 ?_
        refine lv_iconst (v := 5) hx hb dX10_look_117 (by decide) ?_
        refine lv_icmp_ne (tgt := 140) hx hb dX10_look_118 (by decide) (fun hc => ?_) (fun hc => ?_)
        · have hf := ite_f hf hc
          refine lv_aload_n hx hb dX10_look_140 rfl (lv_at hl 0 rfl) ?_
          refine GX10_2 C hP gt4_5 dX10_look_141 ?_
          refine lv_if_eq (tgt := 154) hx hb dX10_look_144 (by decide) (fun hc => ?_) (fun hc => ?_)
          · have hf := ite_t hf hc
            refine lv_aload_n hx hb dX10_look_154 rfl (lv_at hl 0 rfl) ?_
            obtain ⟨v8, σ9, hc, hf⟩ := bd_at hf
            refine callVI (As := []) (rest := []) C (mX10_decodePage hI hc) ⟨gt5_25, gt5_27, gtp47, gt1_11, gt5_28⟩ okX10_decodePage ⟨Nat.le_of_ble_eq_true rfl, Nat.le_of_ble_eq_true rfl⟩ (rcvOf C hP (show (wM ad cI _)[0]? = some (ad 0, _) from rfl) rfl) rfl hl.1 rfl (Nat.le_of_ble_eq_true rfl) hP hS dX10_look_155 (fun H locs hP hS => ?_)
            exact MI.ret (wf := wM ad cI) hQ C hr hlk rfl hf hP hS dX10_look_158
          · have hf := ite_f hf hc
            refine lv_aload_n hx hb dX10_look_147 rfl (lv_at hl 0 rfl) ?_
            obtain ⟨v10, σ11, hc, hf⟩ := bd_at hf
            refine callVI (As := []) (rest := []) C (mX10_encodePage hI hc) ⟨gt5_21, gt5_23, gtp46, gt1_11, gt5_24⟩ okX10_encodePage ⟨Nat.le_of_ble_eq_true rfl, Nat.le_of_ble_eq_true rfl⟩ (rcvOf C hP (show (wM ad cI _)[0]? = some (ad 0, _) from rfl) rfl) rfl hl.1 rfl (Nat.le_of_ble_eq_true rfl) hP hS dX10_look_148 (fun H locs hP hS => ?_)
            refine lv_goto (tgt := 158) hx hb dX10_look_151 (by decide) ?_
            exact MI.ret (wf := wM ad cI) hQ C hr hlk rfl hf hP hS dX10_look_158
        · have hf := ite_t hf hc
          refine lv_aload_n hx hb dX10_look_121 rfl (lv_at hl 0 rfl) ?_
          refine GX10_2 C hP gt4_5 dX10_look_122 ?_
          refine lv_if_eq (tgt := 135) hx hb dX10_look_125 (by decide) (fun hc => ?_) (fun hc => ?_)
          · have hf := ite_t hf hc
            refine lv_aload_n hx hb dX10_look_135 rfl (lv_at hl 0 rfl) ?_
            obtain ⟨v12, σ13, hc, hf⟩ := bd_at hf
            refine callVI (As := []) (rest := []) C (mX10_decodeSeven hI hc) ⟨gt5_14, gt5_16, gtp45, gt1_11, gt5_17⟩ okX10_decodeSeven ⟨Nat.le_of_ble_eq_true rfl, Nat.le_of_ble_eq_true rfl⟩ (rcvOf C hP (show (wM ad cI _)[0]? = some (ad 0, _) from rfl) rfl) rfl hl.1 rfl (Nat.le_of_ble_eq_true rfl) hP hS dX10_look_136 (fun H locs hP hS => ?_)
            exact MI.ret (wf := wM ad cI) hQ C hr hlk rfl hf hP hS dX10_look_139
          · have hf := ite_f hf hc
            refine lv_aload_n hx hb dX10_look_128 rfl (lv_at hl 0 rfl) ?_
            obtain ⟨v14, σ15, hc, hf⟩ := bd_at hf
            refine callVI (As := []) (rest := []) C (mX10_encodeSeven hI hc) ⟨gt5_0, gt5_2, gtp43, gt1_11, gt5_3⟩ okX10_encodeSeven ⟨Nat.le_of_ble_eq_true rfl, Nat.le_of_ble_eq_true rfl⟩ (rcvOf C hP (show (wM ad cI _)[0]? = some (ad 0, _) from rfl) rfl) rfl hl.1 rfl (Nat.le_of_ble_eq_true rfl) hP hS dX10_look_129 (fun H locs hP hS => ?_)
            refine lv_goto (tgt := 139) hx hb dX10_look_132 (by decide) ?_
            exact MI.ret (wf := wM ad cI) hQ C hr hlk rfl hf hP hS dX10_look_139
      · have hf := ite_f hf hc
        refine lv_aload_n hx hb dX10_look_94 rfl (lv_at hl 0 rfl) ?_
        refine GX10_2 C hP gt4_5 dX10_look_95 ?_
        refine lv_if_eq (tgt := 108) hx hb dX10_look_98 (by decide) (fun hc => ?_) (fun hc => ?_)
        · have hf := ite_t hf hc
          refine lv_aload_n hx hb dX10_look_108 rfl (lv_at hl 0 rfl) ?_
          obtain ⟨v16, σ17, hc, hf⟩ := bd_at hf
          refine callVI (As := []) (rest := []) C (mX10_decodeSixteen hI hc) ⟨gt4_232, gt4_234, gtp41, gt1_11, gt4_235⟩ okX10_decodeSixteen ⟨Nat.le_of_ble_eq_true rfl, Nat.le_of_ble_eq_true rfl⟩ (rcvOf C hP (show (wM ad cI _)[0]? = some (ad 0, _) from rfl) rfl) rfl hl.1 rfl (Nat.le_of_ble_eq_true rfl) hP hS dX10_look_109 (fun H locs hP hS => ?_)
          exact MI.ret (wf := wM ad cI) hQ C hr hlk rfl hf hP hS dX10_look_112
        · have hf := ite_f hf hc
          refine lv_aload_n hx hb dX10_look_101 rfl (lv_at hl 0 rfl) ?_
          obtain ⟨v18, σ19, hc, hf⟩ := bd_at hf
          refine callVI (As := []) (rest := []) C (mX10_encodeSixteen hI hc) ⟨gt4_224, gt4_226, gtp39, gt1_11, gt4_227⟩ okX10_encodeSixteen ⟨Nat.le_of_ble_eq_true rfl, Nat.le_of_ble_eq_true rfl⟩ (rcvOf C hP (show (wM ad cI _)[0]? = some (ad 0, _) from rfl) rfl) rfl hl.1 rfl (Nat.le_of_ble_eq_true rfl) hP hS dX10_look_102 (fun H locs hP hS => ?_)
          refine lv_goto (tgt := 112) hx hb dX10_look_105 (by decide) ?_
          exact MI.ret (wf := wM ad cI) hQ C hr hlk rfl hf hP hS dX10_look_112
    · have hf := ite_f hf hc
      refine lv_aload_n hx hb dX10_look_67 rfl (lv_at hl 0 rfl) ?_
      refine GX10_2 C hP gt4_5 dX10_look_68 ?_
      refine lv_if_eq (tgt := 81) hx hb dX10_look_71 (by decide) (fun hc => ?_) (fun hc => ?_)
      · have hf := ite_t hf hc
        refine lv_aload_n hx hb dX10_look_81 rfl (lv_at hl 0 rfl) ?_
        obtain ⟨v20, σ21, hc, hf⟩ := bd_at hf
        refine callVI (As := []) (rest := []) C (mX10_decodeEight hI hc) ⟨gt4_204, gt4_206, gtp35, gt1_11, gt4_207⟩ okX10_decodeEight ⟨Nat.le_of_ble_eq_true rfl, Nat.le_of_ble_eq_true rfl⟩ (rcvOf C hP (show (wM ad cI _)[0]? = some (ad 0, _) from rfl) rfl) rfl hl.1 rfl (Nat.le_of_ble_eq_true rfl) hP hS dX10_look_82 (fun H locs hP hS => ?_)
        exact MI.ret (wf := wM ad cI) hQ C hr hlk rfl hf hP hS dX10_look_85
      · have hf := ite_f hf hc
        refine lv_aload_n hx hb dX10_look_74 rfl (lv_at hl 0 rfl) ?_
        obtain ⟨v22, σ23, hc, hf⟩ := bd_at hf
        refine callVI (As := []) (rest := []) C (mX10_encodeEight hI hc) ⟨gt4_173, gt4_175, gtp30, gt1_11, gt4_176⟩ okX10_encodeEight ⟨Nat.le_of_ble_eq_true rfl, Nat.le_of_ble_eq_true rfl⟩ (rcvOf C hP (show (wM ad cI _)[0]? = some (ad 0, _) from rfl) rfl) rfl hl.1 rfl (Nat.le_of_ble_eq_true rfl) hP hS dX10_look_75 (fun H locs hP hS => ?_)
        refine lv_goto (tgt := 85) hx hb dX10_look_78 (by decide) ?_
        exact MI.ret (wf := wM ad cI) hQ C hr hlk rfl hf hP hS dX10_look_85
  · have hf := ite_t hf hc
    refine lv_iconst (v := 1) hx hb dX10_look_57 (by decide) ?_
    exact MI.ret (wf := wM ad cI) hQ C hr hlk rfl hf hP hS dX10_look_58
def fX10_fits (σ : St) (p1 : Int32) : Option (Int32 × St) := (if p1 = 0 then some (1, σ) else (if (σ 0 6) < ((σ 0 11) + p1) then some (0, σ) else some (1, σ)))
set_option maxHeartbeats 4000000 in
set_option maxRecDepth 100000 in
theorem mX10_fits {l : Launch} {D : va_G} {kS vS : Nat → Nat} {ad : Nat → Nat} {cI cF : ClassId} {σ σ0 : St} {p1 : Int32} {r : Int32} (hI : Inj ad 5) (hf : fX10_fits σ p1 = some (r, σ0)) : MI l D (tyC cI cF) (inA ad 5) kS vS yX10_fits cX10_fits 2 .boolean 0 0 [.ref (ad 0), .int p1] (wM ad cI σ) (wM ad cI σ0) r := by
  refine MI.of (by decide) (Nat.le_of_ble_eq_true rfl) (fun p e s m args below meth c ls Q hQ C hr hlk hP hS hl => ?_)
  obtain ⟨hx, hb, hml, hown, hts, hK, hKS⟩ := id C
  have hl : lv_has ls 2 [(0, .ref (ad 0)), (1, .int p1)] := hl
  unfold fX10_fits at hf
  refine lv_iload_n hx hb dX10_fits_0 rfl (lv_at hl 1 rfl) ?_
  refine lv_if_eq (tgt := 17) hx hb dX10_fits_1 (by decide) (fun hc => ?_) (fun hc => ?_)
  · have hf := ite_t hf hc
    refine lv_iconst (v := 1) hx hb dX10_fits_17 (by decide) ?_
    refine lv_goto (tgt := 22) hx hb dX10_fits_18 (by decide) ?_
    exact MI.ret (wf := wM ad cI) hQ C hr hlk rfl hf hP hS dX10_fits_22
  · have hf := ite_f hf hc
    refine lv_aload_n hx hb dX10_fits_4 rfl (lv_at hl 0 rfl) ?_
    refine GX10_11 C hP gt4_14 dX10_fits_5 ?_
    refine lv_iload_n hx hb dX10_fits_8 rfl (lv_at hl 1 rfl) ?_
    refine lv_iadd hx hb dX10_fits_9 ?_
    refine lv_aload_n hx hb dX10_fits_10 rfl (lv_at hl 0 rfl) ?_
    refine GX10_6 C hP gt4_9 dX10_fits_11 ?_
    refine lv_icmp_gt (tgt := 21) hx hb dX10_fits_14 (by decide) (fun hc => ?_) (fun hc => ?_)
    · have hf := ite_t hf hc
      refine lv_iconst (v := 0) hx hb dX10_fits_21 (by decide) ?_
      exact MI.ret (wf := wM ad cI) hQ C hr hlk rfl hf hP hS dX10_fits_22
    · have hf := ite_f hf hc
      refine lv_iconst (v := 1) hx hb dX10_fits_17 (by decide) ?_
      refine lv_goto (tgt := 22) hx hb dX10_fits_18 (by decide) ?_
      exact MI.ret (wf := wM ad cI) hQ C hr hlk rfl hf hP hS dX10_fits_22
def fX10_putOut_b2 : Nat → St → Int32 → Option (Int32 × St)
  | 0, _, _ => none
  | n + 1, σ, x1 => (if (σ 0 26) ≤ x1 then some (0, σ) else ld (σ 4) 8 x1 (fun v1 => sv σ 3 16 (σ 0 11) v1 (fun σ2 => nm (up σ2 0 11 ((σ2 0 11) + 1)) (fun σ3 => nm (up σ3 0 13 ((σ3 0 13) + 1)) (fun σ4 => nm (up σ4 0 16 1) (fun σ5 => nm (x1 + 1) (fun v6 => fX10_putOut_b2 n σ5 v6)))))))
def fX10_putOut (σ : St) : Option (Int32 × St) := fX10_putOut_b2 200 σ 0
set_option maxHeartbeats 4000000 in
set_option maxRecDepth 100000 in
theorem mX10_putOut {l : Launch} {D : va_G} {kS vS : Nat → Nat} {ad : Nat → Nat} {cI cF : ClassId} {σ σ0 : St} {r : Int32} (hI : Inj ad 5) (hf : fX10_putOut σ  = some (r, σ0)) : MV l D (tyC cI cF) (inA ad 5) kS vS yX10_putOut cX10_putOut 2 0 0 [.ref (ad 0)] (wM ad cI σ) (wM ad cI σ0) := by
  refine MV.of (by decide) (Nat.le_of_ble_eq_true rfl) (fun p e s m args below meth c ls Q hQ C hr hlk hP hS hl => ?_)
  obtain ⟨hx, hb, hml, hown, hts, hK, hKS⟩ := id C
  have hl : lv_has ls 2 [(0, .ref (ad 0))] := hl
  have B2 : ∀ n : Nat, ∀ (σ : St) (x1 : Int32) (H : Heap) (locs : List Loc) (ls : Array Slot), va_P D vwCl (wM ad cI σ) H → va_S (inA ad 5) s.heap H locs → lv_has ls 2 [(0, .ref (ad 0)), (1, .int x1)] → fX10_putOut_b2 n σ x1 = some (r, σ0) → W p l e (rmN 0 0) s m args below meth c H locs 0 0 Q (F0 m 2 ls []) := by
    intro n
    induction n with
    | zero =>
      intro σ x1 H locs ls hP hS hl hf
      exact nomatch (show (none : Option (Int32 × St)) = some (r, σ0) from hf)
    | succ n ih =>
      intro σ x1 H locs ls hP hS hl hf
      rw [fX10_putOut_b2] at hf
      refine lv_iload_n hx hb dX10_putOut_2 rfl (lv_at hl 1 rfl) ?_
      refine lv_aload_n hx hb dX10_putOut_3 rfl (lv_at hl 0 rfl) ?_
      refine GX10_26 C hP gt4_29 dX10_putOut_4 ?_
      refine lv_icmp_ge (tgt := 56) hx hb dX10_putOut_7 (by decide) (fun hc => ?_) (fun hc => ?_)
      · have hf := ite_t hf hc
        exact MV.ret (wf := wM ad cI) hQ C hr hlk hf hP hS dX10_putOut_56
      · have hf := ite_f hf hc
        refine lv_aload_n hx hb dX10_putOut_10 rfl (lv_at hl 0 rfl) ?_
        refine GX10_10 C hP gt4_13 dX10_putOut_11 ?_
        refine lv_aload_n hx hb dX10_putOut_14 rfl (lv_at hl 0 rfl) ?_
        refine GX10_11 C hP gt4_14 dX10_putOut_15 ?_
        refine lv_aload_n hx hb dX10_putOut_18 rfl (lv_at hl 0 rfl) ?_
        refine GX10_25 C hP gt4_28 dX10_putOut_19 ?_
        refine lv_iload_n hx hb dX10_putOut_22 rfl (lv_at hl 1 rfl) ?_
        obtain ⟨hin, hf⟩ := ld_at hf
        refine aload C hP 4 rfl rfl hin dX10_putOut_23 (fun v1 ev1 => ?_)
        have hf := hf v1 ev1
        obtain ⟨hin, hf⟩ := sv_at hf
        refine astor (wf := wM ad cI) C hP (dM hI _) hS 3 rfl rfl hin (fun _ => rfl) dX10_putOut_24 (fun σ2 eσ2 H locs hP hS => ?_)
        have hf := hf σ2 eσ2
        refine lv_aload_n hx hb dX10_putOut_25 rfl (lv_at hl 0 rfl) ?_
        refine lv_dup hx hb dX10_putOut_26 rfl ?_
        refine GX10_11 C hP gt4_14 dX10_putOut_27 ?_
        refine lv_iconst (v := 1) hx hb dX10_putOut_30 (by decide) ?_
        refine lv_iadd hx hb dX10_putOut_31 ?_
        refine PX10_11 hI C hP hS gt4_14 rfl rfl dX10_putOut_32 (fun σ3 eσ3 H locs hP hS => ?_)
        have hf := nm_at hf σ3 eσ3
        refine lv_aload_n hx hb dX10_putOut_35 rfl (lv_at hl 0 rfl) ?_
        refine lv_dup hx hb dX10_putOut_36 rfl ?_
        refine GX10_13 C hP gt4_16 dX10_putOut_37 ?_
        refine lv_iconst (v := 1) hx hb dX10_putOut_40 (by decide) ?_
        refine lv_iadd hx hb dX10_putOut_41 ?_
        refine PX10_13 hI C hP hS gt4_16 rfl rfl dX10_putOut_42 (fun σ4 eσ4 H locs hP hS => ?_)
        have hf := nm_at hf σ4 eσ4
        refine lv_aload_n hx hb dX10_putOut_45 rfl (lv_at hl 0 rfl) ?_
        refine lv_iconst (v := 1) hx hb dX10_putOut_46 (by decide) ?_
        refine PX10_16 hI C hP hS gt4_19 rfl rfl dX10_putOut_47 (fun σ5 eσ5 H locs hP hS => ?_)
        have hf := nm_at hf σ5 eσ5
        obtain ⟨v6, ev6⟩ : ∃ y : Int32, y = x1 + 1 := ⟨_, rfl⟩
        have hf := nm_at hf v6 ev6
        refine lv_iinc (v := v6) (lv' := [(1, .int v6), (0, .ref (ad 0))]) hx hb dX10_putOut_50 hl (k := 1) rfl (by rw [ev6]; rfl) (by decide) rfl (fun ls hl => ?_)
        refine lv_goto (tgt := 2) hx hb dX10_putOut_53 (by decide) ?_
        exact ih σ5 v6 _ _ _ hP hS (lv_sub hl [1, 0] rfl) hf
  unfold fX10_putOut at hf
  refine lv_iconst (v := 0) hx hb dX10_putOut_0 (by decide) ?_
  refine lv_istore_n (lv' := [(1, .int 0), (0, .ref (ad 0))]) hx hb dX10_putOut_1 rfl hl (by decide) rfl (fun ls hl => ?_)
  exact B2 200 σ 0 _ _ _ hP hS (lv_sub hl [1, 0] rfl) hf
def fX10_take_b12 : Nat → St → Int32 → Int32 → Option (Int32 × St)
  | 0, _, _, _ => none
  | n + 1, σ, x1, x2 => (if (σ 0 9) ≤ x2 then nm (up σ 0 12 ((σ 0 12) + x1)) (fun σ2 => (if (σ2 0 15) = 0 then (if x1 ≤ 0 then nm (up σ2 0 15 0) (fun σ4 => some (0, σ4)) else nm (up σ2 0 15 1) (fun σ5 => some (0, σ5))) else nm (up σ2 0 15 1) (fun σ3 => some (0, σ3)))) else ld (σ 2) 24 (x2 + x1) (fun v6 => sv σ 2 24 x2 v6 (fun σ7 => nm (x2 + 1) (fun v8 => fX10_take_b12 n σ7 x1 v8))))
def fX10_take (σ : St) (p1 : Int32) : Option (Int32 × St) := nm (up σ 0 9 ((σ 0 9) - p1)) (fun σ1 => fX10_take_b12 200 σ1 p1 0)
set_option maxHeartbeats 4000000 in
set_option maxRecDepth 100000 in
theorem mX10_take {l : Launch} {D : va_G} {kS vS : Nat → Nat} {ad : Nat → Nat} {cI cF : ClassId} {σ σ0 : St} {p1 : Int32} {r : Int32} (hI : Inj ad 5) (hf : fX10_take σ p1 = some (r, σ0)) : MV l D (tyC cI cF) (inA ad 5) kS vS yX10_take cX10_take 3 0 0 [.ref (ad 0), .int p1] (wM ad cI σ) (wM ad cI σ0) := by
  refine MV.of (by decide) (Nat.le_of_ble_eq_true rfl) (fun p e s m args below meth c ls Q hQ C hr hlk hP hS hl => ?_)
  obtain ⟨hx, hb, hml, hown, hts, hK, hKS⟩ := id C
  have hl : lv_has ls 3 [(0, .ref (ad 0)), (1, .int p1)] := hl
  have B12 : ∀ n : Nat, ∀ (σ : St) (x1 x2 : Int32) (H : Heap) (locs : List Loc) (ls : Array Slot), va_P D vwCl (wM ad cI σ) H → va_S (inA ad 5) s.heap H locs → lv_has ls 3 [(0, .ref (ad 0)), (1, .int x1), (2, .int x2)] → fX10_take_b12 n σ x1 x2 = some (r, σ0) → W p l e (rmN 0 0) s m args below meth c H locs 0 0 Q (F0 m 12 ls []) := by
    intro n
    induction n with
    | zero =>
      intro σ x1 x2 H locs ls hP hS hl hf
      exact nomatch (show (none : Option (Int32 × St)) = some (r, σ0) from hf)
    | succ n ih =>
      intro σ x1 x2 H locs ls hP hS hl hf
      rw [fX10_take_b12] at hf
      refine lv_iload_n hx hb dX10_take_12 rfl (lv_at hl 2 rfl) ?_
      refine lv_aload_n hx hb dX10_take_13 rfl (lv_at hl 0 rfl) ?_
      refine GX10_9 C hP gt4_12 dX10_take_14 ?_
      refine lv_icmp_ge (tgt := 40) hx hb dX10_take_17 (by decide) (fun hc => ?_) (fun hc => ?_)
      · have hf := ite_t hf hc
        refine lv_aload_n hx hb dX10_take_40 rfl (lv_at hl 0 rfl) ?_
        refine lv_dup hx hb dX10_take_41 rfl ?_
        refine GX10_12 C hP gt4_15 dX10_take_42 ?_
        refine lv_iload_n hx hb dX10_take_45 rfl (lv_at hl 1 rfl) ?_
        refine lv_iadd hx hb dX10_take_46 ?_
        refine PX10_12 hI C hP hS gt4_15 rfl rfl dX10_take_47 (fun σ2 eσ2 H locs hP hS => ?_)
        have hf := nm_at hf σ2 eσ2
        refine lv_aload_n hx hb dX10_take_50 rfl (lv_at hl 0 rfl) ?_
        refine lv_aload_n hx hb dX10_take_51 rfl (lv_at hl 0 rfl) ?_
        refine GX10_15 C hP gt4_18 dX10_take_52 ?_
        refine lv_if_ne (tgt := 62) hx hb dX10_take_55 (by decide) (fun hc => ?_) (fun hc => ?_)
        · have hf := ite_f hf hc
          refine lv_iconst (v := 1) hx hb dX10_take_62 (by decide) ?_
          refine lv_goto (tgt := 67) hx hb dX10_take_63 (by decide) ?_
          refine PX10_15 hI C hP hS gt4_18 rfl rfl dX10_take_67 (fun σ3 eσ3 H locs hP hS => ?_)
          have hf := nm_at hf σ3 eσ3
          exact MV.ret (wf := wM ad cI) hQ C hr hlk hf hP hS dX10_take_70
        · have hf := ite_t hf hc
          refine lv_iload_n hx hb dX10_take_58 rfl (lv_at hl 1 rfl) ?_
          refine lv_if_le (tgt := 66) hx hb dX10_take_59 (by decide) (fun hc => ?_) (fun hc => ?_)
          · have hf := ite_t hf hc
            refine lv_iconst (v := 0) hx hb dX10_take_66 (by decide) ?_
            refine PX10_15 hI C hP hS gt4_18 rfl rfl dX10_take_67 (fun σ4 eσ4 H locs hP hS => ?_)
            have hf := nm_at hf σ4 eσ4
            exact MV.ret (wf := wM ad cI) hQ C hr hlk hf hP hS dX10_take_70
          · have hf := ite_f hf hc
            refine lv_iconst (v := 1) hx hb dX10_take_62 (by decide) ?_
            refine lv_goto (tgt := 67) hx hb dX10_take_63 (by decide) ?_
            refine PX10_15 hI C hP hS gt4_18 rfl rfl dX10_take_67 (fun σ5 eσ5 H locs hP hS => ?_)
            have hf := nm_at hf σ5 eσ5
            exact MV.ret (wf := wM ad cI) hQ C hr hlk hf hP hS dX10_take_70
      · have hf := ite_f hf hc
        refine lv_aload_n hx hb dX10_take_20 rfl (lv_at hl 0 rfl) ?_
        refine GX10_8 C hP gt4_11 dX10_take_21 ?_
        refine lv_iload_n hx hb dX10_take_24 rfl (lv_at hl 2 rfl) ?_
        refine lv_aload_n hx hb dX10_take_25 rfl (lv_at hl 0 rfl) ?_
        refine GX10_8 C hP gt4_11 dX10_take_26 ?_
        refine lv_iload_n hx hb dX10_take_29 rfl (lv_at hl 2 rfl) ?_
        refine lv_iload_n hx hb dX10_take_30 rfl (lv_at hl 1 rfl) ?_
        refine lv_iadd hx hb dX10_take_31 ?_
        obtain ⟨hin, hf⟩ := ld_at hf
        refine aload C hP 2 rfl rfl hin dX10_take_32 (fun v6 ev6 => ?_)
        have hf := hf v6 ev6
        obtain ⟨hin, hf⟩ := sv_at hf
        refine astor (wf := wM ad cI) C hP (dM hI _) hS 2 rfl rfl hin (fun _ => rfl) dX10_take_33 (fun σ7 eσ7 H locs hP hS => ?_)
        have hf := hf σ7 eσ7
        obtain ⟨v8, ev8⟩ : ∃ y : Int32, y = x2 + 1 := ⟨_, rfl⟩
        have hf := nm_at hf v8 ev8
        refine lv_iinc (v := v8) (lv' := [(2, .int v8), (0, .ref (ad 0)), (1, .int x1)]) hx hb dX10_take_34 hl (k := 2) rfl (by rw [ev8]; rfl) (by decide) rfl (fun ls hl => ?_)
        refine lv_goto (tgt := 12) hx hb dX10_take_37 (by decide) ?_
        exact ih σ7 x1 v8 _ _ _ hP hS (lv_sub hl [1, 2, 0] rfl) hf
  unfold fX10_take at hf
  refine lv_aload_n hx hb dX10_take_0 rfl (lv_at hl 0 rfl) ?_
  refine lv_dup hx hb dX10_take_1 rfl ?_
  refine GX10_9 C hP gt4_12 dX10_take_2 ?_
  refine lv_iload_n hx hb dX10_take_5 rfl (lv_at hl 1 rfl) ?_
  refine lv_isub hx hb dX10_take_6 ?_
  refine PX10_9 hI C hP hS gt4_12 rfl rfl dX10_take_7 (fun σ1 eσ1 H locs hP hS => ?_)
  have hf := nm_at hf σ1 eσ1
  refine lv_iconst (v := 0) hx hb dX10_take_10 (by decide) ?_
  refine lv_istore_n (lv' := [(2, .int 0), (0, .ref (ad 0)), (1, .int p1)]) hx hb dX10_take_11 rfl hl (by decide) rfl (fun ls hl => ?_)
  exact B12 200 σ1 p1 0 _ _ _ hP hS (lv_sub hl [1, 2, 0] rfl) hf
def fX10_passOver (σ : St) (p1 p2 : Int32) : Option (Int32 × St) := bd (fX10_take σ p1) (fun _ σ2 => nm (up σ2 0 14 ((σ2 0 14) + 1)) (fun σ3 => (if p2 = 0 then some (0, σ3) else nm (up σ3 0 18 0) (fun σ4 => nm (up σ4 0 19 0) (fun σ5 => nm (up σ5 0 20 0) (fun σ6 => nm (up σ6 0 21 0) (fun σ7 => some (0, σ7))))))))
set_option maxHeartbeats 4000000 in
set_option maxRecDepth 100000 in
theorem mX10_passOver {l : Launch} {D : va_G} {kS vS : Nat → Nat} {ad : Nat → Nat} {cI cF : ClassId} {σ σ0 : St} {p1 p2 : Int32} {r : Int32} (hI : Inj ad 5) (hf : fX10_passOver σ p1 p2 = some (r, σ0)) : MV l D (tyC cI cF) (inA ad 5) kS vS yX10_passOver cX10_passOver 3 1 22 [.ref (ad 0), .int p1, .int p2] (wM ad cI σ) (wM ad cI σ0) := by
  refine MV.of (by decide) (Nat.le_of_ble_eq_true rfl) (fun p e s m args below meth c ls Q hQ C hr hlk hP hS hl => ?_)
  obtain ⟨hx, hb, hml, hown, hts, hK, hKS⟩ := id C
  have hl : lv_has ls 3 [(0, .ref (ad 0)), (1, .int p1), (2, .int p2)] := hl
  unfold fX10_passOver at hf
  refine lv_aload_n hx hb dX10_passOver_0 rfl (lv_at hl 0 rfl) ?_
  refine lv_iload_n hx hb dX10_passOver_1 rfl (lv_at hl 1 rfl) ?_
  obtain ⟨v1, σ2, hc, hf⟩ := bd_at hf
  refine callVV (As := [.int p1]) (rest := []) C (mX10_take hI hc) ⟨gt4_161, gt4_163, gtp28, gt1_11, gt4_164⟩ okX10_take ⟨Nat.le_of_ble_eq_true rfl, Nat.le_of_ble_eq_true rfl⟩ (rcvOf C hP (show (wM ad cI _)[0]? = some (ad 0, _) from rfl) rfl) rfl hl.1 rfl (Nat.le_of_ble_eq_true rfl) hP hS dX10_passOver_2 (fun H locs hP hS => ?_)
  refine lv_aload_n hx hb dX10_passOver_5 rfl (lv_at hl 0 rfl) ?_
  refine lv_dup hx hb dX10_passOver_6 rfl ?_
  refine GX10_14 C hP gt4_17 dX10_passOver_7 ?_
  refine lv_iconst (v := 1) hx hb dX10_passOver_10 (by decide) ?_
  refine lv_iadd hx hb dX10_passOver_11 ?_
  refine PX10_14 hI C hP hS gt4_17 rfl rfl dX10_passOver_12 (fun σ3 eσ3 H locs hP hS => ?_)
  have hf := nm_at hf σ3 eσ3
  refine lv_iload_n hx hb dX10_passOver_15 rfl (lv_at hl 2 rfl) ?_
  refine lv_if_eq (tgt := 39) hx hb dX10_passOver_16 (by decide) (fun hc => ?_) (fun hc => ?_)
  · have hf := ite_t hf hc
    exact MV.ret (wf := wM ad cI) hQ C hr hlk hf hP hS dX10_passOver_39
  · have hf := ite_f hf hc
    refine lv_aload_n hx hb dX10_passOver_19 rfl (lv_at hl 0 rfl) ?_
    refine lv_iconst (v := 0) hx hb dX10_passOver_20 (by decide) ?_
    refine PX10_18 hI C hP hS gt4_21 rfl rfl dX10_passOver_21 (fun σ4 eσ4 H locs hP hS => ?_)
    have hf := nm_at hf σ4 eσ4
    refine lv_aload_n hx hb dX10_passOver_24 rfl (lv_at hl 0 rfl) ?_
    refine lv_iconst (v := 0) hx hb dX10_passOver_25 (by decide) ?_
    refine PX10_19 hI C hP hS gt4_22 rfl rfl dX10_passOver_26 (fun σ5 eσ5 H locs hP hS => ?_)
    have hf := nm_at hf σ5 eσ5
    refine lv_aload_n hx hb dX10_passOver_29 rfl (lv_at hl 0 rfl) ?_
    refine lv_iconst (v := 0) hx hb dX10_passOver_30 (by decide) ?_
    refine PX10_20 hI C hP hS gt4_23 rfl rfl dX10_passOver_31 (fun σ6 eσ6 H locs hP hS => ?_)
    have hf := nm_at hf σ6 eσ6
    refine lv_aload_n hx hb dX10_passOver_34 rfl (lv_at hl 0 rfl) ?_
    refine lv_iconst (v := 0) hx hb dX10_passOver_35 (by decide) ?_
    refine PX10_21 hI C hP hS gt4_24 rfl rfl dX10_passOver_36 (fun σ7 eσ7 H locs hP hS => ?_)
    have hf := nm_at hf σ7 eσ7
    exact MV.ret (wf := wM ad cI) hQ C hr hlk hf hP hS dX10_passOver_39
def fX10_pass (σ : St) : Option (Int32 × St) := (if (σ 0 0) = 0 then some (0, σ) else (if (σ 0 22) = 0 then some (0, σ) else bd (fX10_passOver σ (σ 0 22) (σ 0 23)) (fun _ σ2 => nm (up σ2 0 22 0) (fun σ3 => some (1, σ3)))))
set_option maxHeartbeats 4000000 in
set_option maxRecDepth 100000 in
theorem mX10_pass {l : Launch} {D : va_G} {kS vS : Nat → Nat} {ad : Nat → Nat} {cI cF : ClassId} {σ σ0 : St} {r : Int32} (hI : Inj ad 5) (hf : fX10_pass σ  = some (r, σ0)) : MI l D (tyC cI cF) (inA ad 5) kS vS yX10_pass cX10_pass 1 .boolean 2 44 [.ref (ad 0)] (wM ad cI σ) (wM ad cI σ0) r := by
  refine MI.of (by decide) (Nat.le_of_ble_eq_true rfl) (fun p e s m args below meth c ls Q hQ C hr hlk hP hS hl => ?_)
  obtain ⟨hx, hb, hml, hown, hts, hK, hKS⟩ := id C
  have hl : lv_has ls 1 [(0, .ref (ad 0))] := hl
  unfold fX10_pass at hf
  refine lv_aload_n hx hb dX10_pass_0 rfl (lv_at hl 0 rfl) ?_
  refine GX10_0 C hP gt4_3 dX10_pass_1 ?_
  refine lv_if_eq (tgt := 14) hx hb dX10_pass_4 (by decide) (fun hc => ?_) (fun hc => ?_)
  · have hf := ite_t hf hc
    refine lv_iconst (v := 0) hx hb dX10_pass_14 (by decide) ?_
    exact MI.ret (wf := wM ad cI) hQ C hr hlk rfl hf hP hS dX10_pass_15
  · have hf := ite_f hf hc
    refine lv_aload_n hx hb dX10_pass_7 rfl (lv_at hl 0 rfl) ?_
    refine GX10_22 C hP gt4_25 dX10_pass_8 ?_
    refine lv_if_ne (tgt := 16) hx hb dX10_pass_11 (by decide) (fun hc => ?_) (fun hc => ?_)
    · have hf := ite_f hf hc
      refine lv_aload_n hx hb dX10_pass_16 rfl (lv_at hl 0 rfl) ?_
      refine lv_aload_n hx hb dX10_pass_17 rfl (lv_at hl 0 rfl) ?_
      refine GX10_22 C hP gt4_25 dX10_pass_18 ?_
      refine lv_aload_n hx hb dX10_pass_21 rfl (lv_at hl 0 rfl) ?_
      refine GX10_23 C hP gt4_26 dX10_pass_22 ?_
      obtain ⟨v1, σ2, hc, hf⟩ := bd_at hf
      refine callVV (As := [.int (σ 0 22), .int (σ 0 23)]) (rest := []) C (mX10_passOver hI hc) ⟨gt4_157, gt4_159, gtp27, gt1_11, gt4_160⟩ okX10_passOver ⟨Nat.le_of_ble_eq_true rfl, Nat.le_of_ble_eq_true rfl⟩ (rcvOf C hP (show (wM ad cI _)[0]? = some (ad 0, _) from rfl) rfl) rfl hl.1 rfl (Nat.le_of_ble_eq_true rfl) hP hS dX10_pass_25 (fun H locs hP hS => ?_)
      refine lv_aload_n hx hb dX10_pass_28 rfl (lv_at hl 0 rfl) ?_
      refine lv_iconst (v := 0) hx hb dX10_pass_29 (by decide) ?_
      refine PX10_22 hI C hP hS gt4_25 rfl rfl dX10_pass_30 (fun σ3 eσ3 H locs hP hS => ?_)
      have hf := nm_at hf σ3 eσ3
      refine lv_iconst (v := 1) hx hb dX10_pass_33 (by decide) ?_
      exact MI.ret (wf := wM ad cI) hQ C hr hlk rfl hf hP hS dX10_pass_34
    · have hf := ite_t hf hc
      refine lv_iconst (v := 0) hx hb dX10_pass_14 (by decide) ?_
      exact MI.ret (wf := wM ad cI) hQ C hr hlk rfl hf hP hS dX10_pass_15
def fX10_become (σ : St) : Option (Int32 × St) := zk (σ 0 27) (nm (up σ 0 18 (σ 0 27)) (fun σ1 => zk (σ1 0 28) (nm (up σ1 0 19 (σ1 0 28)) (fun σ2 => nm (up σ2 0 20 (σ2 0 29)) (fun σ3 => nm (up σ3 0 21 (σ3 0 30)) (fun σ4 => zk (σ4 0 31) (nm (up σ4 0 17 (σ4 0 31)) (fun σ5 => some (0, σ5)))))))))
set_option maxHeartbeats 4000000 in
set_option maxRecDepth 100000 in
theorem mX10_become {l : Launch} {D : va_G} {kS vS : Nat → Nat} {ad : Nat → Nat} {cI cF : ClassId} {σ σ0 : St} {r : Int32} (hI : Inj ad 5) (hf : fX10_become σ  = some (r, σ0)) : MV l D (tyC cI cF) (inA ad 5) kS vS yX10_become cX10_become 1 0 0 [.ref (ad 0)] (wM ad cI σ) (wM ad cI σ0) := by
  refine MV.of (by decide) (Nat.le_of_ble_eq_true rfl) (fun p e s m args below meth c ls Q hQ C hr hlk hP hS hl => ?_)
  obtain ⟨hx, hb, hml, hown, hts, hK, hKS⟩ := id C
  have hl : lv_has ls 1 [(0, .ref (ad 0))] := hl
  unfold fX10_become at hf
  refine lv_aload_n hx hb dX10_become_0 rfl (lv_at hl 0 rfl) ?_
  refine lv_aload_n hx hb dX10_become_1 rfl (lv_at hl 0 rfl) ?_
  refine GX10_27 C hP gt4_30 dX10_become_2 ?_
  obtain ⟨hz, hf⟩ := zk_at hf
  refine PX10_18 hI C hP hS gt4_21 (zn hz) (zf hz) dX10_become_5 (fun σ1 eσ1 H locs hP hS => ?_)
  have hf := nm_at hf σ1 eσ1
  refine lv_aload_n hx hb dX10_become_8 rfl (lv_at hl 0 rfl) ?_
  refine lv_aload_n hx hb dX10_become_9 rfl (lv_at hl 0 rfl) ?_
  refine GX10_28 C hP gt4_31 dX10_become_10 ?_
  obtain ⟨hz, hf⟩ := zk_at hf
  refine PX10_19 hI C hP hS gt4_22 (zn hz) (zf hz) dX10_become_13 (fun σ2 eσ2 H locs hP hS => ?_)
  have hf := nm_at hf σ2 eσ2
  refine lv_aload_n hx hb dX10_become_16 rfl (lv_at hl 0 rfl) ?_
  refine lv_aload_n hx hb dX10_become_17 rfl (lv_at hl 0 rfl) ?_
  refine GX10_29 C hP gt4_32 dX10_become_18 ?_
  refine PX10_20 hI C hP hS gt4_23 rfl rfl dX10_become_21 (fun σ3 eσ3 H locs hP hS => ?_)
  have hf := nm_at hf σ3 eσ3
  refine lv_aload_n hx hb dX10_become_24 rfl (lv_at hl 0 rfl) ?_
  refine lv_aload_n hx hb dX10_become_25 rfl (lv_at hl 0 rfl) ?_
  refine GX10_30 C hP gt4_33 dX10_become_26 ?_
  refine PX10_21 hI C hP hS gt4_24 rfl rfl dX10_become_29 (fun σ4 eσ4 H locs hP hS => ?_)
  have hf := nm_at hf σ4 eσ4
  refine lv_aload_n hx hb dX10_become_32 rfl (lv_at hl 0 rfl) ?_
  refine lv_aload_n hx hb dX10_become_33 rfl (lv_at hl 0 rfl) ?_
  refine GX10_31 C hP gt4_34 dX10_become_34 ?_
  obtain ⟨hz, hf⟩ := zk_at hf
  refine PX10_17 hI C hP hS gt4_20 (zn hz) (zf hz) dX10_become_37 (fun σ5 eσ5 H locs hP hS => ?_)
  have hf := nm_at hf σ5 eσ5
  exact MV.ret (wf := wM ad cI) hQ C hr hlk hf hP hS dX10_become_40
def fX10_replacement (σ : St) : Option (Int32 × St) := nm (up σ 0 26 0) (fun σ1 => (if (σ1 0 2) = 0 then bd (fX10_result σ1 65533) (fun _ σ11 => some (0, σ11)) else (if (σ1 0 1) < 2 then bd (fX10_result σ1 63) (fun _ σ3 => some (0, σ3)) else (if 4 < (σ1 0 1) then bd (fX10_result σ1 63) (fun _ σ5 => some (0, σ5)) else (if (σ1 0 1) = 4 then bd (fX10_putSixteen σ1 63 1) (fun _ σ9 => some (0, σ9)) else bd (fX10_putSixteen σ1 63 0) (fun _ σ7 => some (0, σ7)))))))
set_option maxHeartbeats 4000000 in
set_option maxRecDepth 100000 in
theorem mX10_replacement {l : Launch} {D : va_G} {kS vS : Nat → Nat} {ad : Nat → Nat} {cI cF : ClassId} {σ σ0 : St} {r : Int32} (hI : Inj ad 5) (hf : fX10_replacement σ  = some (r, σ0)) : MV l D (tyC cI cF) (inA ad 5) kS vS yX10_replacement cX10_replacement 1 2 43 [.ref (ad 0)] (wM ad cI σ) (wM ad cI σ0) := by
  refine MV.of (by decide) (Nat.le_of_ble_eq_true rfl) (fun p e s m args below meth c ls Q hQ C hr hlk hP hS hl => ?_)
  obtain ⟨hx, hb, hml, hown, hts, hK, hKS⟩ := id C
  have hl : lv_has ls 1 [(0, .ref (ad 0))] := hl
  unfold fX10_replacement at hf
  refine lv_aload_n hx hb dX10_replacement_0 rfl (lv_at hl 0 rfl) ?_
  refine lv_iconst (v := 0) hx hb dX10_replacement_1 (by decide) ?_
  refine PX10_26 hI C hP hS gt4_29 rfl rfl dX10_replacement_2 (fun σ1 eσ1 H locs hP hS => ?_)
  have hf := nm_at hf σ1 eσ1
  refine lv_aload_n hx hb dX10_replacement_5 rfl (lv_at hl 0 rfl) ?_
  refine GX10_2 C hP gt4_5 dX10_replacement_6 ?_
  refine lv_if_ne (tgt := 21) hx hb dX10_replacement_9 (by decide) (fun hc => ?_) (fun hc => ?_)
  · have hf := ite_f hf hc
    refine lv_aload_n hx hb dX10_replacement_21 rfl (lv_at hl 0 rfl) ?_
    refine GX10_1 C hP gt4_4 dX10_replacement_22 ?_
    refine lv_iconst (v := 2) hx hb dX10_replacement_25 (by decide) ?_
    refine lv_icmp_lt (tgt := 59) hx hb dX10_replacement_26 (by decide) (fun hc => ?_) (fun hc => ?_)
    · have hf := ite_t hf hc
      refine lv_aload_n hx hb dX10_replacement_59 rfl (lv_at hl 0 rfl) ?_
      refine lv_bipush (v := 63) hx hb dX10_replacement_60 (by decide) ?_
      obtain ⟨v2, σ3, hc, hf⟩ := bd_at hf
      refine callVV (As := [.int 63]) (rest := []) C (mX10_result hI hc) ⟨gt4_192, gt4_194, gtp32, gt1_11, gt4_195⟩ okX10_result ⟨Nat.le_of_ble_eq_true rfl, Nat.le_of_ble_eq_true rfl⟩ (rcvOf C hP (show (wM ad cI _)[0]? = some (ad 0, _) from rfl) rfl) rfl hl.1 rfl (Nat.le_of_ble_eq_true rfl) hP hS dX10_replacement_62 (fun H locs hP hS => ?_)
      exact MV.ret (wf := wM ad cI) hQ C hr hlk hf hP hS dX10_replacement_65
    · have hf := ite_f hf hc
      refine lv_aload_n hx hb dX10_replacement_29 rfl (lv_at hl 0 rfl) ?_
      refine GX10_1 C hP gt4_4 dX10_replacement_30 ?_
      refine lv_iconst (v := 4) hx hb dX10_replacement_33 (by decide) ?_
      refine lv_icmp_gt (tgt := 59) hx hb dX10_replacement_34 (by decide) (fun hc => ?_) (fun hc => ?_)
      · have hf := ite_t hf hc
        refine lv_aload_n hx hb dX10_replacement_59 rfl (lv_at hl 0 rfl) ?_
        refine lv_bipush (v := 63) hx hb dX10_replacement_60 (by decide) ?_
        obtain ⟨v4, σ5, hc, hf⟩ := bd_at hf
        refine callVV (As := [.int 63]) (rest := []) C (mX10_result hI hc) ⟨gt4_192, gt4_194, gtp32, gt1_11, gt4_195⟩ okX10_result ⟨Nat.le_of_ble_eq_true rfl, Nat.le_of_ble_eq_true rfl⟩ (rcvOf C hP (show (wM ad cI _)[0]? = some (ad 0, _) from rfl) rfl) rfl hl.1 rfl (Nat.le_of_ble_eq_true rfl) hP hS dX10_replacement_62 (fun H locs hP hS => ?_)
        exact MV.ret (wf := wM ad cI) hQ C hr hlk hf hP hS dX10_replacement_65
      · have hf := ite_f hf hc
        refine lv_aload_n hx hb dX10_replacement_37 rfl (lv_at hl 0 rfl) ?_
        refine lv_bipush (v := 63) hx hb dX10_replacement_38 (by decide) ?_
        refine lv_aload_n hx hb dX10_replacement_40 rfl (lv_at hl 0 rfl) ?_
        refine GX10_1 C hP gt4_4 dX10_replacement_41 ?_
        refine lv_iconst (v := 4) hx hb dX10_replacement_44 (by decide) ?_
        refine lv_icmp_ne (tgt := 52) hx hb dX10_replacement_45 (by decide) (fun hc => ?_) (fun hc => ?_)
        · have hf := ite_f hf hc
          refine lv_iconst (v := 0) hx hb dX10_replacement_52 (by decide) ?_
          obtain ⟨v6, σ7, hc, hf⟩ := bd_at hf
          refine callVV (As := [.int 63, .int 0]) (rest := []) C (mX10_putSixteen hI hc) ⟨gt4_228, gt4_230, gtp40, gt1_11, gt4_231⟩ okX10_putSixteen ⟨Nat.le_of_ble_eq_true rfl, Nat.le_of_ble_eq_true rfl⟩ (rcvOf C hP (show (wM ad cI _)[0]? = some (ad 0, _) from rfl) rfl) rfl hl.1 rfl (Nat.le_of_ble_eq_true rfl) hP hS dX10_replacement_53 (fun H locs hP hS => ?_)
          refine lv_goto (tgt := 65) hx hb dX10_replacement_56 (by decide) ?_
          exact MV.ret (wf := wM ad cI) hQ C hr hlk hf hP hS dX10_replacement_65
        · have hf := ite_t hf hc
          refine lv_iconst (v := 1) hx hb dX10_replacement_48 (by decide) ?_
          refine lv_goto (tgt := 53) hx hb dX10_replacement_49 (by decide) ?_
          obtain ⟨v8, σ9, hc, hf⟩ := bd_at hf
          refine callVV (As := [.int 63, .int 1]) (rest := []) C (mX10_putSixteen hI hc) ⟨gt4_228, gt4_230, gtp40, gt1_11, gt4_231⟩ okX10_putSixteen ⟨Nat.le_of_ble_eq_true rfl, Nat.le_of_ble_eq_true rfl⟩ (rcvOf C hP (show (wM ad cI _)[0]? = some (ad 0, _) from rfl) rfl) rfl hl.1 rfl (Nat.le_of_ble_eq_true rfl) hP hS dX10_replacement_53 (fun H locs hP hS => ?_)
          refine lv_goto (tgt := 65) hx hb dX10_replacement_56 (by decide) ?_
          exact MV.ret (wf := wM ad cI) hQ C hr hlk hf hP hS dX10_replacement_65
  · have hf := ite_t hf hc
    refine lv_aload_n hx hb dX10_replacement_12 rfl (lv_at hl 0 rfl) ?_
    refine lv_ldc hx hb (v := 65533) hown (hts _ gt5_49) dX10_replacement_13 ?_
    obtain ⟨v10, σ11, hc, hf⟩ := bd_at hf
    refine callVV (As := [.int 65533]) (rest := []) C (mX10_result hI hc) ⟨gt4_192, gt4_194, gtp32, gt1_11, gt4_195⟩ okX10_result ⟨Nat.le_of_ble_eq_true rfl, Nat.le_of_ble_eq_true rfl⟩ (rcvOf C hP (show (wM ad cI _)[0]? = some (ad 0, _) from rfl) rfl) rfl hl.1 rfl (Nat.le_of_ble_eq_true rfl) hP hS dX10_replacement_15 (fun H locs hP hS => ?_)
    refine lv_goto (tgt := 65) hx hb dX10_replacement_18 (by decide) ?_
    exact MV.ret (wf := wM ad cI) hQ C hr hlk hf hP hS dX10_replacement_65
def fX10_meet_b15 (σ : St) (x1 y0 : Int32) : Option (Int32 × St) := (if y0 = 0 then nm (up σ 0 22 (σ 0 24)) (fun σ11 => zk x1 (nm (up σ11 0 23 x1) (fun σ12 => (if x1 = 0 then some (32 + (σ12 0 24), σ12) else some (16 + (σ12 0 24), σ12))))) else (if y0 = 2 then bd (fX10_replacement σ) (fun _ σ4 => bd (fX10_fits σ4 (σ4 0 26)) (fun v5 σ6 => (if v5 = 0 then some (1, σ6) else bd (fX10_putOut σ6) (fun _ σ8 => bd (fX10_passOver σ8 (σ8 0 24) x1) (fun _ σ10 => some ((-1), σ10)))))) else bd (fX10_passOver σ (σ 0 24) x1) (fun _ σ2 => some ((-1), σ2))))
def fX10_meet (σ : St) (p1 : Int32) : Option (Int32 × St) := (if p1 = 0 then fX10_meet_b15 σ p1 (σ 0 4) else fX10_meet_b15 σ p1 (σ 0 3))
set_option maxHeartbeats 4000000 in
set_option maxRecDepth 100000 in
theorem mX10_meet {l : Launch} {D : va_G} {kS vS : Nat → Nat} {ad : Nat → Nat} {cI cF : ClassId} {σ σ0 : St} {p1 : Int32} {r : Int32} (hI : Inj ad 5) (hf : fX10_meet σ p1 = some (r, σ0)) : MI l D (tyC cI cF) (inA ad 5) kS vS yX10_meet cX10_meet 3 .int 3 63 [.ref (ad 0), .int p1] (wM ad cI σ) (wM ad cI σ0) r := by
  refine MI.of (by decide) (Nat.le_of_ble_eq_true rfl) (fun p e s m args below meth c ls Q hQ C hr hlk hP hS hl => ?_)
  obtain ⟨hx, hb, hml, hown, hts, hK, hKS⟩ := id C
  have hl : lv_has ls 3 [(0, .ref (ad 0)), (1, .int p1)] := hl
  have B15 : ∀ (σ : St) (x1 y0 : Int32) (H : Heap) (locs : List Loc) (ls : Array Slot), va_P D vwCl (wM ad cI σ) H → va_S (inA ad 5) s.heap H locs → lv_has ls 3 [(0, .ref (ad 0)), (1, .int x1)] → fX10_meet_b15 σ x1 y0 = some (r, σ0) → W p l e (rmN 3 63) s m args below meth c H locs 0 0 Q (F0 m 15 ls [.int y0]) := by
    intro σ x1 y0 H locs ls hP hS hl hf
    unfold fX10_meet_b15 at hf
    refine lv_istore_n (lv' := [(2, .int y0), (0, .ref (ad 0)), (1, .int x1)]) hx hb dX10_meet_15 rfl hl (by decide) rfl (fun ls hl => ?_)
    refine lv_iload_n hx hb dX10_meet_16 rfl (lv_at hl 0 rfl) ?_
    refine lv_if_ne (tgt := 50) hx hb dX10_meet_17 (by decide) (fun hc => ?_) (fun hc => ?_)
    · have hf := ite_f hf hc
      refine lv_iload_n hx hb dX10_meet_50 rfl (lv_at hl 0 rfl) ?_
      refine lv_iconst (v := 2) hx hb dX10_meet_51 (by decide) ?_
      refine lv_icmp_ne (tgt := 76) hx hb dX10_meet_52 (by decide) (fun hc => ?_) (fun hc => ?_)
      · have hf := ite_f hf hc
        refine lv_aload_n hx hb dX10_meet_76 rfl (lv_at hl 1 rfl) ?_
        refine lv_aload_n hx hb dX10_meet_77 rfl (lv_at hl 1 rfl) ?_
        refine GX10_24 C hP gt4_27 dX10_meet_78 ?_
        refine lv_iload_n hx hb dX10_meet_81 rfl (lv_at hl 2 rfl) ?_
        obtain ⟨v1, σ2, hc, hf⟩ := bd_at hf
        refine callVV (As := [.int (σ 0 24), .int x1]) (rest := []) C (mX10_passOver hI hc) ⟨gt4_157, gt4_159, gtp27, gt1_11, gt4_160⟩ okX10_passOver ⟨Nat.le_of_ble_eq_true rfl, Nat.le_of_ble_eq_true rfl⟩ (rcvOf C hP (show (wM ad cI _)[0]? = some (ad 0, _) from rfl) rfl) rfl hl.1 rfl (Nat.le_of_ble_eq_true rfl) hP hS dX10_meet_82 (fun H locs hP hS => ?_)
        refine lv_iconst (v := (-1)) hx hb dX10_meet_85 (by decide) ?_
        exact MI.ret (wf := wM ad cI) hQ C hr hlk rfl hf hP hS dX10_meet_86
      · have hf := ite_t hf hc
        refine lv_aload_n hx hb dX10_meet_55 rfl (lv_at hl 1 rfl) ?_
        obtain ⟨v3, σ4, hc, hf⟩ := bd_at hf
        refine callVV (As := []) (rest := []) C (mX10_replacement hI hc) ⟨gt5_45, gt5_47, gtp52, gt1_11, gt5_48⟩ okX10_replacement ⟨Nat.le_of_ble_eq_true rfl, Nat.le_of_ble_eq_true rfl⟩ (rcvOf C hP (show (wM ad cI _)[0]? = some (ad 0, _) from rfl) rfl) rfl hl.1 rfl (Nat.le_of_ble_eq_true rfl) hP hS dX10_meet_56 (fun H locs hP hS => ?_)
        refine lv_aload_n hx hb dX10_meet_59 rfl (lv_at hl 1 rfl) ?_
        refine lv_aload_n hx hb dX10_meet_60 rfl (lv_at hl 1 rfl) ?_
        refine GX10_26 C hP gt4_29 dX10_meet_61 ?_
        obtain ⟨v5, σ6, hc, hf⟩ := bd_at hf
        refine callVI (As := [.int (σ4 0 26)]) (rest := []) C (mX10_fits hI hc) ⟨gt5_29, gt5_31, gtp48, gt1_11, gt5_32⟩ okX10_fits ⟨Nat.le_of_ble_eq_true rfl, Nat.le_of_ble_eq_true rfl⟩ (rcvOf C hP (show (wM ad cI _)[0]? = some (ad 0, _) from rfl) rfl) rfl hl.1 rfl (Nat.le_of_ble_eq_true rfl) hP hS dX10_meet_64 (fun H locs hP hS => ?_)
        refine lv_if_ne (tgt := 72) hx hb dX10_meet_67 (by decide) (fun hc => ?_) (fun hc => ?_)
        · have hf := ite_f hf hc
          refine lv_aload_n hx hb dX10_meet_72 rfl (lv_at hl 1 rfl) ?_
          obtain ⟨v7, σ8, hc, hf⟩ := bd_at hf
          refine callVV (As := []) (rest := []) C (mX10_putOut hI hc) ⟨gt5_33, gt5_35, gtp49, gt1_11, gt5_36⟩ okX10_putOut ⟨Nat.le_of_ble_eq_true rfl, Nat.le_of_ble_eq_true rfl⟩ (rcvOf C hP (show (wM ad cI _)[0]? = some (ad 0, _) from rfl) rfl) rfl hl.1 rfl (Nat.le_of_ble_eq_true rfl) hP hS dX10_meet_73 (fun H locs hP hS => ?_)
          refine lv_aload_n hx hb dX10_meet_76 rfl (lv_at hl 1 rfl) ?_
          refine lv_aload_n hx hb dX10_meet_77 rfl (lv_at hl 1 rfl) ?_
          refine GX10_24 C hP gt4_27 dX10_meet_78 ?_
          refine lv_iload_n hx hb dX10_meet_81 rfl (lv_at hl 2 rfl) ?_
          obtain ⟨v9, σ10, hc, hf⟩ := bd_at hf
          refine callVV (As := [.int (σ8 0 24), .int x1]) (rest := []) C (mX10_passOver hI hc) ⟨gt4_157, gt4_159, gtp27, gt1_11, gt4_160⟩ okX10_passOver ⟨Nat.le_of_ble_eq_true rfl, Nat.le_of_ble_eq_true rfl⟩ (rcvOf C hP (show (wM ad cI _)[0]? = some (ad 0, _) from rfl) rfl) rfl hl.1 rfl (Nat.le_of_ble_eq_true rfl) hP hS dX10_meet_82 (fun H locs hP hS => ?_)
          refine lv_iconst (v := (-1)) hx hb dX10_meet_85 (by decide) ?_
          exact MI.ret (wf := wM ad cI) hQ C hr hlk rfl hf hP hS dX10_meet_86
        · have hf := ite_t hf hc
          refine lv_iconst (v := 1) hx hb dX10_meet_70 (by decide) ?_
          exact MI.ret (wf := wM ad cI) hQ C hr hlk rfl hf hP hS dX10_meet_71
    · have hf := ite_t hf hc
      refine lv_aload_n hx hb dX10_meet_20 rfl (lv_at hl 1 rfl) ?_
      refine lv_aload_n hx hb dX10_meet_21 rfl (lv_at hl 1 rfl) ?_
      refine GX10_24 C hP gt4_27 dX10_meet_22 ?_
      refine PX10_22 hI C hP hS gt4_25 rfl rfl dX10_meet_25 (fun σ11 eσ11 H locs hP hS => ?_)
      have hf := nm_at hf σ11 eσ11
      refine lv_aload_n hx hb dX10_meet_28 rfl (lv_at hl 1 rfl) ?_
      refine lv_iload_n hx hb dX10_meet_29 rfl (lv_at hl 2 rfl) ?_
      obtain ⟨hz, hf⟩ := zk_at hf
      refine PX10_23 hI C hP hS gt4_26 (zn hz) (zf hz) dX10_meet_30 (fun σ12 eσ12 H locs hP hS => ?_)
      have hf := nm_at hf σ12 eσ12
      refine lv_iload_n hx hb dX10_meet_33 rfl (lv_at hl 2 rfl) ?_
      refine lv_if_eq (tgt := 42) hx hb dX10_meet_34 (by decide) (fun hc => ?_) (fun hc => ?_)
      · have hf := ite_t hf hc
        refine lv_bipush (v := 32) hx hb dX10_meet_42 (by decide) ?_
        refine lv_aload_n hx hb dX10_meet_44 rfl (lv_at hl 1 rfl) ?_
        refine GX10_24 C hP gt4_27 dX10_meet_45 ?_
        refine lv_iadd hx hb dX10_meet_48 ?_
        exact MI.ret (wf := wM ad cI) hQ C hr hlk rfl hf hP hS dX10_meet_49
      · have hf := ite_f hf hc
        refine lv_bipush (v := 16) hx hb dX10_meet_37 (by decide) ?_
        refine lv_goto (tgt := 44) hx hb dX10_meet_39 (by decide) ?_
        refine lv_aload_n hx hb dX10_meet_44 rfl (lv_at hl 1 rfl) ?_
        refine GX10_24 C hP gt4_27 dX10_meet_45 ?_
        refine lv_iadd hx hb dX10_meet_48 ?_
        exact MI.ret (wf := wM ad cI) hQ C hr hlk rfl hf hP hS dX10_meet_49
  unfold fX10_meet at hf
  refine lv_iload_n hx hb dX10_meet_0 rfl (lv_at hl 1 rfl) ?_
  refine lv_if_eq (tgt := 11) hx hb dX10_meet_1 (by decide) (fun hc => ?_) (fun hc => ?_)
  · have hf := ite_t hf hc
    refine lv_aload_n hx hb dX10_meet_11 rfl (lv_at hl 0 rfl) ?_
    refine GX10_4 C hP gt4_7 dX10_meet_12 ?_
    exact B15 σ p1 (σ 0 4) _ _ _ hP hS (lv_sub hl [0, 1] rfl) hf
  · have hf := ite_f hf hc
    refine lv_aload_n hx hb dX10_meet_4 rfl (lv_at hl 0 rfl) ?_
    refine GX10_3 C hP gt4_6 dX10_meet_5 ?_
    refine lv_goto (tgt := 15) hx hb dX10_meet_8 (by decide) ?_
    exact B15 σ p1 (σ 0 3) _ _ _ hP hS (lv_sub hl [0, 1] rfl) hf
