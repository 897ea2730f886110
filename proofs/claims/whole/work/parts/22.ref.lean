def fX10_putSixteen_b18 (σ : St) (x1 x2 y0 : Int32) : Option (Int32 × St) := bd (fX10_result σ y0) (fun _ σ2 => (if x2 = 0 then bd (fX10_result σ2 (x1 - x1 / 256 * 256)) (fun _ σ4 => some (0, σ4)) else bd (fX10_result σ2 (x1 / 256)) (fun _ σ6 => some (0, σ6))))
def fX10_putSixteen (σ : St) (p1 p2 : Int32) : Option (Int32 × St) := (if p2 = 0 then fX10_putSixteen_b18 σ p1 p2 (p1 / 256) else fX10_putSixteen_b18 σ p1 p2 (p1 - p1 / 256 * 256))
set_option maxHeartbeats 4000000 in
set_option maxRecDepth 100000 in
theorem mX10_putSixteen {l : Launch} {D : va_G} {kS vS : Nat → Nat} {ad : Nat → Nat} {cI cF : ClassId} {σ σ0 : St} {p1 p2 : Int32} {r : Int32} (hI : Inj ad 5) (hf : fX10_putSixteen σ p1 p2 = some (r, σ0)) : MV l D (tyC cI cF) (inA ad 5) kS vS yX10_putSixteen cX10_putSixteen 3 1 21 [.ref (ad 0), .int p1, .int p2] (wM ad cI σ) (wM ad cI σ0) := by
  refine MV.of (by decide) (Nat.le_of_ble_eq_true rfl) (fun p e s m args below meth c ls Q hQ C hr hlk hP hS hl => ?_)
  obtain ⟨hx, hb, hml, hown, hts, hK, hKS⟩ := id C
  have hl : lv_has ls 3 [(0, .ref (ad 0)), (1, .int p1), (2, .int p2)] := hl
  have B18 : ∀ (σ : St) (x1 x2 y0 : Int32) (H : Heap) (locs : List Loc) (ls : Array Slot), va_P D vwCl (wM ad cI σ) H → va_S (inA ad 5) s.heap H locs → lv_has ls 3 [(0, .ref (ad 0)), (1, .int x1), (2, .int x2)] → fX10_putSixteen_b18 σ x1 x2 y0 = some (r, σ0) → W p l e (rmN 1 21) s m args below meth c H locs 0 0 Q (F0 m 18 ls [.int y0, .ref (ad 0)]) := by
    intro σ x1 x2 y0 H locs ls hP hS hl hf
    unfold fX10_putSixteen_b18 at hf
    obtain ⟨v1, σ2, hc, hf⟩ := bd_at hf
    refine callVV (As := [.int y0]) (rest := []) C (mX10_result hI hc) ⟨gt4_192, gt4_194, gtp32, gt1_11, gt4_195⟩ okX10_result ⟨Nat.le_of_ble_eq_true rfl, Nat.le_of_ble_eq_true rfl⟩ (rcvOf C hP (show (wM ad cI _)[0]? = some (ad 0, _) from rfl) rfl) rfl hl.1 rfl (Nat.le_of_ble_eq_true rfl) hP hS dX10_putSixteen_18 (fun H locs hP hS => ?_)
    refine lv_aload_n hx hb dX10_putSixteen_21 rfl (lv_at hl 0 rfl) ?_
    refine lv_iload_n hx hb dX10_putSixteen_22 rfl (lv_at hl 2 rfl) ?_
    refine lv_if_eq (tgt := 34) hx hb dX10_putSixteen_23 (by decide) (fun hc => ?_) (fun hc => ?_)
    · have hf := ite_t hf hc
      refine lv_iload_n hx hb dX10_putSixteen_34 rfl (lv_at hl 1 rfl) ?_
      refine lv_sipush (v := 256) hx hb dX10_putSixteen_35 (by decide) ?_
      refine lv_irem hx hb dX10_putSixteen_38 (by decide) ?_
      obtain ⟨v3, σ4, hc, hf⟩ := bd_at hf
      refine callVV (As := [.int (x1 - x1 / 256 * 256)]) (rest := []) C (mX10_result hI hc) ⟨gt4_192, gt4_194, gtp32, gt1_11, gt4_195⟩ okX10_result ⟨Nat.le_of_ble_eq_true rfl, Nat.le_of_ble_eq_true rfl⟩ (rcvOf C hP (show (wM ad cI _)[0]? = some (ad 0, _) from rfl) rfl) rfl hl.1 rfl (Nat.le_of_ble_eq_true rfl) hP hS dX10_putSixteen_39 (fun H locs hP hS => ?_)
      exact MV.ret (wf := wM ad cI) hQ C hr hlk hf hP hS dX10_putSixteen_42
    · have hf := ite_f hf hc
      refine lv_iload_n hx hb dX10_putSixteen_26 rfl (lv_at hl 1 rfl) ?_
      refine lv_sipush (v := 256) hx hb dX10_putSixteen_27 (by decide) ?_
      refine lv_idiv hx hb dX10_putSixteen_30 (by decide) ?_
      refine lv_goto (tgt := 39) hx hb dX10_putSixteen_31 (by decide) ?_
      obtain ⟨v5, σ6, hc, hf⟩ := bd_at hf
      refine callVV (As := [.int (x1 / 256)]) (rest := []) C (mX10_result hI hc) ⟨gt4_192, gt4_194, gtp32, gt1_11, gt4_195⟩ okX10_result ⟨Nat.le_of_ble_eq_true rfl, Nat.le_of_ble_eq_true rfl⟩ (rcvOf C hP (show (wM ad cI _)[0]? = some (ad 0, _) from rfl) rfl) rfl hl.1 rfl (Nat.le_of_ble_eq_true rfl) hP hS dX10_putSixteen_39 (fun H locs hP hS => ?_)
      exact MV.ret (wf := wM ad cI) hQ C hr hlk hf hP hS dX10_putSixteen_42
  unfold fX10_putSixteen at hf
  refine lv_aload_n hx hb dX10_putSixteen_0 rfl (lv_at hl 0 rfl) ?_
  refine lv_iload_n hx hb dX10_putSixteen_1 rfl (lv_at hl 2 rfl) ?_
  refine lv_if_eq (tgt := 13) hx hb dX10_putSixteen_2 (by decide) (fun hc => ?_) (fun hc => ?_)
  · have hf := ite_t hf hc
    refine lv_iload_n hx hb dX10_putSixteen_13 rfl (lv_at hl 1 rfl) ?_
    refine lv_sipush (v := 256) hx hb dX10_putSixteen_14 (by decide) ?_
    refine lv_idiv hx hb dX10_putSixteen_17 (by decide) ?_
    exact B18 σ p1 p2 (p1 / 256) _ _ _ hP hS (lv_sub hl [0, 1, 2] rfl) hf
  · have hf := ite_f hf hc
    refine lv_iload_n hx hb dX10_putSixteen_5 rfl (lv_at hl 1 rfl) ?_
    refine lv_sipush (v := 256) hx hb dX10_putSixteen_6 (by decide) ?_
    refine lv_irem hx hb dX10_putSixteen_9 (by decide) ?_
    refine lv_goto (tgt := 18) hx hb dX10_putSixteen_10 (by decide) ?_
    exact B18 σ p1 p2 (p1 - p1 / 256 * 256) _ _ _ hP hS (lv_sub hl [0, 1, 2] rfl) hf
def fX10_encodeSixteen_b140 (σ : St) (x1 : Int32) : Option (Int32 × St) := bd (fX10_high σ x1) (fun v14 σ15 => (if v14 = 0 then bd (fX10_step σ15 1) (fun v16 σ17 => some (v16, σ17)) else bd (fX10_step σ15 2) (fun v18 σ19 => some (v18, σ19))))
def fX10_encodeSixteen_b137 (σ : St) (x1 y0 y1 : Int32) : Option (Int32 × St) := bd (fX10_putSixteen σ y1 y0) (fun _ σ22 => fX10_encodeSixteen_b140 σ22 x1)
def fX10_encodeSixteen_b107 (σ : St) (x1 y0 y1 : Int32) : Option (Int32 × St) := bd (fX10_putSixteen σ y1 y0) (fun _ σ11 => bd (fX10_high σ11 x1) (fun v12 σ13 => (if v12 = 0 then fX10_encodeSixteen_b140 σ13 x1 else ld (σ13 2) 24 1 (fun v20 => (if (σ13 0 1) = 4 then fX10_encodeSixteen_b137 σ13 x1 1 v20 else fX10_encodeSixteen_b137 σ13 x1 0 v20)))))
def fX10_encodeSixteen_b92 (σ : St) (x1 : Int32) : Option (Int32 × St) := (if (σ 0 1) = 4 then fX10_encodeSixteen_b107 σ x1 1 x1 else fX10_encodeSixteen_b107 σ x1 0 x1)
def fX10_encodeSixteen_b59 (σ : St) (x1 : Int32) : Option (Int32 × St) := bd (fX10_low σ x1) (fun v4 σ5 => (if v4 = 0 then bd (fX10_high σ5 x1) (fun v8 σ9 => (if v8 = 0 then fX10_encodeSixteen_b92 σ9 x1 else ld (σ9 2) 24 1 (fun v23 => bd (fX10_low σ9 v23) (fun v24 σ25 => (if v24 = 0 then bd (fX10_fault σ25 2 1) (fun v26 σ27 => some (v26, σ27)) else fX10_encodeSixteen_b92 σ25 x1))))) else bd (fX10_fault σ5 2 1) (fun v6 σ7 => some (v6, σ7))))
def fX10_encodeSixteen_b35 (σ : St) : Option (Int32 × St) := ld (σ 2) 24 0 (fun v1 => bd (fX10_high σ v1) (fun v2 σ3 => (if v2 = 0 then fX10_encodeSixteen_b59 σ3 v1 else (if (σ3 0 9) = 1 then some (1, σ3) else fX10_encodeSixteen_b59 σ3 v1))))
def fX10_encodeSixteen (σ : St) : Option (Int32 × St) := (if (σ 0 1) = 2 then (if (σ 0 16) = 0 then bd (fX10_result σ 254) (fun _ σ29 => bd (fX10_result σ29 255) (fun _ σ31 => bd (fX10_step σ31 0) (fun v32 σ33 => some (v32, σ33)))) else fX10_encodeSixteen_b35 σ) else fX10_encodeSixteen_b35 σ)
set_option maxHeartbeats 4000000 in
set_option maxRecDepth 100000 in
theorem mX10_encodeSixteen {l : Launch} {D : va_G} {kS vS : Nat → Nat} {ad : Nat → Nat} {cI cF : ClassId} {σ σ0 : St} {r : Int32} (hI : Inj ad 5) (hf : fX10_encodeSixteen σ  = some (r, σ0)) : MI l D (tyC cI cF) (inA ad 5) kS vS yX10_encodeSixteen cX10_encodeSixteen 2 .int 2 43 [.ref (ad 0)] (wM ad cI σ) (wM ad cI σ0) r := by
  refine MI.of (by decide) (Nat.le_of_ble_eq_true rfl) (fun p e s m args below meth c ls Q hQ C hr hlk hP hS hl => ?_)
  obtain ⟨hx, hb, hml, hown, hts, hK, hKS⟩ := id C
  have hl : lv_has ls 2 [(0, .ref (ad 0))] := hl
  have B140 : ∀ (σ : St) (x1 : Int32) (H : Heap) (locs : List Loc) (ls : Array Slot), va_P D vwCl (wM ad cI σ) H → va_S (inA ad 5) s.heap H locs → lv_has ls 2 [(0, .ref (ad 0)), (1, .int x1)] → fX10_encodeSixteen_b140 σ x1 = some (r, σ0) → W p l e (rmN 2 43) s m args below meth c H locs 0 0 Q (F0 m 140 ls []) := by
    intro σ x1 H locs ls hP hS hl hf
    unfold fX10_encodeSixteen_b140 at hf
    refine lv_aload_n hx hb dX10_encodeSixteen_140 rfl (lv_at hl 0 rfl) ?_
    refine lv_iload_n hx hb dX10_encodeSixteen_141 rfl (lv_at hl 1 rfl) ?_
    obtain ⟨v14, σ15, hc, hf⟩ := bd_at hf
    refine callSI (As := [.int x1]) (rest := [.ref (ad 0)]) C (mX10_high hI hc) ⟨gt4_177, gt4_178, gt1_11, gt4_179⟩ okX10_high ⟨Nat.le_of_ble_eq_true rfl, Nat.le_of_ble_eq_true rfl⟩ rfl hl.1 rfl (Nat.le_of_ble_eq_true rfl) hP hS dX10_encodeSixteen_142 (fun H locs hP hS => ?_)
    refine lv_if_eq (tgt := 152) hx hb dX10_encodeSixteen_145 (by decide) (fun hc => ?_) (fun hc => ?_)
    · have hf := ite_t hf hc
      refine lv_iconst (v := 1) hx hb dX10_encodeSixteen_152 (by decide) ?_
      obtain ⟨v16, σ17, hc, hf⟩ := bd_at hf
      refine callVI (As := [.int 1]) (rest := []) C (mX10_step hI hc) ⟨gt4_196, gt4_198, gtp33, gt1_11, gt4_199⟩ okX10_step ⟨Nat.le_of_ble_eq_true rfl, Nat.le_of_ble_eq_true rfl⟩ (rcvOf C hP (show (wM ad cI _)[0]? = some (ad 0, _) from rfl) rfl) rfl hl.1 rfl (Nat.le_of_ble_eq_true rfl) hP hS dX10_encodeSixteen_153 (fun H locs hP hS => ?_)
      exact MI.ret (wf := wM ad cI) hQ C hr hlk rfl hf hP hS dX10_encodeSixteen_156
    · have hf := ite_f hf hc
      refine lv_iconst (v := 2) hx hb dX10_encodeSixteen_148 (by decide) ?_
      refine lv_goto (tgt := 153) hx hb dX10_encodeSixteen_149 (by decide) ?_
      obtain ⟨v18, σ19, hc, hf⟩ := bd_at hf
      refine callVI (As := [.int 2]) (rest := []) C (mX10_step hI hc) ⟨gt4_196, gt4_198, gtp33, gt1_11, gt4_199⟩ okX10_step ⟨Nat.le_of_ble_eq_true rfl, Nat.le_of_ble_eq_true rfl⟩ (rcvOf C hP (show (wM ad cI _)[0]? = some (ad 0, _) from rfl) rfl) rfl hl.1 rfl (Nat.le_of_ble_eq_true rfl) hP hS dX10_encodeSixteen_153 (fun H locs hP hS => ?_)
      exact MI.ret (wf := wM ad cI) hQ C hr hlk rfl hf hP hS dX10_encodeSixteen_156
  have B137 : ∀ (σ : St) (x1 y0 y1 : Int32) (H : Heap) (locs : List Loc) (ls : Array Slot), va_P D vwCl (wM ad cI σ) H → va_S (inA ad 5) s.heap H locs → lv_has ls 2 [(0, .ref (ad 0)), (1, .int x1)] → fX10_encodeSixteen_b137 σ x1 y0 y1 = some (r, σ0) → W p l e (rmN 2 43) s m args below meth c H locs 0 0 Q (F0 m 137 ls [.int y0, .int y1, .ref (ad 0)]) := by
    intro σ x1 y0 y1 H locs ls hP hS hl hf
    unfold fX10_encodeSixteen_b137 at hf
    obtain ⟨v21, σ22, hc, hf⟩ := bd_at hf
    refine callVV (As := [.int y1, .int y0]) (rest := []) C (mX10_putSixteen hI hc) ⟨gt4_228, gt4_230, gtp40, gt1_11, gt4_231⟩ okX10_putSixteen ⟨Nat.le_of_ble_eq_true rfl, Nat.le_of_ble_eq_true rfl⟩ (rcvOf C hP (show (wM ad cI _)[0]? = some (ad 0, _) from rfl) rfl) rfl hl.1 rfl (Nat.le_of_ble_eq_true rfl) hP hS dX10_encodeSixteen_137 (fun H locs hP hS => ?_)
    exact B140 σ22 x1 _ _ _ hP hS (lv_sub hl [0, 1] rfl) hf
  have B107 : ∀ (σ : St) (x1 y0 y1 : Int32) (H : Heap) (locs : List Loc) (ls : Array Slot), va_P D vwCl (wM ad cI σ) H → va_S (inA ad 5) s.heap H locs → lv_has ls 2 [(0, .ref (ad 0)), (1, .int x1)] → fX10_encodeSixteen_b107 σ x1 y0 y1 = some (r, σ0) → W p l e (rmN 2 43) s m args below meth c H locs 0 0 Q (F0 m 107 ls [.int y0, .int y1, .ref (ad 0)]) := by
    intro σ x1 y0 y1 H locs ls hP hS hl hf
    unfold fX10_encodeSixteen_b107 at hf
    obtain ⟨v10, σ11, hc, hf⟩ := bd_at hf
    refine callVV (As := [.int y1, .int y0]) (rest := []) C (mX10_putSixteen hI hc) ⟨gt4_228, gt4_230, gtp40, gt1_11, gt4_231⟩ okX10_putSixteen ⟨Nat.le_of_ble_eq_true rfl, Nat.le_of_ble_eq_true rfl⟩ (rcvOf C hP (show (wM ad cI _)[0]? = some (ad 0, _) from rfl) rfl) rfl hl.1 rfl (Nat.le_of_ble_eq_true rfl) hP hS dX10_encodeSixteen_107 (fun H locs hP hS => ?_)
    refine lv_iload_n hx hb dX10_encodeSixteen_110 rfl (lv_at hl 1 rfl) ?_
    obtain ⟨v12, σ13, hc, hf⟩ := bd_at hf
    refine callSI (As := [.int x1]) (rest := []) C (mX10_high hI hc) ⟨gt4_177, gt4_178, gt1_11, gt4_179⟩ okX10_high ⟨Nat.le_of_ble_eq_true rfl, Nat.le_of_ble_eq_true rfl⟩ rfl hl.1 rfl (Nat.le_of_ble_eq_true rfl) hP hS dX10_encodeSixteen_111 (fun H locs hP hS => ?_)
    refine lv_if_eq (tgt := 140) hx hb dX10_encodeSixteen_114 (by decide) (fun hc => ?_) (fun hc => ?_)
    · have hf := ite_t hf hc
      exact B140 σ13 x1 _ _ _ hP hS (lv_sub hl [0, 1] rfl) hf
    · have hf := ite_f hf hc
      refine lv_aload_n hx hb dX10_encodeSixteen_117 rfl (lv_at hl 0 rfl) ?_
      refine lv_aload_n hx hb dX10_encodeSixteen_118 rfl (lv_at hl 0 rfl) ?_
      refine GX10_8 C hP gt4_11 dX10_encodeSixteen_119 ?_
      refine lv_iconst (v := 1) hx hb dX10_encodeSixteen_122 (by decide) ?_
      obtain ⟨hin, hf⟩ := ld_at hf
      refine aload C hP 2 rfl rfl hin dX10_encodeSixteen_123 (fun v20 ev20 => ?_)
      have hf := hf v20 ev20
      refine lv_aload_n hx hb dX10_encodeSixteen_124 rfl (lv_at hl 0 rfl) ?_
      refine GX10_1 C hP gt4_4 dX10_encodeSixteen_125 ?_
      refine lv_iconst (v := 4) hx hb dX10_encodeSixteen_128 (by decide) ?_
      refine lv_icmp_ne (tgt := 136) hx hb dX10_encodeSixteen_129 (by decide) (fun hc => ?_) (fun hc => ?_)
      · have hf := ite_f hf hc
        refine lv_iconst (v := 0) hx hb dX10_encodeSixteen_136 (by decide) ?_
        exact B137 σ13 x1 0 v20 _ _ _ hP hS (lv_sub hl [0, 1] rfl) hf
      · have hf := ite_t hf hc
        refine lv_iconst (v := 1) hx hb dX10_encodeSixteen_132 (by decide) ?_
        refine lv_goto (tgt := 137) hx hb dX10_encodeSixteen_133 (by decide) ?_
        exact B137 σ13 x1 1 v20 _ _ _ hP hS (lv_sub hl [0, 1] rfl) hf
  have B92 : ∀ (σ : St) (x1 : Int32) (H : Heap) (locs : List Loc) (ls : Array Slot), va_P D vwCl (wM ad cI σ) H → va_S (inA ad 5) s.heap H locs → lv_has ls 2 [(0, .ref (ad 0)), (1, .int x1)] → fX10_encodeSixteen_b92 σ x1 = some (r, σ0) → W p l e (rmN 2 43) s m args below meth c H locs 0 0 Q (F0 m 92 ls []) := by
    intro σ x1 H locs ls hP hS hl hf
    unfold fX10_encodeSixteen_b92 at hf
    refine lv_aload_n hx hb dX10_encodeSixteen_92 rfl (lv_at hl 0 rfl) ?_
    refine lv_iload_n hx hb dX10_encodeSixteen_93 rfl (lv_at hl 1 rfl) ?_
    refine lv_aload_n hx hb dX10_encodeSixteen_94 rfl (lv_at hl 0 rfl) ?_
    refine GX10_1 C hP gt4_4 dX10_encodeSixteen_95 ?_
    refine lv_iconst (v := 4) hx hb dX10_encodeSixteen_98 (by decide) ?_
    refine lv_icmp_ne (tgt := 106) hx hb dX10_encodeSixteen_99 (by decide) (fun hc => ?_) (fun hc => ?_)
    · have hf := ite_f hf hc
      refine lv_iconst (v := 0) hx hb dX10_encodeSixteen_106 (by decide) ?_
      exact B107 σ x1 0 x1 _ _ _ hP hS (lv_sub hl [0, 1] rfl) hf
    · have hf := ite_t hf hc
      refine lv_iconst (v := 1) hx hb dX10_encodeSixteen_102 (by decide) ?_
      refine lv_goto (tgt := 107) hx hb dX10_encodeSixteen_103 (by decide) ?_
      exact B107 σ x1 1 x1 _ _ _ hP hS (lv_sub hl [0, 1] rfl) hf
  have B59 : ∀ (σ : St) (x1 : Int32) (H : Heap) (locs : List Loc) (ls : Array Slot), va_P D vwCl (wM ad cI σ) H → va_S (inA ad 5) s.heap H locs → lv_has ls 2 [(0, .ref (ad 0)), (1, .int x1)] → fX10_encodeSixteen_b59 σ x1 = some (r, σ0) → W p l e (rmN 2 43) s m args below meth c H locs 0 0 Q (F0 m 59 ls []) := by
    intro σ x1 H locs ls hP hS hl hf
    unfold fX10_encodeSixteen_b59 at hf
    refine lv_iload_n hx hb dX10_encodeSixteen_59 rfl (lv_at hl 1 rfl) ?_
    obtain ⟨v4, σ5, hc, hf⟩ := bd_at hf
    refine callSI (As := [.int x1]) (rest := []) C (mX10_low hI hc) ⟨gt4_182, gt4_183, gt1_11, gt4_184⟩ okX10_low ⟨Nat.le_of_ble_eq_true rfl, Nat.le_of_ble_eq_true rfl⟩ rfl hl.1 rfl (Nat.le_of_ble_eq_true rfl) hP hS dX10_encodeSixteen_60 (fun H locs hP hS => ?_)
    refine lv_if_ne (tgt := 85) hx hb dX10_encodeSixteen_63 (by decide) (fun hc => ?_) (fun hc => ?_)
    · have hf := ite_f hf hc
      refine lv_aload_n hx hb dX10_encodeSixteen_85 rfl (lv_at hl 0 rfl) ?_
      refine lv_iconst (v := 2) hx hb dX10_encodeSixteen_86 (by decide) ?_
      refine lv_iconst (v := 1) hx hb dX10_encodeSixteen_87 (by decide) ?_
      obtain ⟨v6, σ7, hc, hf⟩ := bd_at hf
      refine callVI (As := [.int 2, .int 1]) (rest := []) C (mX10_fault hI hc) ⟨gt4_200, gt4_202, gtp34, gt1_11, gt4_203⟩ okX10_fault ⟨Nat.le_of_ble_eq_true rfl, Nat.le_of_ble_eq_true rfl⟩ (rcvOf C hP (show (wM ad cI _)[0]? = some (ad 0, _) from rfl) rfl) rfl hl.1 rfl (Nat.le_of_ble_eq_true rfl) hP hS dX10_encodeSixteen_88 (fun H locs hP hS => ?_)
      exact MI.ret (wf := wM ad cI) hQ C hr hlk rfl hf hP hS dX10_encodeSixteen_91
    · have hf := ite_t hf hc
      refine lv_iload_n hx hb dX10_encodeSixteen_66 rfl (lv_at hl 1 rfl) ?_
      obtain ⟨v8, σ9, hc, hf⟩ := bd_at hf
      refine callSI (As := [.int x1]) (rest := []) C (mX10_high hI hc) ⟨gt4_177, gt4_178, gt1_11, gt4_179⟩ okX10_high ⟨Nat.le_of_ble_eq_true rfl, Nat.le_of_ble_eq_true rfl⟩ rfl hl.1 rfl (Nat.le_of_ble_eq_true rfl) hP hS dX10_encodeSixteen_67 (fun H locs hP hS => ?_)
      refine lv_if_eq (tgt := 92) hx hb dX10_encodeSixteen_70 (by decide) (fun hc => ?_) (fun hc => ?_)
      · have hf := ite_t hf hc
        exact B92 σ9 x1 _ _ _ hP hS (lv_sub hl [0, 1] rfl) hf
      · have hf := ite_f hf hc
        refine lv_aload_n hx hb dX10_encodeSixteen_73 rfl (lv_at hl 0 rfl) ?_
        refine GX10_8 C hP gt4_11 dX10_encodeSixteen_74 ?_
        refine lv_iconst (v := 1) hx hb dX10_encodeSixteen_77 (by decide) ?_
        obtain ⟨hin, hf⟩ := ld_at hf
        refine aload C hP 2 rfl rfl hin dX10_encodeSixteen_78 (fun v23 ev23 => ?_)
        have hf := hf v23 ev23
        obtain ⟨v24, σ25, hc, hf⟩ := bd_at hf
        refine callSI (As := [.int v23]) (rest := []) C (mX10_low hI hc) ⟨gt4_182, gt4_183, gt1_11, gt4_184⟩ okX10_low ⟨Nat.le_of_ble_eq_true rfl, Nat.le_of_ble_eq_true rfl⟩ rfl hl.1 rfl (Nat.le_of_ble_eq_true rfl) hP hS dX10_encodeSixteen_79 (fun H locs hP hS => ?_)
        refine lv_if_ne (tgt := 92) hx hb dX10_encodeSixteen_82 (by decide) (fun hc => ?_) (fun hc => ?_)
        · have hf := ite_f hf hc
          exact B92 σ25 x1 _ _ _ hP hS (lv_sub hl [0, 1] rfl) hf
        · have hf := ite_t hf hc
          refine lv_aload_n hx hb dX10_encodeSixteen_85 rfl (lv_at hl 0 rfl) ?_
          refine lv_iconst (v := 2) hx hb dX10_encodeSixteen_86 (by decide) ?_
          refine lv_iconst (v := 1) hx hb dX10_encodeSixteen_87 (by decide) ?_
          obtain ⟨v26, σ27, hc, hf⟩ := bd_at hf
          refine callVI (As := [.int 2, .int 1]) (rest := []) C (mX10_fault hI hc) ⟨gt4_200, gt4_202, gtp34, gt1_11, gt4_203⟩ okX10_fault ⟨Nat.le_of_ble_eq_true rfl, Nat.le_of_ble_eq_true rfl⟩ (rcvOf C hP (show (wM ad cI _)[0]? = some (ad 0, _) from rfl) rfl) rfl hl.1 rfl (Nat.le_of_ble_eq_true rfl) hP hS dX10_encodeSixteen_88 (fun H locs hP hS => ?_)
          exact MI.ret (wf := wM ad cI) hQ C hr hlk rfl hf hP hS dX10_encodeSixteen_91
  have B35 : ∀ (σ : St) (H : Heap) (locs : List Loc) (ls : Array Slot), va_P D vwCl (wM ad cI σ) H → va_S (inA ad 5) s.heap H locs → lv_has ls 2 [(0, .ref (ad 0))] → fX10_encodeSixteen_b35 σ = some (r, σ0) → W p l e (rmN 2 43) s m args below meth c H locs 0 0 Q (F0 m 35 ls []) := by
    intro σ H locs ls hP hS hl hf
    unfold fX10_encodeSixteen_b35 at hf
    refine lv_aload_n hx hb dX10_encodeSixteen_35 rfl (lv_at hl 0 rfl) ?_
    refine GX10_8 C hP gt4_11 dX10_encodeSixteen_36 ?_
    refine lv_iconst (v := 0) hx hb dX10_encodeSixteen_39 (by decide) ?_
    obtain ⟨hin, hf⟩ := ld_at hf
    refine aload C hP 2 rfl rfl hin dX10_encodeSixteen_40 (fun v1 ev1 => ?_)
    have hf := hf v1 ev1
    refine lv_istore_n (lv' := [(1, .int v1), (0, .ref (ad 0))]) hx hb dX10_encodeSixteen_41 rfl hl (by decide) rfl (fun ls hl => ?_)
    refine lv_iload_n hx hb dX10_encodeSixteen_42 rfl (lv_at hl 0 rfl) ?_
    obtain ⟨v2, σ3, hc, hf⟩ := bd_at hf
    refine callSI (As := [.int v1]) (rest := []) C (mX10_high hI hc) ⟨gt4_177, gt4_178, gt1_11, gt4_179⟩ okX10_high ⟨Nat.le_of_ble_eq_true rfl, Nat.le_of_ble_eq_true rfl⟩ rfl hl.1 rfl (Nat.le_of_ble_eq_true rfl) hP hS dX10_encodeSixteen_43 (fun H locs hP hS => ?_)
    refine lv_if_eq (tgt := 59) hx hb dX10_encodeSixteen_46 (by decide) (fun hc => ?_) (fun hc => ?_)
    · have hf := ite_t hf hc
      exact B59 σ3 v1 _ _ _ hP hS (lv_sub hl [1, 0] rfl) hf
    · have hf := ite_f hf hc
      refine lv_aload_n hx hb dX10_encodeSixteen_49 rfl (lv_at hl 1 rfl) ?_
      refine GX10_9 C hP gt4_12 dX10_encodeSixteen_50 ?_
      refine lv_iconst (v := 1) hx hb dX10_encodeSixteen_53 (by decide) ?_
      refine lv_icmp_ne (tgt := 59) hx hb dX10_encodeSixteen_54 (by decide) (fun hc => ?_) (fun hc => ?_)
      · have hf := ite_f hf hc
        exact B59 σ3 v1 _ _ _ hP hS (lv_sub hl [1, 0] rfl) hf
      · have hf := ite_t hf hc
        refine lv_iconst (v := 1) hx hb dX10_encodeSixteen_57 (by decide) ?_
        exact MI.ret (wf := wM ad cI) hQ C hr hlk rfl hf hP hS dX10_encodeSixteen_58
  unfold fX10_encodeSixteen at hf
  refine lv_aload_n hx hb dX10_encodeSixteen_0 rfl (lv_at hl 0 rfl) ?_
  refine GX10_1 C hP gt4_4 dX10_encodeSixteen_1 ?_
  refine lv_iconst (v := 2) hx hb dX10_encodeSixteen_4 (by decide) ?_
  refine lv_icmp_ne (tgt := 35) hx hb dX10_encodeSixteen_5 (by decide) (fun hc => ?_) (fun hc => ?_)
  · have hf := ite_f hf hc
    exact B35 σ _ _ _ hP hS (lv_sub hl [0] rfl) hf
  · have hf := ite_t hf hc
    refine lv_aload_n hx hb dX10_encodeSixteen_8 rfl (lv_at hl 0 rfl) ?_
    refine GX10_16 C hP gt4_19 dX10_encodeSixteen_9 ?_
    refine lv_if_ne (tgt := 35) hx hb dX10_encodeSixteen_12 (by decide) (fun hc => ?_) (fun hc => ?_)
    · have hf := ite_f hf hc
      exact B35 σ _ _ _ hP hS (lv_sub hl [0] rfl) hf
    · have hf := ite_t hf hc
      refine lv_aload_n hx hb dX10_encodeSixteen_15 rfl (lv_at hl 0 rfl) ?_
      refine lv_sipush (v := 254) hx hb dX10_encodeSixteen_16 (by decide) ?_
      obtain ⟨v28, σ29, hc, hf⟩ := bd_at hf
      refine callVV (As := [.int 254]) (rest := []) C (mX10_result hI hc) ⟨gt4_192, gt4_194, gtp32, gt1_11, gt4_195⟩ okX10_result ⟨Nat.le_of_ble_eq_true rfl, Nat.le_of_ble_eq_true rfl⟩ (rcvOf C hP (show (wM ad cI _)[0]? = some (ad 0, _) from rfl) rfl) rfl hl.1 rfl (Nat.le_of_ble_eq_true rfl) hP hS dX10_encodeSixteen_19 (fun H locs hP hS => ?_)
      refine lv_aload_n hx hb dX10_encodeSixteen_22 rfl (lv_at hl 0 rfl) ?_
      refine lv_sipush (v := 255) hx hb dX10_encodeSixteen_23 (by decide) ?_
      obtain ⟨v30, σ31, hc, hf⟩ := bd_at hf
      refine callVV (As := [.int 255]) (rest := []) C (mX10_result hI hc) ⟨gt4_192, gt4_194, gtp32, gt1_11, gt4_195⟩ okX10_result ⟨Nat.le_of_ble_eq_true rfl, Nat.le_of_ble_eq_true rfl⟩ (rcvOf C hP (show (wM ad cI _)[0]? = some (ad 0, _) from rfl) rfl) rfl hl.1 rfl (Nat.le_of_ble_eq_true rfl) hP hS dX10_encodeSixteen_26 (fun H locs hP hS => ?_)
      refine lv_aload_n hx hb dX10_encodeSixteen_29 rfl (lv_at hl 0 rfl) ?_
      refine lv_iconst (v := 0) hx hb dX10_encodeSixteen_30 (by decide) ?_
      obtain ⟨v32, σ33, hc, hf⟩ := bd_at hf
      refine callVI (As := [.int 0]) (rest := []) C (mX10_step hI hc) ⟨gt4_196, gt4_198, gtp33, gt1_11, gt4_199⟩ okX10_step ⟨Nat.le_of_ble_eq_true rfl, Nat.le_of_ble_eq_true rfl⟩ (rcvOf C hP (show (wM ad cI _)[0]? = some (ad 0, _) from rfl) rfl) rfl hl.1 rfl (Nat.le_of_ble_eq_true rfl) hP hS dX10_encodeSixteen_31 (fun H locs hP hS => ?_)
      exact MI.ret (wf := wM ad cI) hQ C hr hlk rfl hf hP hS dX10_encodeSixteen_34
def fX10_lengthOf (σ : St) (p0 : Int32) : Option (Int32 × St) := (if 128 ≤ p0 then (if 192 ≤ p0 then (if 224 ≤ p0 then (if 240 ≤ p0 then (if 248 ≤ p0 then some (0, σ) else some (4, σ)) else some (3, σ)) else some (2, σ)) else some (0, σ)) else some (1, σ))
set_option maxHeartbeats 4000000 in
set_option maxRecDepth 100000 in
theorem mX10_lengthOf {l : Launch} {D : va_G} {kS vS : Nat → Nat} {ad : Nat → Nat} {cI cF : ClassId} {σ σ0 : St} {p0 : Int32} {r : Int32} (hI : Inj ad 5) (hf : fX10_lengthOf σ p0 = some (r, σ0)) : MI l D (tyC cI cF) (inA ad 5) kS vS yX10_lengthOf cX10_lengthOf 1 .int 0 0 [.int p0] (wM ad cI σ) (wM ad cI σ0) r := by
  refine MI.of (by decide) (Nat.le_of_ble_eq_true rfl) (fun p e s m args below meth c ls Q hQ C hr hlk hP hS hl => ?_)
  obtain ⟨hx, hb, hml, hown, hts, hK, hKS⟩ := id C
  have hl : lv_has ls 1 [(0, .int p0)] := hl
  unfold fX10_lengthOf at hf
  refine lv_iload_n hx hb dX10_lengthOf_0 rfl (lv_at hl 0 rfl) ?_
  refine lv_sipush (v := 128) hx hb dX10_lengthOf_1 (by decide) ?_
  refine lv_icmp_ge (tgt := 11) hx hb dX10_lengthOf_4 (by decide) (fun hc => ?_) (fun hc => ?_)
  · have hf := ite_t hf hc
    refine lv_iload_n hx hb dX10_lengthOf_11 rfl (lv_at hl 0 rfl) ?_
    refine lv_sipush (v := 192) hx hb dX10_lengthOf_12 (by decide) ?_
    refine lv_icmp_ge (tgt := 22) hx hb dX10_lengthOf_15 (by decide) (fun hc => ?_) (fun hc => ?_)
    · have hf := ite_t hf hc
      refine lv_iload_n hx hb dX10_lengthOf_22 rfl (lv_at hl 0 rfl) ?_
      refine lv_sipush (v := 224) hx hb dX10_lengthOf_23 (by decide) ?_
      refine lv_icmp_ge (tgt := 33) hx hb dX10_lengthOf_26 (by decide) (fun hc => ?_) (fun hc => ?_)
      · have hf := ite_t hf hc
        refine lv_iload_n hx hb dX10_lengthOf_33 rfl (lv_at hl 0 rfl) ?_
        refine lv_sipush (v := 240) hx hb dX10_lengthOf_34 (by decide) ?_
        refine lv_icmp_ge (tgt := 44) hx hb dX10_lengthOf_37 (by decide) (fun hc => ?_) (fun hc => ?_)
        · have hf := ite_t hf hc
          refine lv_iload_n hx hb dX10_lengthOf_44 rfl (lv_at hl 0 rfl) ?_
          refine lv_sipush (v := 248) hx hb dX10_lengthOf_45 (by decide) ?_
          refine lv_icmp_ge (tgt := 55) hx hb dX10_lengthOf_48 (by decide) (fun hc => ?_) (fun hc => ?_)
          · have hf := ite_t hf hc
            refine lv_iconst (v := 0) hx hb dX10_lengthOf_55 (by decide) ?_
            exact MI.ret (wf := wM ad cI) hQ C hr hlk rfl hf hP hS dX10_lengthOf_56
          · have hf := ite_f hf hc
            refine lv_iconst (v := 4) hx hb dX10_lengthOf_51 (by decide) ?_
            refine lv_goto (tgt := 56) hx hb dX10_lengthOf_52 (by decide) ?_
            exact MI.ret (wf := wM ad cI) hQ C hr hlk rfl hf hP hS dX10_lengthOf_56
        · have hf := ite_f hf hc
          refine lv_iconst (v := 3) hx hb dX10_lengthOf_40 (by decide) ?_
          refine lv_goto (tgt := 56) hx hb dX10_lengthOf_41 (by decide) ?_
          exact MI.ret (wf := wM ad cI) hQ C hr hlk rfl hf hP hS dX10_lengthOf_56
      · have hf := ite_f hf hc
        refine lv_iconst (v := 2) hx hb dX10_lengthOf_29 (by decide) ?_
        refine lv_goto (tgt := 56) hx hb dX10_lengthOf_30 (by decide) ?_
        exact MI.ret (wf := wM ad cI) hQ C hr hlk rfl hf hP hS dX10_lengthOf_56
    · have hf := ite_f hf hc
      refine lv_iconst (v := 0) hx hb dX10_lengthOf_18 (by decide) ?_
      refine lv_goto (tgt := 56) hx hb dX10_lengthOf_19 (by decide) ?_
      exact MI.ret (wf := wM ad cI) hQ C hr hlk rfl hf hP hS dX10_lengthOf_56
  · have hf := ite_f hf hc
    refine lv_iconst (v := 1) hx hb dX10_lengthOf_7 (by decide) ?_
    refine lv_goto (tgt := 56) hx hb dX10_lengthOf_8 (by decide) ?_
    exact MI.ret (wf := wM ad cI) hQ C hr hlk rfl hf hP hS dX10_lengthOf_56
def fX10_least_b50 : Nat → St → Int32 → Int32 → Int32 → Int32 → Option (Int32 × St)
  | 0, _, _, _, _, _ => none
  | n + 1, σ, x1, x2, x3, x4 => (if x1 ≤ x4 then some (x3, σ) else (if x2 ≤ x4 then nm ((64 * x3) + 0) (fun v2 => nm (x4 + 1) (fun v3 => fX10_least_b50 n σ x1 x2 v2 v3)) else ld (σ 2) 24 x4 (fun v4 => nm ((64 * x3) + (v4 - 128)) (fun v5 => nm (x4 + 1) (fun v6 => fX10_least_b50 n σ x1 x2 v5 v6)))))
def fX10_least_b46 (σ : St) (x1 x2 y0 : Int32) : Option (Int32 × St) := fX10_least_b50 200 σ x1 x2 y0 1
def fX10_least_b45 (σ : St) (x1 x2 y0 y1 : Int32) : Option (Int32 × St) := fX10_least_b46 σ x1 x2 (y1 - y0)
def fX10_least (σ : St) (p1 p2 : Int32) : Option (Int32 × St) := (if p1 = 1 then ld (σ 2) 24 0 (fun v7 => fX10_least_b46 σ p1 p2 v7) else ld (σ 2) 24 0 (fun v1 => (if p1 = 2 then fX10_least_b45 σ p1 p2 192 v1 else (if p1 = 3 then fX10_least_b45 σ p1 p2 224 v1 else fX10_least_b45 σ p1 p2 240 v1))))
set_option maxHeartbeats 4000000 in
set_option maxRecDepth 100000 in
theorem mX10_least {l : Launch} {D : va_G} {kS vS : Nat → Nat} {ad : Nat → Nat} {cI cF : ClassId} {σ σ0 : St} {p1 p2 : Int32} {r : Int32} (hI : Inj ad 5) (hf : fX10_least σ p1 p2 = some (r, σ0)) : MI l D (tyC cI cF) (inA ad 5) kS vS yX10_least cX10_least 5 .int 0 0 [.ref (ad 0), .int p1, .int p2] (wM ad cI σ) (wM ad cI σ0) r := by
  refine MI.of (by decide) (Nat.le_of_ble_eq_true rfl) (fun p e s m args below meth c ls Q hQ C hr hlk hP hS hl => ?_)
  obtain ⟨hx, hb, hml, hown, hts, hK, hKS⟩ := id C
  have hl : lv_has ls 5 [(0, .ref (ad 0)), (1, .int p1), (2, .int p2)] := hl
  have B50 : ∀ n : Nat, ∀ (σ : St) (x1 x2 x3 x4 : Int32) (H : Heap) (locs : List Loc) (ls : Array Slot), va_P D vwCl (wM ad cI σ) H → va_S (inA ad 5) s.heap H locs → lv_has ls 5 [(0, .ref (ad 0)), (1, .int x1), (2, .int x2), (3, .int x3), (4, .int x4)] → fX10_least_b50 n σ x1 x2 x3 x4 = some (r, σ0) → W p l e (rmN 0 0) s m args below meth c H locs 0 0 Q (F0 m 50 ls []) := by
    intro n
    induction n with
    | zero =>
      intro σ x1 x2 x3 x4 H locs ls hP hS hl hf
      exact nomatch (show (none : Option (Int32 × St)) = some (r, σ0) from hf)
    | succ n ih =>
      intro σ x1 x2 x3 x4 H locs ls hP hS hl hf
      rw [fX10_least_b50] at hf
      refine lv_iload hx hb dX10_least_50 (lv_at hl 4 rfl) ?_
      refine lv_iload_n hx hb dX10_least_52 rfl (lv_at hl 1 rfl) ?_
      refine lv_icmp_ge (tgt := 89) hx hb dX10_least_53 (by decide) (fun hc => ?_) (fun hc => ?_)
      · have hf := ite_t hf hc
        refine lv_iload_n hx hb dX10_least_89 rfl (lv_at hl 3 rfl) ?_
        exact MI.ret (wf := wM ad cI) hQ C hr hlk rfl hf hP hS dX10_least_90
      · have hf := ite_f hf hc
        refine lv_bipush (v := 64) hx hb dX10_least_56 (by decide) ?_
        refine lv_iload_n hx hb dX10_least_58 rfl (lv_at hl 3 rfl) ?_
        refine lv_imul hx hb dX10_least_59 ?_
        refine lv_iload hx hb dX10_least_60 (lv_at hl 4 rfl) ?_
        refine lv_iload_n hx hb dX10_least_62 rfl (lv_at hl 2 rfl) ?_
        refine lv_icmp_ge (tgt := 80) hx hb dX10_least_63 (by decide) (fun hc => ?_) (fun hc => ?_)
        · have hf := ite_t hf hc
          refine lv_iconst (v := 0) hx hb dX10_least_80 (by decide) ?_
          refine lv_iadd hx hb dX10_least_81 ?_
          refine lv_topi (fun v2 ev2 => ?_)
          have hf := nm_at hf v2 ev2
          refine lv_istore_n (lv' := [(3, .int v2), (0, .ref (ad 0)), (1, .int x1), (2, .int x2), (4, .int x4)]) hx hb dX10_least_82 rfl hl (by decide) rfl (fun ls hl => ?_)
          obtain ⟨v3, ev3⟩ : ∃ y : Int32, y = x4 + 1 := ⟨_, rfl⟩
          have hf := nm_at hf v3 ev3
          refine lv_iinc (v := v3) (lv' := [(4, .int v3), (3, .int v2), (0, .ref (ad 0)), (1, .int x1), (2, .int x2)]) hx hb dX10_least_83 hl (k := 4) rfl (by rw [ev3]; rfl) (by decide) rfl (fun ls hl => ?_)
          refine lv_goto (tgt := 50) hx hb dX10_least_86 (by decide) ?_
          exact ih σ x1 x2 v2 v3 _ _ _ hP hS (lv_sub hl [2, 3, 4, 1, 0] rfl) hf
        · have hf := ite_f hf hc
          refine lv_aload_n hx hb dX10_least_66 rfl (lv_at hl 0 rfl) ?_
          refine GX10_8 C hP gt4_11 dX10_least_67 ?_
          refine lv_iload hx hb dX10_least_70 (lv_at hl 4 rfl) ?_
          obtain ⟨hin, hf⟩ := ld_at hf
          refine aload C hP 2 rfl rfl hin dX10_least_72 (fun v4 ev4 => ?_)
          have hf := hf v4 ev4
          refine lv_sipush (v := 128) hx hb dX10_least_73 (by decide) ?_
          refine lv_isub hx hb dX10_least_76 ?_
          refine lv_goto (tgt := 81) hx hb dX10_least_77 (by decide) ?_
          refine lv_iadd hx hb dX10_least_81 ?_
          refine lv_topi (fun v5 ev5 => ?_)
          have hf := nm_at hf v5 ev5
          refine lv_istore_n (lv' := [(3, .int v5), (0, .ref (ad 0)), (1, .int x1), (2, .int x2), (4, .int x4)]) hx hb dX10_least_82 rfl hl (by decide) rfl (fun ls hl => ?_)
          obtain ⟨v6, ev6⟩ : ∃ y : Int32, y = x4 + 1 := ⟨_, rfl⟩
          have hf := nm_at hf v6 ev6
          refine lv_iinc (v := v6) (lv' := [(4, .int v6), (3, .int v5), (0, .ref (ad 0)), (1, .int x1), (2, .int x2)]) hx hb dX10_least_83 hl (k := 4) rfl (by rw [ev6]; rfl) (by decide) rfl (fun ls hl => ?_)
          refine lv_goto (tgt := 50) hx hb dX10_least_86 (by decide) ?_
          exact ih σ x1 x2 v5 v6 _ _ _ hP hS (lv_sub hl [2, 3, 4, 1, 0] rfl) hf
  have B46 : ∀ (σ : St) (x1 x2 y0 : Int32) (H : Heap) (locs : List Loc) (ls : Array Slot), va_P D vwCl (wM ad cI σ) H → va_S (inA ad 5) s.heap H locs → lv_has ls 5 [(0, .ref (ad 0)), (1, .int x1), (2, .int x2)] → fX10_least_b46 σ x1 x2 y0 = some (r, σ0) → W p l e (rmN 0 0) s m args below meth c H locs 0 0 Q (F0 m 46 ls [.int y0]) := by
    intro σ x1 x2 y0 H locs ls hP hS hl hf
    unfold fX10_least_b46 at hf
    refine lv_istore_n (lv' := [(3, .int y0), (0, .ref (ad 0)), (1, .int x1), (2, .int x2)]) hx hb dX10_least_46 rfl hl (by decide) rfl (fun ls hl => ?_)
    refine lv_iconst (v := 1) hx hb dX10_least_47 (by decide) ?_
    refine lv_istore (lv' := [(4, .int 1), (3, .int y0), (0, .ref (ad 0)), (1, .int x1), (2, .int x2)]) hx hb dX10_least_48 hl (by decide) rfl (fun ls hl => ?_)
    exact B50 200 σ x1 x2 y0 1 _ _ _ hP hS (lv_sub hl [2, 3, 4, 1, 0] rfl) hf
  have B45 : ∀ (σ : St) (x1 x2 y0 y1 : Int32) (H : Heap) (locs : List Loc) (ls : Array Slot), va_P D vwCl (wM ad cI σ) H → va_S (inA ad 5) s.heap H locs → lv_has ls 5 [(0, .ref (ad 0)), (1, .int x1), (2, .int x2)] → fX10_least_b45 σ x1 x2 y0 y1 = some (r, σ0) → W p l e (rmN 0 0) s m args below meth c H locs 0 0 Q (F0 m 45 ls [.int y0, .int y1]) := by
    intro σ x1 x2 y0 y1 H locs ls hP hS hl hf
    unfold fX10_least_b45 at hf
    refine lv_isub hx hb dX10_least_45 ?_
    exact B46 σ x1 x2 (y1 - y0) _ _ _ hP hS (lv_sub hl [0, 1, 2] rfl) hf
  unfold fX10_least at hf
  refine lv_iload_n hx hb dX10_least_0 rfl (lv_at hl 1 rfl) ?_
  refine lv_iconst (v := 1) hx hb dX10_least_1 (by decide) ?_
  refine lv_icmp_ne (tgt := 14) hx hb dX10_least_2 (by decide) (fun hc => ?_) (fun hc => ?_)
  · have hf := ite_f hf hc
    refine lv_aload_n hx hb dX10_least_14 rfl (lv_at hl 0 rfl) ?_
    refine GX10_8 C hP gt4_11 dX10_least_15 ?_
    refine lv_iconst (v := 0) hx hb dX10_least_18 (by decide) ?_
    obtain ⟨hin, hf⟩ := ld_at hf
    refine aload C hP 2 rfl rfl hin dX10_least_19 (fun v1 ev1 => ?_)
    have hf := hf v1 ev1
    refine lv_iload_n hx hb dX10_least_20 rfl (lv_at hl 1 rfl) ?_
    refine lv_iconst (v := 2) hx hb dX10_least_21 (by decide) ?_
    refine lv_icmp_ne (tgt := 31) hx hb dX10_least_22 (by decide) (fun hc => ?_) (fun hc => ?_)
    · have hf := ite_f hf hc
      refine lv_iload_n hx hb dX10_least_31 rfl (lv_at hl 1 rfl) ?_
      refine lv_iconst (v := 3) hx hb dX10_least_32 (by decide) ?_
      refine lv_icmp_ne (tgt := 42) hx hb dX10_least_33 (by decide) (fun hc => ?_) (fun hc => ?_)
      · have hf := ite_f hf hc
        refine lv_sipush (v := 240) hx hb dX10_least_42 (by decide) ?_
        exact B45 σ p1 p2 240 v1 _ _ _ hP hS (lv_sub hl [0, 1, 2] rfl) hf
      · have hf := ite_t hf hc
        refine lv_sipush (v := 224) hx hb dX10_least_36 (by decide) ?_
        refine lv_goto (tgt := 45) hx hb dX10_least_39 (by decide) ?_
        exact B45 σ p1 p2 224 v1 _ _ _ hP hS (lv_sub hl [0, 1, 2] rfl) hf
    · have hf := ite_t hf hc
      refine lv_sipush (v := 192) hx hb dX10_least_25 (by decide) ?_
      refine lv_goto (tgt := 45) hx hb dX10_least_28 (by decide) ?_
      exact B45 σ p1 p2 192 v1 _ _ _ hP hS (lv_sub hl [0, 1, 2] rfl) hf
  · have hf := ite_t hf hc
    refine lv_aload_n hx hb dX10_least_5 rfl (lv_at hl 0 rfl) ?_
    refine GX10_8 C hP gt4_11 dX10_least_6 ?_
    refine lv_iconst (v := 0) hx hb dX10_least_9 (by decide) ?_
    obtain ⟨hin, hf⟩ := ld_at hf
    refine aload C hP 2 rfl rfl hin dX10_least_10 (fun v7 ev7 => ?_)
    have hf := hf v7 ev7
    refine lv_goto (tgt := 46) hx hb dX10_least_11 (by decide) ?_
    exact B46 σ p1 p2 v7 _ _ _ hP hS (lv_sub hl [0, 1, 2] rfl) hf
def fX10_some (σ : St) (p1 p2 p3 : Int32) : Option (Int32 × St) := (if (σ 0 1) = 1 then (if p1 = 1 then (if p3 ≤ 0 then some (0, σ) else some (1, σ)) else (if p1 = 2 then (if p2 = 0 then some (1, σ) else (if p3 < 128 then some (0, σ) else some (1, σ))) else (if p1 = 3 then (if p3 < 2048 then some (0, σ) else some (1, σ)) else some (0, σ)))) else (if p1 = 3 then (if p3 < 2048 then some (0, σ) else (if p2 < 55296 then some (1, σ) else (if p3 ≤ 57343 then some (0, σ) else some (1, σ)))) else (if p1 = 1 then some (1, σ) else (if p1 = 2 then (if p3 < 128 then some (0, σ) else some (1, σ)) else (if p1 = 4 then (if p3 < 65536 then some (0, σ) else (if 1114111 < p2 then some (0, σ) else some (1, σ))) else some (0, σ))))))
set_option maxHeartbeats 4000000 in
set_option maxRecDepth 100000 in
theorem mX10_some {l : Launch} {D : va_G} {kS vS : Nat → Nat} {ad : Nat → Nat} {cI cF : ClassId} {σ σ0 : St} {p1 p2 p3 : Int32} {r : Int32} (hI : Inj ad 5) (hf : fX10_some σ p1 p2 p3 = some (r, σ0)) : MI l D (tyC cI cF) (inA ad 5) kS vS yX10_some cX10_some 4 .boolean 0 0 [.ref (ad 0), .int p1, .int p2, .int p3] (wM ad cI σ) (wM ad cI σ0) r := by
  refine MI.of (by decide) (Nat.le_of_ble_eq_true rfl) (fun p e s m args below meth c ls Q hQ C hr hlk hP hS hl => ?_)
  obtain ⟨hx, hb, hml, hown, hts, hK, hKS⟩ := id C
  have hl : lv_has ls 4 [(0, .ref (ad 0)), (1, .int p1), (2, .int p2), (3, .int p3)] := hl
  unfold fX10_some at hf
  refine lv_aload_n hx hb dX10_some_0 rfl (lv_at hl 0 rfl) ?_
  refine GX10_1 C hP gt4_4 dX10_some_1 ?_
  refine lv_iconst (v := 1) hx hb dX10_some_4 (by decide) ?_
  refine lv_icmp_ne (tgt := 67) hx hb dX10_some_5 (by decide) (fun hc => ?_) (fun hc => ?_)
  · have hf := ite_f hf hc
    refine lv_iload_n hx hb dX10_some_67 rfl (lv_at hl 1 rfl) ?_
    refine lv_iconst (v := 3) hx hb dX10_some_68 (by decide) ?_
    refine lv_icmp_ne (tgt := 97) hx hb dX10_some_69 (by decide) (fun hc => ?_) (fun hc => ?_)
    · have hf := ite_f hf hc
      refine lv_iload_n hx hb dX10_some_97 rfl (lv_at hl 1 rfl) ?_
      refine lv_iconst (v := 1) hx hb dX10_some_98 (by decide) ?_
      refine lv_icmp_eq (tgt := 134) hx hb dX10_some_99 (by decide) (fun hc => ?_) (fun hc => ?_)
      · have hf := ite_t hf hc
        refine lv_iconst (v := 1) hx hb dX10_some_134 (by decide) ?_
        refine lv_goto (tgt := 139) hx hb dX10_some_135 (by decide) ?_
        exact MI.ret (wf := wM ad cI) hQ C hr hlk rfl hf hP hS dX10_some_139
      · have hf := ite_f hf hc
        refine lv_iload_n hx hb dX10_some_102 rfl (lv_at hl 1 rfl) ?_
        refine lv_iconst (v := 2) hx hb dX10_some_103 (by decide) ?_
        refine lv_icmp_ne (tgt := 117) hx hb dX10_some_104 (by decide) (fun hc => ?_) (fun hc => ?_)
        · have hf := ite_f hf hc
          refine lv_iload_n hx hb dX10_some_117 rfl (lv_at hl 1 rfl) ?_
          refine lv_iconst (v := 4) hx hb dX10_some_118 (by decide) ?_
          refine lv_icmp_ne (tgt := 138) hx hb dX10_some_119 (by decide) (fun hc => ?_) (fun hc => ?_)
          · have hf := ite_f hf hc
            refine lv_iconst (v := 0) hx hb dX10_some_138 (by decide) ?_
            exact MI.ret (wf := wM ad cI) hQ C hr hlk rfl hf hP hS dX10_some_139
          · have hf := ite_t hf hc
            refine lv_iload_n hx hb dX10_some_122 rfl (lv_at hl 3 rfl) ?_
            refine lv_ldc hx hb (v := 65536) hown (hts _ gt4_191) dX10_some_123 ?_
            refine lv_icmp_lt (tgt := 138) hx hb dX10_some_125 (by decide) (fun hc => ?_) (fun hc => ?_)
            · have hf := ite_t hf hc
              refine lv_iconst (v := 0) hx hb dX10_some_138 (by decide) ?_
              exact MI.ret (wf := wM ad cI) hQ C hr hlk rfl hf hP hS dX10_some_139
            · have hf := ite_f hf hc
              refine lv_iload_n hx hb dX10_some_128 rfl (lv_at hl 2 rfl) ?_
              refine lv_ldc hx hb (v := 1114111) hown (hts _ gt4_223) dX10_some_129 ?_
              refine lv_icmp_gt (tgt := 138) hx hb dX10_some_131 (by decide) (fun hc => ?_) (fun hc => ?_)
              · have hf := ite_t hf hc
                refine lv_iconst (v := 0) hx hb dX10_some_138 (by decide) ?_
                exact MI.ret (wf := wM ad cI) hQ C hr hlk rfl hf hP hS dX10_some_139
              · have hf := ite_f hf hc
                refine lv_iconst (v := 1) hx hb dX10_some_134 (by decide) ?_
                refine lv_goto (tgt := 139) hx hb dX10_some_135 (by decide) ?_
                exact MI.ret (wf := wM ad cI) hQ C hr hlk rfl hf hP hS dX10_some_139
        · have hf := ite_t hf hc
          refine lv_iload_n hx hb dX10_some_107 rfl (lv_at hl 3 rfl) ?_
          refine lv_sipush (v := 128) hx hb dX10_some_108 (by decide) ?_
          refine lv_icmp_lt (tgt := 138) hx hb dX10_some_111 (by decide) (fun hc => ?_) (fun hc => ?_)
          · have hf := ite_t hf hc
            refine lv_iconst (v := 0) hx hb dX10_some_138 (by decide) ?_
            exact MI.ret (wf := wM ad cI) hQ C hr hlk rfl hf hP hS dX10_some_139
          · have hf := ite_f hf hc
            refine lv_goto (tgt := 134) hx hb dX10_some_114 (by decide) ?_
            refine lv_iconst (v := 1) hx hb dX10_some_134 (by decide) ?_
            refine lv_goto (tgt := 139) hx hb dX10_some_135 (by decide) ?_
            exact MI.ret (wf := wM ad cI) hQ C hr hlk rfl hf hP hS dX10_some_139
    · have hf := ite_t hf hc
      refine lv_iload_n hx hb dX10_some_72 rfl (lv_at hl 3 rfl) ?_
      refine lv_sipush (v := 2048) hx hb dX10_some_73 (by decide) ?_
      refine lv_icmp_lt (tgt := 95) hx hb dX10_some_76 (by decide) (fun hc => ?_) (fun hc => ?_)
      · have hf := ite_t hf hc
        refine lv_iconst (v := 0) hx hb dX10_some_95 (by decide) ?_
        exact MI.ret (wf := wM ad cI) hQ C hr hlk rfl hf hP hS dX10_some_96
      · have hf := ite_f hf hc
        refine lv_iload_n hx hb dX10_some_79 rfl (lv_at hl 2 rfl) ?_
        refine lv_ldc hx hb (v := 55296) hown (hts _ gt4_180) dX10_some_80 ?_
        refine lv_icmp_lt (tgt := 91) hx hb dX10_some_82 (by decide) (fun hc => ?_) (fun hc => ?_)
        · have hf := ite_t hf hc
          refine lv_iconst (v := 1) hx hb dX10_some_91 (by decide) ?_
          refine lv_goto (tgt := 96) hx hb dX10_some_92 (by decide) ?_
          exact MI.ret (wf := wM ad cI) hQ C hr hlk rfl hf hP hS dX10_some_96
        · have hf := ite_f hf hc
          refine lv_iload_n hx hb dX10_some_85 rfl (lv_at hl 3 rfl) ?_
          refine lv_ldc hx hb (v := 57343) hown (hts _ gt4_186) dX10_some_86 ?_
          refine lv_icmp_le (tgt := 95) hx hb dX10_some_88 (by decide) (fun hc => ?_) (fun hc => ?_)
          · have hf := ite_t hf hc
            refine lv_iconst (v := 0) hx hb dX10_some_95 (by decide) ?_
            exact MI.ret (wf := wM ad cI) hQ C hr hlk rfl hf hP hS dX10_some_96
          · have hf := ite_f hf hc
            refine lv_iconst (v := 1) hx hb dX10_some_91 (by decide) ?_
            refine lv_goto (tgt := 96) hx hb dX10_some_92 (by decide) ?_
            exact MI.ret (wf := wM ad cI) hQ C hr hlk rfl hf hP hS dX10_some_96
  · have hf := ite_t hf hc
    refine lv_iload_n hx hb dX10_some_8 rfl (lv_at hl 1 rfl) ?_
    refine lv_iconst (v := 1) hx hb dX10_some_9 (by decide) ?_
    refine lv_icmp_ne (tgt := 25) hx hb dX10_some_10 (by decide) (fun hc => ?_) (fun hc => ?_)
    · have hf := ite_f hf hc
      refine lv_iload_n hx hb dX10_some_25 rfl (lv_at hl 1 rfl) ?_
      refine lv_iconst (v := 2) hx hb dX10_some_26 (by decide) ?_
      refine lv_icmp_ne (tgt := 49) hx hb dX10_some_27 (by decide) (fun hc => ?_) (fun hc => ?_)
      · have hf := ite_f hf hc
        refine lv_iload_n hx hb dX10_some_49 rfl (lv_at hl 1 rfl) ?_
        refine lv_iconst (v := 3) hx hb dX10_some_50 (by decide) ?_
        refine lv_icmp_ne (tgt := 65) hx hb dX10_some_51 (by decide) (fun hc => ?_) (fun hc => ?_)
        · have hf := ite_f hf hc
          refine lv_iconst (v := 0) hx hb dX10_some_65 (by decide) ?_
          exact MI.ret (wf := wM ad cI) hQ C hr hlk rfl hf hP hS dX10_some_66
        · have hf := ite_t hf hc
          refine lv_iload_n hx hb dX10_some_54 rfl (lv_at hl 3 rfl) ?_
          refine lv_sipush (v := 2048) hx hb dX10_some_55 (by decide) ?_
          refine lv_icmp_lt (tgt := 65) hx hb dX10_some_58 (by decide) (fun hc => ?_) (fun hc => ?_)
          · have hf := ite_t hf hc
            refine lv_iconst (v := 0) hx hb dX10_some_65 (by decide) ?_
            exact MI.ret (wf := wM ad cI) hQ C hr hlk rfl hf hP hS dX10_some_66
          · have hf := ite_f hf hc
            refine lv_iconst (v := 1) hx hb dX10_some_61 (by decide) ?_
            refine lv_goto (tgt := 66) hx hb dX10_some_62 (by decide) ?_
            exact MI.ret (wf := wM ad cI) hQ C hr hlk rfl hf hP hS dX10_some_66
      · have hf := ite_t hf hc
        refine lv_iload_n hx hb dX10_some_30 rfl (lv_at hl 2 rfl) ?_
        refine lv_if_eq (tgt := 41) hx hb dX10_some_31 (by decide) (fun hc => ?_) (fun hc => ?_)
        · have hf := ite_t hf hc
          refine lv_iconst (v := 1) hx hb dX10_some_41 (by decide) ?_
          refine lv_goto (tgt := 66) hx hb dX10_some_42 (by decide) ?_
          exact MI.ret (wf := wM ad cI) hQ C hr hlk rfl hf hP hS dX10_some_66
        · have hf := ite_f hf hc
          refine lv_iload_n hx hb dX10_some_34 rfl (lv_at hl 3 rfl) ?_
          refine lv_sipush (v := 128) hx hb dX10_some_35 (by decide) ?_
          refine lv_icmp_lt (tgt := 45) hx hb dX10_some_38 (by decide) (fun hc => ?_) (fun hc => ?_)
          · have hf := ite_t hf hc
            refine lv_iconst (v := 0) hx hb dX10_some_45 (by decide) ?_
            refine lv_goto (tgt := 66) hx hb dX10_some_46 (by decide) ?_
            exact MI.ret (wf := wM ad cI) hQ C hr hlk rfl hf hP hS dX10_some_66
          · have hf := ite_f hf hc
            refine lv_iconst (v := 1) hx hb dX10_some_41 (by decide) ?_
            refine lv_goto (tgt := 66) hx hb dX10_some_42 (by decide) ?_
            exact MI.ret (wf := wM ad cI) hQ C hr hlk rfl hf hP hS dX10_some_66
    · have hf := ite_t hf hc
      refine lv_iload_n hx hb dX10_some_13 rfl (lv_at hl 3 rfl) ?_
      refine lv_if_le (tgt := 21) hx hb dX10_some_14 (by decide) (fun hc => ?_) (fun hc => ?_)
      · have hf := ite_t hf hc
        refine lv_iconst (v := 0) hx hb dX10_some_21 (by decide) ?_
        refine lv_goto (tgt := 66) hx hb dX10_some_22 (by decide) ?_
        exact MI.ret (wf := wM ad cI) hQ C hr hlk rfl hf hP hS dX10_some_66
      · have hf := ite_f hf hc
        refine lv_iconst (v := 1) hx hb dX10_some_17 (by decide) ?_
        refine lv_goto (tgt := 66) hx hb dX10_some_18 (by decide) ?_
        exact MI.ret (wf := wM ad cI) hQ C hr hlk rfl hf hP hS dX10_some_66
def fX10_begins_b19 : Nat → St → Int32 → Int32 → Int32 → Option (Int32 × St)
  | 0, _, _, _, _ => none
  | n + 1, σ, x1, x2, x3 => (if x1 ≤ x3 then bd (fX10_least σ x2 x1) (fun v4 σ5 => bd (fX10_some σ5 x2 v4 ((v4 + (1 <<< ((6 * (x2 - x1)) &&& 31))) - 1)) (fun v6 σ7 => zk v6 (some (v6, σ7)))) else ld (σ 2) 24 x3 (fun v8 => (if v8 < 128 then some (0, σ) else ld (σ 2) 24 x3 (fun v9 => (if v9 ≤ 191 then nm (x3 + 1) (fun v10 => fX10_begins_b19 n σ x1 x2 v10) else some (0, σ))))))
def fX10_begins (σ : St) (p1 : Int32) : Option (Int32 × St) := ld (σ 2) 24 0 (fun v1 => bd (fX10_lengthOf σ v1) (fun v2 σ3 => (if p1 ≤ v2 then fX10_begins_b19 200 σ3 p1 v2 1 else some (0, σ3))))
set_option maxHeartbeats 4000000 in
set_option maxRecDepth 100000 in
theorem mX10_begins {l : Launch} {D : va_G} {kS vS : Nat → Nat} {ad : Nat → Nat} {cI cF : ClassId} {σ σ0 : St} {p1 : Int32} {r : Int32} (hI : Inj ad 5) (hf : fX10_begins σ p1 = some (r, σ0)) : MI l D (tyC cI cF) (inA ad 5) kS vS yX10_begins cX10_begins 4 .boolean 1 24 [.ref (ad 0), .int p1] (wM ad cI σ) (wM ad cI σ0) r := by
  refine MI.of (by decide) (Nat.le_of_ble_eq_true rfl) (fun p e s m args below meth c ls Q hQ C hr hlk hP hS hl => ?_)
  obtain ⟨hx, hb, hml, hown, hts, hK, hKS⟩ := id C
  have hl : lv_has ls 4 [(0, .ref (ad 0)), (1, .int p1)] := hl
  have B19 : ∀ n : Nat, ∀ (σ : St) (x1 x2 x3 : Int32) (H : Heap) (locs : List Loc) (ls : Array Slot), va_P D vwCl (wM ad cI σ) H → va_S (inA ad 5) s.heap H locs → lv_has ls 4 [(0, .ref (ad 0)), (1, .int x1), (2, .int x2), (3, .int x3)] → fX10_begins_b19 n σ x1 x2 x3 = some (r, σ0) → W p l e (rmN 1 24) s m args below meth c H locs 0 0 Q (F0 m 19 ls []) := by
    intro n
    induction n with
    | zero =>
      intro σ x1 x2 x3 H locs ls hP hS hl hf
      exact nomatch (show (none : Option (Int32 × St)) = some (r, σ0) from hf)
    | succ n ih =>
      intro σ x1 x2 x3 H locs ls hP hS hl hf
      rw [fX10_begins_b19] at hf
      refine lv_iload_n hx hb dX10_begins_19 rfl (lv_at hl 3 rfl) ?_
      refine lv_iload_n hx hb dX10_begins_20 rfl (lv_at hl 1 rfl) ?_
      refine lv_icmp_ge (tgt := 56) hx hb dX10_begins_21 (by decide) (fun hc => ?_) (fun hc => ?_)
      · have hf := ite_t hf hc
        refine lv_aload_n hx hb dX10_begins_56 rfl (lv_at hl 0 rfl) ?_
        refine lv_iload_n hx hb dX10_begins_57 rfl (lv_at hl 2 rfl) ?_
        refine lv_iload_n hx hb dX10_begins_58 rfl (lv_at hl 1 rfl) ?_
        obtain ⟨v4, σ5, hc, hf⟩ := bd_at hf
        refine callVI (As := [.int x2, .int x1]) (rest := []) C (mX10_least hI hc) ⟨gt4_215, gt4_217, gtp37, gt1_11, gt4_218⟩ okX10_least ⟨Nat.le_of_ble_eq_true rfl, Nat.le_of_ble_eq_true rfl⟩ (rcvOf C hP (show (wM ad cI _)[0]? = some (ad 0, _) from rfl) rfl) rfl hl.1 rfl (Nat.le_of_ble_eq_true rfl) hP hS dX10_begins_59 (fun H locs hP hS => ?_)
        refine lv_istore_n (lv' := [(3, .int v4), (0, .ref (ad 0)), (1, .int x1), (2, .int x2)]) hx hb dX10_begins_62 rfl hl (by decide) rfl (fun ls hl => ?_)
        refine lv_aload_n hx hb dX10_begins_63 rfl (lv_at hl 1 rfl) ?_
        refine lv_iload_n hx hb dX10_begins_64 rfl (lv_at hl 3 rfl) ?_
        refine lv_iload_n hx hb dX10_begins_65 rfl (lv_at hl 0 rfl) ?_
        refine lv_iload_n hx hb dX10_begins_66 rfl (lv_at hl 0 rfl) ?_
        refine lv_iconst (v := 1) hx hb dX10_begins_67 (by decide) ?_
        refine lv_bipush (v := 6) hx hb dX10_begins_68 (by decide) ?_
        refine lv_iload_n hx hb dX10_begins_70 rfl (lv_at hl 3 rfl) ?_
        refine lv_iload_n hx hb dX10_begins_71 rfl (lv_at hl 2 rfl) ?_
        refine lv_isub hx hb dX10_begins_72 ?_
        refine lv_imul hx hb dX10_begins_73 ?_
        refine lv_ishl hx hb dX10_begins_74 ?_
        refine lv_iadd hx hb dX10_begins_75 ?_
        refine lv_iconst (v := 1) hx hb dX10_begins_76 (by decide) ?_
        refine lv_isub hx hb dX10_begins_77 ?_
        obtain ⟨v6, σ7, hc, hf⟩ := bd_at hf
        refine callVI (As := [.int x2, .int v4, .int ((v4 + (1 <<< ((6 * (x2 - x1)) &&& 31))) - 1)]) (rest := []) C (mX10_some hI hc) ⟨gt4_219, gt4_221, gtp38, gt1_11, gt4_222⟩ okX10_some ⟨Nat.le_of_ble_eq_true rfl, Nat.le_of_ble_eq_true rfl⟩ (rcvOf C hP (show (wM ad cI _)[0]? = some (ad 0, _) from rfl) rfl) rfl hl.1 rfl (Nat.le_of_ble_eq_true rfl) hP hS dX10_begins_78 (fun H locs hP hS => ?_)
        obtain ⟨hz, hf⟩ := zk_at hf
        exact MI.ret (wf := wM ad cI) hQ C hr hlk (zn hz) hf hP hS dX10_begins_81
      · have hf := ite_f hf hc
        refine lv_aload_n hx hb dX10_begins_24 rfl (lv_at hl 0 rfl) ?_
        refine GX10_8 C hP gt4_11 dX10_begins_25 ?_
        refine lv_iload_n hx hb dX10_begins_28 rfl (lv_at hl 3 rfl) ?_
        obtain ⟨hin, hf⟩ := ld_at hf
        refine aload C hP 2 rfl rfl hin dX10_begins_29 (fun v8 ev8 => ?_)
        have hf := hf v8 ev8
        refine lv_sipush (v := 128) hx hb dX10_begins_30 (by decide) ?_
        refine lv_icmp_lt (tgt := 48) hx hb dX10_begins_33 (by decide) (fun hc => ?_) (fun hc => ?_)
        · have hf := ite_t hf hc
          refine lv_iconst (v := 0) hx hb dX10_begins_48 (by decide) ?_
          exact MI.ret (wf := wM ad cI) hQ C hr hlk rfl hf hP hS dX10_begins_49
        · have hf := ite_f hf hc
          refine lv_aload_n hx hb dX10_begins_36 rfl (lv_at hl 0 rfl) ?_
          refine GX10_8 C hP gt4_11 dX10_begins_37 ?_
          refine lv_iload_n hx hb dX10_begins_40 rfl (lv_at hl 3 rfl) ?_
          obtain ⟨hin, hf⟩ := ld_at hf
          refine aload C hP 2 rfl rfl hin dX10_begins_41 (fun v9 ev9 => ?_)
          have hf := hf v9 ev9
          refine lv_sipush (v := 191) hx hb dX10_begins_42 (by decide) ?_
          refine lv_icmp_le (tgt := 50) hx hb dX10_begins_45 (by decide) (fun hc => ?_) (fun hc => ?_)
          · have hf := ite_t hf hc
            obtain ⟨v10, ev10⟩ : ∃ y : Int32, y = x3 + 1 := ⟨_, rfl⟩
            have hf := nm_at hf v10 ev10
            refine lv_iinc (v := v10) (lv' := [(3, .int v10), (0, .ref (ad 0)), (1, .int x1), (2, .int x2)]) hx hb dX10_begins_50 hl (k := 3) rfl (by rw [ev10]; rfl) (by decide) rfl (fun ls hl => ?_)
            refine lv_goto (tgt := 19) hx hb dX10_begins_53 (by decide) ?_
            exact ih σ x1 x2 v10 _ _ _ hP hS (lv_sub hl [1, 2, 3, 0] rfl) hf
          · have hf := ite_f hf hc
            refine lv_iconst (v := 0) hx hb dX10_begins_48 (by decide) ?_
            exact MI.ret (wf := wM ad cI) hQ C hr hlk rfl hf hP hS dX10_begins_49
  unfold fX10_begins at hf
  refine lv_aload_n hx hb dX10_begins_0 rfl (lv_at hl 0 rfl) ?_
  refine GX10_8 C hP gt4_11 dX10_begins_1 ?_
  refine lv_iconst (v := 0) hx hb dX10_begins_4 (by decide) ?_
  obtain ⟨hin, hf⟩ := ld_at hf
  refine aload C hP 2 rfl rfl hin dX10_begins_5 (fun v1 ev1 => ?_)
  have hf := hf v1 ev1
  obtain ⟨v2, σ3, hc, hf⟩ := bd_at hf
  refine callSI (As := [.int v1]) (rest := []) C (mX10_lengthOf hI hc) ⟨gt4_208, gt4_209, gt1_11, gt4_210⟩ okX10_lengthOf ⟨Nat.le_of_ble_eq_true rfl, Nat.le_of_ble_eq_true rfl⟩ rfl hl.1 rfl (Nat.le_of_ble_eq_true rfl) hP hS dX10_begins_6 (fun H locs hP hS => ?_)
  refine lv_istore_n (lv' := [(2, .int v2), (0, .ref (ad 0)), (1, .int p1)]) hx hb dX10_begins_9 rfl hl (by decide) rfl (fun ls hl => ?_)
  refine lv_iload_n hx hb dX10_begins_10 rfl (lv_at hl 2 rfl) ?_
  refine lv_iload_n hx hb dX10_begins_11 rfl (lv_at hl 0 rfl) ?_
  refine lv_icmp_le (tgt := 17) hx hb dX10_begins_12 (by decide) (fun hc => ?_) (fun hc => ?_)
  · have hf := ite_t hf hc
    refine lv_iconst (v := 1) hx hb dX10_begins_17 (by decide) ?_
    refine lv_istore_n (lv' := [(3, .int 1), (2, .int v2), (0, .ref (ad 0)), (1, .int p1)]) hx hb dX10_begins_18 rfl hl (by decide) rfl (fun ls hl => ?_)
    exact B19 200 σ3 p1 v2 1 _ _ _ hP hS (lv_sub hl [2, 3, 1, 0] rfl) hf
  · have hf := ite_f hf hc
    refine lv_iconst (v := 0) hx hb dX10_begins_15 (by decide) ?_
    exact MI.ret (wf := wM ad cI) hQ C hr hlk rfl hf hP hS dX10_begins_16
def fX10_decodeEight_b102 : Nat → St → Int32 → Option (Int32 × St)
  | 0, _, _ => none
  | n + 1, σ, x2 => (if (σ 0 9) ≤ x2 then bd (fX10_fault σ 2 x2) (fun v6 σ7 => some (v6, σ7)) else bd (fX10_begins σ (x2 + 1)) (fun v8 σ9 => (if v8 = 0 then bd (fX10_fault σ9 2 x2) (fun v10 σ11 => some (v10, σ11)) else nm (x2 + 1) (fun v12 => fX10_decodeEight_b102 n σ9 v12))))
def fX10_decodeEight_b87 (σ : St) : Option (Int32 × St) := bd (fX10_begins σ (σ 0 9)) (fun v4 σ5 => (if v4 = 0 then fX10_decodeEight_b102 200 σ5 1 else some (1, σ5)))
def fX10_decodeEight (σ : St) : Option (Int32 × St) := ld (σ 2) 24 0 (fun v1 => bd (fX10_lengthOf σ v1) (fun v2 σ3 => (if v2 ≤ 0 then fX10_decodeEight_b87 σ3 else (if (σ3 0 9) < v2 then fX10_decodeEight_b87 σ3 else bd (fX10_begins σ3 v2) (fun v13 σ14 => (if v13 = 0 then fX10_decodeEight_b87 σ14 else bd (fX10_least σ14 v2 v2) (fun v15 σ16 => (if 65536 ≤ v15 then bd (fX10_result σ16 (55296 + ((v15 - 65536) / 1024))) (fun _ σ18 => bd (fX10_result σ18 (56320 + ((v15 - 65536) - (v15 - 65536) / 1024 * 1024))) (fun _ σ20 => bd (fX10_step σ20 v2) (fun v21 σ22 => some (v21, σ22)))) else bd (fX10_result σ16 v15) (fun _ σ24 => bd (fX10_step σ24 v2) (fun v25 σ26 => some (v25, σ26)))))))))))
set_option maxHeartbeats 4000000 in
set_option maxRecDepth 100000 in
theorem mX10_decodeEight {l : Launch} {D : va_G} {kS vS : Nat → Nat} {ad : Nat → Nat} {cI cF : ClassId} {σ σ0 : St} {r : Int32} (hI : Inj ad 5) (hf : fX10_decodeEight σ  = some (r, σ0)) : MI l D (tyC cI cF) (inA ad 5) kS vS yX10_decodeEight cX10_decodeEight 3 .int 2 47 [.ref (ad 0)] (wM ad cI σ) (wM ad cI σ0) r := by
  refine MI.of (by decide) (Nat.le_of_ble_eq_true rfl) (fun p e s m args below meth c ls Q hQ C hr hlk hP hS hl => ?_)
  obtain ⟨hx, hb, hml, hown, hts, hK, hKS⟩ := id C
  have hl : lv_has ls 3 [(0, .ref (ad 0))] := hl
  have B102 : ∀ n : Nat, ∀ (σ : St) (x2 : Int32) (H : Heap) (locs : List Loc) (ls : Array Slot), va_P D vwCl (wM ad cI σ) H → va_S (inA ad 5) s.heap H locs → lv_has ls 3 [(0, .ref (ad 0)), (2, .int x2)] → fX10_decodeEight_b102 n σ x2 = some (r, σ0) → W p l e (rmN 2 47) s m args below meth c H locs 0 0 Q (F0 m 102 ls []) := by
    intro n
    induction n with
    | zero =>
      intro σ x2 H locs ls hP hS hl hf
      exact nomatch (show (none : Option (Int32 × St)) = some (r, σ0) from hf)
    | succ n ih =>
      intro σ x2 H locs ls hP hS hl hf
      rw [fX10_decodeEight_b102] at hf
      refine lv_iload_n hx hb dX10_decodeEight_102 rfl (lv_at hl 1 rfl) ?_
      refine lv_aload_n hx hb dX10_decodeEight_103 rfl (lv_at hl 0 rfl) ?_
      refine GX10_9 C hP gt4_12 dX10_decodeEight_104 ?_
      refine lv_icmp_ge (tgt := 126) hx hb dX10_decodeEight_107 (by decide) (fun hc => ?_) (fun hc => ?_)
      · have hf := ite_t hf hc
        refine lv_aload_n hx hb dX10_decodeEight_126 rfl (lv_at hl 0 rfl) ?_
        refine lv_iconst (v := 2) hx hb dX10_decodeEight_127 (by decide) ?_
        refine lv_iload_n hx hb dX10_decodeEight_128 rfl (lv_at hl 1 rfl) ?_
        obtain ⟨v6, σ7, hc, hf⟩ := bd_at hf
        refine callVI (As := [.int 2, .int x2]) (rest := []) C (mX10_fault hI hc) ⟨gt4_200, gt4_202, gtp34, gt1_11, gt4_203⟩ okX10_fault ⟨Nat.le_of_ble_eq_true rfl, Nat.le_of_ble_eq_true rfl⟩ (rcvOf C hP (show (wM ad cI _)[0]? = some (ad 0, _) from rfl) rfl) rfl hl.1 rfl (Nat.le_of_ble_eq_true rfl) hP hS dX10_decodeEight_129 (fun H locs hP hS => ?_)
        exact MI.ret (wf := wM ad cI) hQ C hr hlk rfl hf hP hS dX10_decodeEight_132
      · have hf := ite_f hf hc
        refine lv_aload_n hx hb dX10_decodeEight_110 rfl (lv_at hl 0 rfl) ?_
        refine lv_iload_n hx hb dX10_decodeEight_111 rfl (lv_at hl 1 rfl) ?_
        refine lv_iconst (v := 1) hx hb dX10_decodeEight_112 (by decide) ?_
        refine lv_iadd hx hb dX10_decodeEight_113 ?_
        obtain ⟨v8, σ9, hc, hf⟩ := bd_at hf
        refine callVI (As := [.int (x2 + 1)]) (rest := []) C (mX10_begins hI hc) ⟨gt4_211, gt4_213, gtp36, gt1_11, gt4_214⟩ okX10_begins ⟨Nat.le_of_ble_eq_true rfl, Nat.le_of_ble_eq_true rfl⟩ (rcvOf C hP (show (wM ad cI _)[0]? = some (ad 0, _) from rfl) rfl) rfl hl.1 rfl (Nat.le_of_ble_eq_true rfl) hP hS dX10_decodeEight_114 (fun H locs hP hS => ?_)
        refine lv_if_eq (tgt := 126) hx hb dX10_decodeEight_117 (by decide) (fun hc => ?_) (fun hc => ?_)
        · have hf := ite_t hf hc
          refine lv_aload_n hx hb dX10_decodeEight_126 rfl (lv_at hl 0 rfl) ?_
          refine lv_iconst (v := 2) hx hb dX10_decodeEight_127 (by decide) ?_
          refine lv_iload_n hx hb dX10_decodeEight_128 rfl (lv_at hl 1 rfl) ?_
          obtain ⟨v10, σ11, hc, hf⟩ := bd_at hf
          refine callVI (As := [.int 2, .int x2]) (rest := []) C (mX10_fault hI hc) ⟨gt4_200, gt4_202, gtp34, gt1_11, gt4_203⟩ okX10_fault ⟨Nat.le_of_ble_eq_true rfl, Nat.le_of_ble_eq_true rfl⟩ (rcvOf C hP (show (wM ad cI _)[0]? = some (ad 0, _) from rfl) rfl) rfl hl.1 rfl (Nat.le_of_ble_eq_true rfl) hP hS dX10_decodeEight_129 (fun H locs hP hS => ?_)
          exact MI.ret (wf := wM ad cI) hQ C hr hlk rfl hf hP hS dX10_decodeEight_132
        · have hf := ite_f hf hc
          obtain ⟨v12, ev12⟩ : ∃ y : Int32, y = x2 + 1 := ⟨_, rfl⟩
          have hf := nm_at hf v12 ev12
          refine lv_iinc (v := v12) (lv' := [(2, .int v12), (0, .ref (ad 0))]) hx hb dX10_decodeEight_120 hl (k := 1) rfl (by rw [ev12]; rfl) (by decide) rfl (fun ls hl => ?_)
          refine lv_goto (tgt := 102) hx hb dX10_decodeEight_123 (by decide) ?_
          exact ih σ9 v12 _ _ _ hP hS (lv_sub hl [1, 0] rfl) hf
  have B87 : ∀ (σ : St) (H : Heap) (locs : List Loc) (ls : Array Slot), va_P D vwCl (wM ad cI σ) H → va_S (inA ad 5) s.heap H locs → lv_has ls 3 [(0, .ref (ad 0))] → fX10_decodeEight_b87 σ = some (r, σ0) → W p l e (rmN 2 47) s m args below meth c H locs 0 0 Q (F0 m 87 ls []) := by
    intro σ H locs ls hP hS hl hf
    unfold fX10_decodeEight_b87 at hf
    refine lv_aload_n hx hb dX10_decodeEight_87 rfl (lv_at hl 0 rfl) ?_
    refine lv_aload_n hx hb dX10_decodeEight_88 rfl (lv_at hl 0 rfl) ?_
    refine GX10_9 C hP gt4_12 dX10_decodeEight_89 ?_
    obtain ⟨v4, σ5, hc, hf⟩ := bd_at hf
    refine callVI (As := [.int (σ 0 9)]) (rest := []) C (mX10_begins hI hc) ⟨gt4_211, gt4_213, gtp36, gt1_11, gt4_214⟩ okX10_begins ⟨Nat.le_of_ble_eq_true rfl, Nat.le_of_ble_eq_true rfl⟩ (rcvOf C hP (show (wM ad cI _)[0]? = some (ad 0, _) from rfl) rfl) rfl hl.1 rfl (Nat.le_of_ble_eq_true rfl) hP hS dX10_decodeEight_92 (fun H locs hP hS => ?_)
    refine lv_if_eq (tgt := 100) hx hb dX10_decodeEight_95 (by decide) (fun hc => ?_) (fun hc => ?_)
    · have hf := ite_t hf hc
      refine lv_iconst (v := 1) hx hb dX10_decodeEight_100 (by decide) ?_
      refine lv_istore_n (lv' := [(2, .int 1), (0, .ref (ad 0))]) hx hb dX10_decodeEight_101 rfl hl (by decide) rfl (fun ls hl => ?_)
      exact B102 200 σ5 1 _ _ _ hP hS (lv_sub hl [1, 0] rfl) hf
    · have hf := ite_f hf hc
      refine lv_iconst (v := 1) hx hb dX10_decodeEight_98 (by decide) ?_
      exact MI.ret (wf := wM ad cI) hQ C hr hlk rfl hf hP hS dX10_decodeEight_99
  unfold fX10_decodeEight at hf
  refine lv_aload_n hx hb dX10_decodeEight_0 rfl (lv_at hl 0 rfl) ?_
  refine GX10_8 C hP gt4_11 dX10_decodeEight_1 ?_
  refine lv_iconst (v := 0) hx hb dX10_decodeEight_4 (by decide) ?_
  obtain ⟨hin, hf⟩ := ld_at hf
  refine aload C hP 2 rfl rfl hin dX10_decodeEight_5 (fun v1 ev1 => ?_)
  have hf := hf v1 ev1
  obtain ⟨v2, σ3, hc, hf⟩ := bd_at hf
  refine callSI (As := [.int v1]) (rest := []) C (mX10_lengthOf hI hc) ⟨gt4_208, gt4_209, gt1_11, gt4_210⟩ okX10_lengthOf ⟨Nat.le_of_ble_eq_true rfl, Nat.le_of_ble_eq_true rfl⟩ rfl hl.1 rfl (Nat.le_of_ble_eq_true rfl) hP hS dX10_decodeEight_6 (fun H locs hP hS => ?_)
  refine lv_istore_n (lv' := [(1, .int v2), (0, .ref (ad 0))]) hx hb dX10_decodeEight_9 rfl hl (by decide) rfl (fun ls hl => ?_)
  refine lv_iload_n hx hb dX10_decodeEight_10 rfl (lv_at hl 0 rfl) ?_
  refine lv_if_le (tgt := 87) hx hb dX10_decodeEight_11 (by decide) (fun hc => ?_) (fun hc => ?_)
  · have hf := ite_t hf hc
    exact B87 σ3 _ _ _ hP hS (lv_sub hl [1] rfl) hf
  · have hf := ite_f hf hc
    refine lv_iload_n hx hb dX10_decodeEight_14 rfl (lv_at hl 0 rfl) ?_
    refine lv_aload_n hx hb dX10_decodeEight_15 rfl (lv_at hl 1 rfl) ?_
    refine GX10_9 C hP gt4_12 dX10_decodeEight_16 ?_
    refine lv_icmp_gt (tgt := 87) hx hb dX10_decodeEight_19 (by decide) (fun hc => ?_) (fun hc => ?_)
    · have hf := ite_t hf hc
      exact B87 σ3 _ _ _ hP hS (lv_sub hl [1] rfl) hf
    · have hf := ite_f hf hc
      refine lv_aload_n hx hb dX10_decodeEight_22 rfl (lv_at hl 1 rfl) ?_
      refine lv_iload_n hx hb dX10_decodeEight_23 rfl (lv_at hl 0 rfl) ?_
      obtain ⟨v13, σ14, hc, hf⟩ := bd_at hf
      refine callVI (As := [.int v2]) (rest := []) C (mX10_begins hI hc) ⟨gt4_211, gt4_213, gtp36, gt1_11, gt4_214⟩ okX10_begins ⟨Nat.le_of_ble_eq_true rfl, Nat.le_of_ble_eq_true rfl⟩ (rcvOf C hP (show (wM ad cI _)[0]? = some (ad 0, _) from rfl) rfl) rfl hl.1 rfl (Nat.le_of_ble_eq_true rfl) hP hS dX10_decodeEight_24 (fun H locs hP hS => ?_)
      refine lv_if_eq (tgt := 87) hx hb dX10_decodeEight_27 (by decide) (fun hc => ?_) (fun hc => ?_)
      · have hf := ite_t hf hc
        exact B87 σ14 _ _ _ hP hS (lv_sub hl [1] rfl) hf
      · have hf := ite_f hf hc
        refine lv_aload_n hx hb dX10_decodeEight_30 rfl (lv_at hl 1 rfl) ?_
        refine lv_iload_n hx hb dX10_decodeEight_31 rfl (lv_at hl 0 rfl) ?_
        refine lv_iload_n hx hb dX10_decodeEight_32 rfl (lv_at hl 0 rfl) ?_
        obtain ⟨v15, σ16, hc, hf⟩ := bd_at hf
        refine callVI (As := [.int v2, .int v2]) (rest := []) C (mX10_least hI hc) ⟨gt4_215, gt4_217, gtp37, gt1_11, gt4_218⟩ okX10_least ⟨Nat.le_of_ble_eq_true rfl, Nat.le_of_ble_eq_true rfl⟩ (rcvOf C hP (show (wM ad cI _)[0]? = some (ad 0, _) from rfl) rfl) rfl hl.1 rfl (Nat.le_of_ble_eq_true rfl) hP hS dX10_decodeEight_33 (fun H locs hP hS => ?_)
        refine lv_istore_n (lv' := [(2, .int v15), (1, .int v2), (0, .ref (ad 0))]) hx hb dX10_decodeEight_36 rfl hl (by decide) rfl (fun ls hl => ?_)
        refine lv_iload_n hx hb dX10_decodeEight_37 rfl (lv_at hl 0 rfl) ?_
        refine lv_ldc hx hb (v := 65536) hown (hts _ gt4_191) dX10_decodeEight_38 ?_
        refine lv_icmp_ge (tgt := 51) hx hb dX10_decodeEight_40 (by decide) (fun hc => ?_) (fun hc => ?_)
        · have hf := ite_t hf hc
          refine lv_aload_n hx hb dX10_decodeEight_51 rfl (lv_at hl 2 rfl) ?_
          refine lv_ldc hx hb (v := 55296) hown (hts _ gt4_180) dX10_decodeEight_52 ?_
          refine lv_iload_n hx hb dX10_decodeEight_54 rfl (lv_at hl 0 rfl) ?_
          refine lv_ldc hx hb (v := 65536) hown (hts _ gt4_191) dX10_decodeEight_55 ?_
          refine lv_isub hx hb dX10_decodeEight_57 ?_
          refine lv_sipush (v := 1024) hx hb dX10_decodeEight_58 (by decide) ?_
          refine lv_idiv hx hb dX10_decodeEight_61 (by decide) ?_
          refine lv_iadd hx hb dX10_decodeEight_62 ?_
          obtain ⟨v17, σ18, hc, hf⟩ := bd_at hf
          refine callVV (As := [.int (55296 + ((v15 - 65536) / 1024))]) (rest := []) C (mX10_result hI hc) ⟨gt4_192, gt4_194, gtp32, gt1_11, gt4_195⟩ okX10_result ⟨Nat.le_of_ble_eq_true rfl, Nat.le_of_ble_eq_true rfl⟩ (rcvOf C hP (show (wM ad cI _)[0]? = some (ad 0, _) from rfl) rfl) rfl hl.1 rfl (Nat.le_of_ble_eq_true rfl) hP hS dX10_decodeEight_63 (fun H locs hP hS => ?_)
          refine lv_aload_n hx hb dX10_decodeEight_66 rfl (lv_at hl 2 rfl) ?_
          refine lv_ldc hx hb (v := 56320) hown (hts _ gt4_185) dX10_decodeEight_67 ?_
          refine lv_iload_n hx hb dX10_decodeEight_69 rfl (lv_at hl 0 rfl) ?_
          refine lv_ldc hx hb (v := 65536) hown (hts _ gt4_191) dX10_decodeEight_70 ?_
          refine lv_isub hx hb dX10_decodeEight_72 ?_
          refine lv_sipush (v := 1024) hx hb dX10_decodeEight_73 (by decide) ?_
          refine lv_irem hx hb dX10_decodeEight_76 (by decide) ?_
          refine lv_iadd hx hb dX10_decodeEight_77 ?_
          obtain ⟨v19, σ20, hc, hf⟩ := bd_at hf
          refine callVV (As := [.int (56320 + ((v15 - 65536) - (v15 - 65536) / 1024 * 1024))]) (rest := []) C (mX10_result hI hc) ⟨gt4_192, gt4_194, gtp32, gt1_11, gt4_195⟩ okX10_result ⟨Nat.le_of_ble_eq_true rfl, Nat.le_of_ble_eq_true rfl⟩ (rcvOf C hP (show (wM ad cI _)[0]? = some (ad 0, _) from rfl) rfl) rfl hl.1 rfl (Nat.le_of_ble_eq_true rfl) hP hS dX10_decodeEight_78 (fun H locs hP hS => ?_)
          refine lv_aload_n hx hb dX10_decodeEight_81 rfl (lv_at hl 2 rfl) ?_
          refine lv_iload_n hx hb dX10_decodeEight_82 rfl (lv_at hl 1 rfl) ?_
          obtain ⟨v21, σ22, hc, hf⟩ := bd_at hf
          refine callVI (As := [.int v2]) (rest := []) C (mX10_step hI hc) ⟨gt4_196, gt4_198, gtp33, gt1_11, gt4_199⟩ okX10_step ⟨Nat.le_of_ble_eq_true rfl, Nat.le_of_ble_eq_true rfl⟩ (rcvOf C hP (show (wM ad cI _)[0]? = some (ad 0, _) from rfl) rfl) rfl hl.1 rfl (Nat.le_of_ble_eq_true rfl) hP hS dX10_decodeEight_83 (fun H locs hP hS => ?_)
          exact MI.ret (wf := wM ad cI) hQ C hr hlk rfl hf hP hS dX10_decodeEight_86
        · have hf := ite_f hf hc
          refine lv_aload_n hx hb dX10_decodeEight_43 rfl (lv_at hl 2 rfl) ?_
          refine lv_iload_n hx hb dX10_decodeEight_44 rfl (lv_at hl 0 rfl) ?_
          obtain ⟨v23, σ24, hc, hf⟩ := bd_at hf
          refine callVV (As := [.int v15]) (rest := []) C (mX10_result hI hc) ⟨gt4_192, gt4_194, gtp32, gt1_11, gt4_195⟩ okX10_result ⟨Nat.le_of_ble_eq_true rfl, Nat.le_of_ble_eq_true rfl⟩ (rcvOf C hP (show (wM ad cI _)[0]? = some (ad 0, _) from rfl) rfl) rfl hl.1 rfl (Nat.le_of_ble_eq_true rfl) hP hS dX10_decodeEight_45 (fun H locs hP hS => ?_)
          refine lv_goto (tgt := 81) hx hb dX10_decodeEight_48 (by decide) ?_
          refine lv_aload_n hx hb dX10_decodeEight_81 rfl (lv_at hl 2 rfl) ?_
          refine lv_iload_n hx hb dX10_decodeEight_82 rfl (lv_at hl 1 rfl) ?_
          obtain ⟨v25, σ26, hc, hf⟩ := bd_at hf
          refine callVI (As := [.int v2]) (rest := []) C (mX10_step hI hc) ⟨gt4_196, gt4_198, gtp33, gt1_11, gt4_199⟩ okX10_step ⟨Nat.le_of_ble_eq_true rfl, Nat.le_of_ble_eq_true rfl⟩ (rcvOf C hP (show (wM ad cI _)[0]? = some (ad 0, _) from rfl) rfl) rfl hl.1 rfl (Nat.le_of_ble_eq_true rfl) hP hS dX10_decodeEight_83 (fun H locs hP hS => ?_)
          exact MI.ret (wf := wM ad cI) hQ C hr hlk rfl hf hP hS dX10_decodeEight_86
