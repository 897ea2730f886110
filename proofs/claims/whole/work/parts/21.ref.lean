def fX10_decodeSeven_b241 (σ : St) : Option (Int32 × St) := nm (up σ 0 27 0) (fun σ6 => nm (up σ6 0 28 0) (fun σ7 => nm (up σ7 0 29 0) (fun σ8 => nm (up σ8 0 30 0) (fun σ9 => bd (fX10_step σ9 1) (fun v10 σ11 => some (v10, σ11))))))
def fX10_decodeSeven_b238 (σ : St) (y0 : Int32) : Option (Int32 × St) := bd (fX10_result σ y0) (fun _ σ5 => fX10_decodeSeven_b241 σ5)
def fX10_decodeSeven_b224 (σ : St) (x1 : Int32) : Option (Int32 × St) := (if (σ 0 19) = 0 then fX10_decodeSeven_b238 σ x1 else fX10_decodeSeven_b238 σ 43)
def fX10_decodeSeven_b211 (σ : St) (x1 : Int32) : Option (Int32 × St) := (if x1 = 45 then (if (σ 0 19) = 0 then fX10_decodeSeven_b241 σ else fX10_decodeSeven_b224 σ x1) else fX10_decodeSeven_b224 σ x1)
def fX10_decodeSeven_b183 (σ : St) (x1 y0 : Int32) : Option (Int32 × St) := (if (σ 0 19) = 0 then (if y0 = 0 then fX10_decodeSeven_b211 σ x1 else bd (fX10_fault σ 2 1) (fun v12 σ13 => some (v12, σ13))) else (if x1 = 45 then fX10_decodeSeven_b211 σ x1 else bd (fX10_fault σ 2 1) (fun v14 σ15 => some (v14, σ15))))
def fX10_decodeSeven_b178 (σ : St) (x1 : Int32) : Option (Int32 × St) := fX10_decodeSeven_b183 σ x1 1
def fX10_decodeSeven (σ : St) : Option (Int32 × St) := ld (σ 2) 24 0 (fun v1 => (if v1 < 128 then (if (σ 0 18) = 0 then (if v1 = 43 then nm (up σ 0 27 1) (fun σ31 => nm (up σ31 0 28 1) (fun σ32 => nm (up σ32 0 29 0) (fun σ33 => nm (up σ33 0 30 0) (fun σ34 => bd (fX10_step σ34 1) (fun v35 σ36 => some (v35, σ36)))))) else bd (fX10_result σ v1) (fun _ σ28 => bd (fX10_step σ28 1) (fun v29 σ30 => some (v29, σ30)))) else bd (fX10_six σ v1) (fun v2 σ3 => (if v2 < 0 then (if 6 ≤ (σ3 0 20) then fX10_decodeSeven_b178 σ3 v1 else (if (σ3 0 21) = 0 then fX10_decodeSeven_b183 σ3 v1 0 else fX10_decodeSeven_b178 σ3 v1)) else nm (up σ3 0 28 0) (fun σ16 => nm (up σ16 0 29 ((σ16 0 20) + 6)) (fun σ17 => nm (up σ17 0 30 ((64 * (σ17 0 21)) + v2)) (fun σ18 => (if (σ18 0 29) < 16 then bd (fX10_step σ18 1) (fun v19 σ20 => some (v19, σ20)) else nm (up σ18 0 29 ((σ18 0 29) - 16)) (fun σ21 => bd (fX10_result σ21 ((σ21 0 30) >>> ((σ21 0 29) &&& 31))) (fun _ σ23 => nm (up σ23 0 30 ((σ23 0 30) &&& ((1 <<< ((σ23 0 29) &&& 31)) - 1))) (fun σ24 => bd (fX10_step σ24 1) (fun v25 σ26 => some (v25, σ26)))))))))))) else bd (fX10_fault σ 2 1) (fun v37 σ38 => some (v37, σ38))))
set_option maxHeartbeats 4000000 in
set_option maxRecDepth 100000 in
theorem mX10_decodeSeven {l : Launch} {D : va_G} {kS vS : Nat → Nat} {ad : Nat → Nat} {cI cF : ClassId} {σ σ0 : St} {r : Int32} (hI : Inj ad 5) (hf : fX10_decodeSeven σ  = some (r, σ0)) : MI l D (tyC cI cF) (inA ad 5) kS vS yX10_decodeSeven cX10_decodeSeven 4 .int 2 42 [.ref (ad 0)] (wM ad cI σ) (wM ad cI σ0) r := by
  refine MI.of (by decide) (Nat.le_of_ble_eq_true rfl) (fun p e s m args below meth c ls Q hQ C hr hlk hP hS hl => ?_)
  obtain ⟨hx, hb, hml, hown, hts, hK, hKS⟩ := id C
  have hl : lv_has ls 4 [(0, .ref (ad 0))] := hl
  have B241 : ∀ (σ : St) (H : Heap) (locs : List Loc) (ls : Array Slot), va_P D vwCl (wM ad cI σ) H → va_S (inA ad 5) s.heap H locs → lv_has ls 4 [(0, .ref (ad 0))] → fX10_decodeSeven_b241 σ = some (r, σ0) → W p l e (rmN 2 42) s m args below meth c H locs 0 0 Q (F0 m 241 ls []) := by
    intro σ H locs ls hP hS hl hf
    unfold fX10_decodeSeven_b241 at hf
    refine lv_aload_n hx hb dX10_decodeSeven_241 rfl (lv_at hl 0 rfl) ?_
    refine lv_iconst (v := 0) hx hb dX10_decodeSeven_242 (by decide) ?_
    refine PX10_27 hI C hP hS gt4_30 rfl rfl dX10_decodeSeven_243 (fun σ6 eσ6 H locs hP hS => ?_)
    have hf := nm_at hf σ6 eσ6
    refine lv_aload_n hx hb dX10_decodeSeven_246 rfl (lv_at hl 0 rfl) ?_
    refine lv_iconst (v := 0) hx hb dX10_decodeSeven_247 (by decide) ?_
    refine PX10_28 hI C hP hS gt4_31 rfl rfl dX10_decodeSeven_248 (fun σ7 eσ7 H locs hP hS => ?_)
    have hf := nm_at hf σ7 eσ7
    refine lv_aload_n hx hb dX10_decodeSeven_251 rfl (lv_at hl 0 rfl) ?_
    refine lv_iconst (v := 0) hx hb dX10_decodeSeven_252 (by decide) ?_
    refine PX10_29 hI C hP hS gt4_32 rfl rfl dX10_decodeSeven_253 (fun σ8 eσ8 H locs hP hS => ?_)
    have hf := nm_at hf σ8 eσ8
    refine lv_aload_n hx hb dX10_decodeSeven_256 rfl (lv_at hl 0 rfl) ?_
    refine lv_iconst (v := 0) hx hb dX10_decodeSeven_257 (by decide) ?_
    refine PX10_30 hI C hP hS gt4_33 rfl rfl dX10_decodeSeven_258 (fun σ9 eσ9 H locs hP hS => ?_)
    have hf := nm_at hf σ9 eσ9
    refine lv_aload_n hx hb dX10_decodeSeven_261 rfl (lv_at hl 0 rfl) ?_
    refine lv_iconst (v := 1) hx hb dX10_decodeSeven_262 (by decide) ?_
    obtain ⟨v10, σ11, hc, hf⟩ := bd_at hf
    refine callVI (As := [.int 1]) (rest := []) C (mX10_step hI hc) ⟨gt4_196, gt4_198, gtp33, gt1_11, gt4_199⟩ okX10_step ⟨Nat.le_of_ble_eq_true rfl, Nat.le_of_ble_eq_true rfl⟩ (rcvOf C hP (show (wM ad cI _)[0]? = some (ad 0, _) from rfl) rfl) rfl hl.1 rfl (Nat.le_of_ble_eq_true rfl) hP hS dX10_decodeSeven_263 (fun H locs hP hS => ?_)
    exact MI.ret (wf := wM ad cI) hQ C hr hlk rfl hf hP hS dX10_decodeSeven_266
  have B238 : ∀ (σ : St) (y0 : Int32) (H : Heap) (locs : List Loc) (ls : Array Slot), va_P D vwCl (wM ad cI σ) H → va_S (inA ad 5) s.heap H locs → lv_has ls 4 [(0, .ref (ad 0))] → fX10_decodeSeven_b238 σ y0 = some (r, σ0) → W p l e (rmN 2 42) s m args below meth c H locs 0 0 Q (F0 m 238 ls [.int y0, .ref (ad 0)]) := by
    intro σ y0 H locs ls hP hS hl hf
    unfold fX10_decodeSeven_b238 at hf
    obtain ⟨v4, σ5, hc, hf⟩ := bd_at hf
    refine callVV (As := [.int y0]) (rest := []) C (mX10_result hI hc) ⟨gt4_192, gt4_194, gtp32, gt1_11, gt4_195⟩ okX10_result ⟨Nat.le_of_ble_eq_true rfl, Nat.le_of_ble_eq_true rfl⟩ (rcvOf C hP (show (wM ad cI _)[0]? = some (ad 0, _) from rfl) rfl) rfl hl.1 rfl (Nat.le_of_ble_eq_true rfl) hP hS dX10_decodeSeven_238 (fun H locs hP hS => ?_)
    exact B241 σ5 _ _ _ hP hS (lv_sub hl [0] rfl) hf
  have B224 : ∀ (σ : St) (x1 : Int32) (H : Heap) (locs : List Loc) (ls : Array Slot), va_P D vwCl (wM ad cI σ) H → va_S (inA ad 5) s.heap H locs → lv_has ls 4 [(0, .ref (ad 0)), (1, .int x1)] → fX10_decodeSeven_b224 σ x1 = some (r, σ0) → W p l e (rmN 2 42) s m args below meth c H locs 0 0 Q (F0 m 224 ls []) := by
    intro σ x1 H locs ls hP hS hl hf
    unfold fX10_decodeSeven_b224 at hf
    refine lv_aload_n hx hb dX10_decodeSeven_224 rfl (lv_at hl 0 rfl) ?_
    refine lv_aload_n hx hb dX10_decodeSeven_225 rfl (lv_at hl 0 rfl) ?_
    refine GX10_19 C hP gt4_22 dX10_decodeSeven_226 ?_
    refine lv_if_eq (tgt := 237) hx hb dX10_decodeSeven_229 (by decide) (fun hc => ?_) (fun hc => ?_)
    · have hf := ite_t hf hc
      refine lv_iload_n hx hb dX10_decodeSeven_237 rfl (lv_at hl 1 rfl) ?_
      exact B238 σ x1 _ _ _ hP hS (lv_sub hl [0] rfl) hf
    · have hf := ite_f hf hc
      refine lv_bipush (v := 43) hx hb dX10_decodeSeven_232 (by decide) ?_
      refine lv_goto (tgt := 238) hx hb dX10_decodeSeven_234 (by decide) ?_
      exact B238 σ 43 _ _ _ hP hS (lv_sub hl [0] rfl) hf
  have B211 : ∀ (σ : St) (x1 : Int32) (H : Heap) (locs : List Loc) (ls : Array Slot), va_P D vwCl (wM ad cI σ) H → va_S (inA ad 5) s.heap H locs → lv_has ls 4 [(0, .ref (ad 0)), (1, .int x1)] → fX10_decodeSeven_b211 σ x1 = some (r, σ0) → W p l e (rmN 2 42) s m args below meth c H locs 0 0 Q (F0 m 211 ls []) := by
    intro σ x1 H locs ls hP hS hl hf
    unfold fX10_decodeSeven_b211 at hf
    refine lv_iload_n hx hb dX10_decodeSeven_211 rfl (lv_at hl 1 rfl) ?_
    refine lv_bipush (v := 45) hx hb dX10_decodeSeven_212 (by decide) ?_
    refine lv_icmp_ne (tgt := 224) hx hb dX10_decodeSeven_214 (by decide) (fun hc => ?_) (fun hc => ?_)
    · have hf := ite_f hf hc
      exact B224 σ x1 _ _ _ hP hS (lv_sub hl [0, 1] rfl) hf
    · have hf := ite_t hf hc
      refine lv_aload_n hx hb dX10_decodeSeven_217 rfl (lv_at hl 0 rfl) ?_
      refine GX10_19 C hP gt4_22 dX10_decodeSeven_218 ?_
      refine lv_if_eq (tgt := 241) hx hb dX10_decodeSeven_221 (by decide) (fun hc => ?_) (fun hc => ?_)
      · have hf := ite_t hf hc
        exact B241 σ _ _ _ hP hS (lv_sub hl [0] rfl) hf
      · have hf := ite_f hf hc
        exact B224 σ x1 _ _ _ hP hS (lv_sub hl [0, 1] rfl) hf
  have B183 : ∀ (σ : St) (x1 y0 : Int32) (H : Heap) (locs : List Loc) (ls : Array Slot), va_P D vwCl (wM ad cI σ) H → va_S (inA ad 5) s.heap H locs → lv_has ls 4 [(0, .ref (ad 0)), (1, .int x1)] → fX10_decodeSeven_b183 σ x1 y0 = some (r, σ0) → W p l e (rmN 2 42) s m args below meth c H locs 0 0 Q (F0 m 183 ls [.int y0]) := by
    intro σ x1 y0 H locs ls hP hS hl hf
    unfold fX10_decodeSeven_b183 at hf
    refine lv_istore_n (lv' := [(3, .int y0), (0, .ref (ad 0)), (1, .int x1)]) hx hb dX10_decodeSeven_183 rfl hl (by decide) rfl (fun ls hl => ?_)
    refine lv_aload_n hx hb dX10_decodeSeven_184 rfl (lv_at hl 1 rfl) ?_
    refine GX10_19 C hP gt4_22 dX10_decodeSeven_185 ?_
    refine lv_if_eq (tgt := 200) hx hb dX10_decodeSeven_188 (by decide) (fun hc => ?_) (fun hc => ?_)
    · have hf := ite_t hf hc
      refine lv_iload_n hx hb dX10_decodeSeven_200 rfl (lv_at hl 0 rfl) ?_
      refine lv_if_eq (tgt := 211) hx hb dX10_decodeSeven_201 (by decide) (fun hc => ?_) (fun hc => ?_)
      · have hf := ite_t hf hc
        exact B211 σ x1 _ _ _ hP hS (lv_sub hl [1, 2] rfl) hf
      · have hf := ite_f hf hc
        refine lv_aload_n hx hb dX10_decodeSeven_204 rfl (lv_at hl 1 rfl) ?_
        refine lv_iconst (v := 2) hx hb dX10_decodeSeven_205 (by decide) ?_
        refine lv_iconst (v := 1) hx hb dX10_decodeSeven_206 (by decide) ?_
        obtain ⟨v12, σ13, hc, hf⟩ := bd_at hf
        refine callVI (As := [.int 2, .int 1]) (rest := []) C (mX10_fault hI hc) ⟨gt4_200, gt4_202, gtp34, gt1_11, gt4_203⟩ okX10_fault ⟨Nat.le_of_ble_eq_true rfl, Nat.le_of_ble_eq_true rfl⟩ (rcvOf C hP (show (wM ad cI _)[0]? = some (ad 0, _) from rfl) rfl) rfl hl.1 rfl (Nat.le_of_ble_eq_true rfl) hP hS dX10_decodeSeven_207 (fun H locs hP hS => ?_)
        exact MI.ret (wf := wM ad cI) hQ C hr hlk rfl hf hP hS dX10_decodeSeven_210
    · have hf := ite_f hf hc
      refine lv_iload_n hx hb dX10_decodeSeven_191 rfl (lv_at hl 2 rfl) ?_
      refine lv_bipush (v := 45) hx hb dX10_decodeSeven_192 (by decide) ?_
      refine lv_icmp_eq (tgt := 211) hx hb dX10_decodeSeven_194 (by decide) (fun hc => ?_) (fun hc => ?_)
      · have hf := ite_t hf hc
        exact B211 σ x1 _ _ _ hP hS (lv_sub hl [1, 2] rfl) hf
      · have hf := ite_f hf hc
        refine lv_goto (tgt := 204) hx hb dX10_decodeSeven_197 (by decide) ?_
        refine lv_aload_n hx hb dX10_decodeSeven_204 rfl (lv_at hl 1 rfl) ?_
        refine lv_iconst (v := 2) hx hb dX10_decodeSeven_205 (by decide) ?_
        refine lv_iconst (v := 1) hx hb dX10_decodeSeven_206 (by decide) ?_
        obtain ⟨v14, σ15, hc, hf⟩ := bd_at hf
        refine callVI (As := [.int 2, .int 1]) (rest := []) C (mX10_fault hI hc) ⟨gt4_200, gt4_202, gtp34, gt1_11, gt4_203⟩ okX10_fault ⟨Nat.le_of_ble_eq_true rfl, Nat.le_of_ble_eq_true rfl⟩ (rcvOf C hP (show (wM ad cI _)[0]? = some (ad 0, _) from rfl) rfl) rfl hl.1 rfl (Nat.le_of_ble_eq_true rfl) hP hS dX10_decodeSeven_207 (fun H locs hP hS => ?_)
        exact MI.ret (wf := wM ad cI) hQ C hr hlk rfl hf hP hS dX10_decodeSeven_210
  have B178 : ∀ (σ : St) (x1 : Int32) (H : Heap) (locs : List Loc) (ls : Array Slot), va_P D vwCl (wM ad cI σ) H → va_S (inA ad 5) s.heap H locs → lv_has ls 4 [(0, .ref (ad 0)), (1, .int x1)] → fX10_decodeSeven_b178 σ x1 = some (r, σ0) → W p l e (rmN 2 42) s m args below meth c H locs 0 0 Q (F0 m 178 ls []) := by
    intro σ x1 H locs ls hP hS hl hf
    unfold fX10_decodeSeven_b178 at hf
    refine lv_iconst (v := 1) hx hb dX10_decodeSeven_178 (by decide) ?_
    refine lv_goto (tgt := 183) hx hb dX10_decodeSeven_179 (by decide) ?_
    exact B183 σ x1 1 _ _ _ hP hS (lv_sub hl [0, 1] rfl) hf
  unfold fX10_decodeSeven at hf
  refine lv_aload_n hx hb dX10_decodeSeven_0 rfl (lv_at hl 0 rfl) ?_
  refine GX10_8 C hP gt4_11 dX10_decodeSeven_1 ?_
  refine lv_iconst (v := 0) hx hb dX10_decodeSeven_4 (by decide) ?_
  obtain ⟨hin, hf⟩ := ld_at hf
  refine aload C hP 2 rfl rfl hin dX10_decodeSeven_5 (fun v1 ev1 => ?_)
  have hf := hf v1 ev1
  refine lv_istore_n (lv' := [(1, .int v1), (0, .ref (ad 0))]) hx hb dX10_decodeSeven_6 rfl hl (by decide) rfl (fun ls hl => ?_)
  refine lv_iload_n hx hb dX10_decodeSeven_7 rfl (lv_at hl 0 rfl) ?_
  refine lv_sipush (v := 128) hx hb dX10_decodeSeven_8 (by decide) ?_
  refine lv_icmp_lt (tgt := 21) hx hb dX10_decodeSeven_11 (by decide) (fun hc => ?_) (fun hc => ?_)
  · have hf := ite_t hf hc
    refine lv_aload_n hx hb dX10_decodeSeven_21 rfl (lv_at hl 1 rfl) ?_
    refine GX10_18 C hP gt4_21 dX10_decodeSeven_22 ?_
    refine lv_if_ne (tgt := 68) hx hb dX10_decodeSeven_25 (by decide) (fun hc => ?_) (fun hc => ?_)
    · have hf := ite_f hf hc
      refine lv_iload_n hx hb dX10_decodeSeven_68 rfl (lv_at hl 0 rfl) ?_
      obtain ⟨v2, σ3, hc, hf⟩ := bd_at hf
      refine callSI (As := [.int v1]) (rest := []) C (mX10_six hI hc) ⟨gt5_18, gt5_19, gt1_11, gt5_20⟩ okX10_six ⟨Nat.le_of_ble_eq_true rfl, Nat.le_of_ble_eq_true rfl⟩ rfl hl.1 rfl (Nat.le_of_ble_eq_true rfl) hP hS dX10_decodeSeven_69 (fun H locs hP hS => ?_)
      refine lv_istore_n (lv' := [(2, .int v2), (1, .int v1), (0, .ref (ad 0))]) hx hb dX10_decodeSeven_72 rfl hl (by decide) rfl (fun ls hl => ?_)
      refine lv_iload_n hx hb dX10_decodeSeven_73 rfl (lv_at hl 0 rfl) ?_
      refine lv_if_lt (tgt := 162) hx hb dX10_decodeSeven_74 (by decide) (fun hc => ?_) (fun hc => ?_)
      · have hf := ite_t hf hc
        refine lv_aload_n hx hb dX10_decodeSeven_162 rfl (lv_at hl 2 rfl) ?_
        refine GX10_20 C hP gt4_23 dX10_decodeSeven_163 ?_
        refine lv_bipush (v := 6) hx hb dX10_decodeSeven_166 (by decide) ?_
        refine lv_icmp_ge (tgt := 178) hx hb dX10_decodeSeven_168 (by decide) (fun hc => ?_) (fun hc => ?_)
        · have hf := ite_t hf hc
          exact B178 σ3 v1 _ _ _ hP hS (lv_sub hl [2, 1] rfl) hf
        · have hf := ite_f hf hc
          refine lv_aload_n hx hb dX10_decodeSeven_171 rfl (lv_at hl 2 rfl) ?_
          refine GX10_21 C hP gt4_24 dX10_decodeSeven_172 ?_
          refine lv_if_eq (tgt := 182) hx hb dX10_decodeSeven_175 (by decide) (fun hc => ?_) (fun hc => ?_)
          · have hf := ite_t hf hc
            refine lv_iconst (v := 0) hx hb dX10_decodeSeven_182 (by decide) ?_
            exact B183 σ3 v1 0 _ _ _ hP hS (lv_sub hl [2, 1] rfl) hf
          · have hf := ite_f hf hc
            exact B178 σ3 v1 _ _ _ hP hS (lv_sub hl [2, 1] rfl) hf
      · have hf := ite_f hf hc
        refine lv_aload_n hx hb dX10_decodeSeven_77 rfl (lv_at hl 2 rfl) ?_
        refine lv_iconst (v := 0) hx hb dX10_decodeSeven_78 (by decide) ?_
        refine PX10_28 hI C hP hS gt4_31 rfl rfl dX10_decodeSeven_79 (fun σ16 eσ16 H locs hP hS => ?_)
        have hf := nm_at hf σ16 eσ16
        refine lv_aload_n hx hb dX10_decodeSeven_82 rfl (lv_at hl 2 rfl) ?_
        refine lv_aload_n hx hb dX10_decodeSeven_83 rfl (lv_at hl 2 rfl) ?_
        refine GX10_20 C hP gt4_23 dX10_decodeSeven_84 ?_
        refine lv_bipush (v := 6) hx hb dX10_decodeSeven_87 (by decide) ?_
        refine lv_iadd hx hb dX10_decodeSeven_89 ?_
        refine PX10_29 hI C hP hS gt4_32 rfl rfl dX10_decodeSeven_90 (fun σ17 eσ17 H locs hP hS => ?_)
        have hf := nm_at hf σ17 eσ17
        refine lv_aload_n hx hb dX10_decodeSeven_93 rfl (lv_at hl 2 rfl) ?_
        refine lv_bipush (v := 64) hx hb dX10_decodeSeven_94 (by decide) ?_
        refine lv_aload_n hx hb dX10_decodeSeven_96 rfl (lv_at hl 2 rfl) ?_
        refine GX10_21 C hP gt4_24 dX10_decodeSeven_97 ?_
        refine lv_imul hx hb dX10_decodeSeven_100 ?_
        refine lv_iload_n hx hb dX10_decodeSeven_101 rfl (lv_at hl 0 rfl) ?_
        refine lv_iadd hx hb dX10_decodeSeven_102 ?_
        refine PX10_30 hI C hP hS gt4_33 rfl rfl dX10_decodeSeven_103 (fun σ18 eσ18 H locs hP hS => ?_)
        have hf := nm_at hf σ18 eσ18
        refine lv_aload_n hx hb dX10_decodeSeven_106 rfl (lv_at hl 2 rfl) ?_
        refine GX10_29 C hP gt4_32 dX10_decodeSeven_107 ?_
        refine lv_bipush (v := 16) hx hb dX10_decodeSeven_110 (by decide) ?_
        refine lv_icmp_lt (tgt := 156) hx hb dX10_decodeSeven_112 (by decide) (fun hc => ?_) (fun hc => ?_)
        · have hf := ite_t hf hc
          refine lv_aload_n hx hb dX10_decodeSeven_156 rfl (lv_at hl 2 rfl) ?_
          refine lv_iconst (v := 1) hx hb dX10_decodeSeven_157 (by decide) ?_
          obtain ⟨v19, σ20, hc, hf⟩ := bd_at hf
          refine callVI (As := [.int 1]) (rest := []) C (mX10_step hI hc) ⟨gt4_196, gt4_198, gtp33, gt1_11, gt4_199⟩ okX10_step ⟨Nat.le_of_ble_eq_true rfl, Nat.le_of_ble_eq_true rfl⟩ (rcvOf C hP (show (wM ad cI _)[0]? = some (ad 0, _) from rfl) rfl) rfl hl.1 rfl (Nat.le_of_ble_eq_true rfl) hP hS dX10_decodeSeven_158 (fun H locs hP hS => ?_)
          exact MI.ret (wf := wM ad cI) hQ C hr hlk rfl hf hP hS dX10_decodeSeven_161
        · have hf := ite_f hf hc
          refine lv_aload_n hx hb dX10_decodeSeven_115 rfl (lv_at hl 2 rfl) ?_
          refine lv_dup hx hb dX10_decodeSeven_116 rfl ?_
          refine GX10_29 C hP gt4_32 dX10_decodeSeven_117 ?_
          refine lv_bipush (v := 16) hx hb dX10_decodeSeven_120 (by decide) ?_
          refine lv_isub hx hb dX10_decodeSeven_122 ?_
          refine PX10_29 hI C hP hS gt4_32 rfl rfl dX10_decodeSeven_123 (fun σ21 eσ21 H locs hP hS => ?_)
          have hf := nm_at hf σ21 eσ21
          refine lv_aload_n hx hb dX10_decodeSeven_126 rfl (lv_at hl 2 rfl) ?_
          refine lv_aload_n hx hb dX10_decodeSeven_127 rfl (lv_at hl 2 rfl) ?_
          refine GX10_30 C hP gt4_33 dX10_decodeSeven_128 ?_
          refine lv_aload_n hx hb dX10_decodeSeven_131 rfl (lv_at hl 2 rfl) ?_
          refine GX10_29 C hP gt4_32 dX10_decodeSeven_132 ?_
          refine lv_ishr hx hb dX10_decodeSeven_135 ?_
          obtain ⟨v22, σ23, hc, hf⟩ := bd_at hf
          refine callVV (As := [.int ((σ21 0 30) >>> ((σ21 0 29) &&& 31))]) (rest := []) C (mX10_result hI hc) ⟨gt4_192, gt4_194, gtp32, gt1_11, gt4_195⟩ okX10_result ⟨Nat.le_of_ble_eq_true rfl, Nat.le_of_ble_eq_true rfl⟩ (rcvOf C hP (show (wM ad cI _)[0]? = some (ad 0, _) from rfl) rfl) rfl hl.1 rfl (Nat.le_of_ble_eq_true rfl) hP hS dX10_decodeSeven_136 (fun H locs hP hS => ?_)
          refine lv_aload_n hx hb dX10_decodeSeven_139 rfl (lv_at hl 2 rfl) ?_
          refine lv_aload_n hx hb dX10_decodeSeven_140 rfl (lv_at hl 2 rfl) ?_
          refine GX10_30 C hP gt4_33 dX10_decodeSeven_141 ?_
          refine lv_iconst (v := 1) hx hb dX10_decodeSeven_144 (by decide) ?_
          refine lv_aload_n hx hb dX10_decodeSeven_145 rfl (lv_at hl 2 rfl) ?_
          refine GX10_29 C hP gt4_32 dX10_decodeSeven_146 ?_
          refine lv_ishl hx hb dX10_decodeSeven_149 ?_
          refine lv_iconst (v := 1) hx hb dX10_decodeSeven_150 (by decide) ?_
          refine lv_isub hx hb dX10_decodeSeven_151 ?_
          refine lv_iand hx hb dX10_decodeSeven_152 ?_
          refine PX10_30 hI C hP hS gt4_33 rfl rfl dX10_decodeSeven_153 (fun σ24 eσ24 H locs hP hS => ?_)
          have hf := nm_at hf σ24 eσ24
          refine lv_aload_n hx hb dX10_decodeSeven_156 rfl (lv_at hl 2 rfl) ?_
          refine lv_iconst (v := 1) hx hb dX10_decodeSeven_157 (by decide) ?_
          obtain ⟨v25, σ26, hc, hf⟩ := bd_at hf
          refine callVI (As := [.int 1]) (rest := []) C (mX10_step hI hc) ⟨gt4_196, gt4_198, gtp33, gt1_11, gt4_199⟩ okX10_step ⟨Nat.le_of_ble_eq_true rfl, Nat.le_of_ble_eq_true rfl⟩ (rcvOf C hP (show (wM ad cI _)[0]? = some (ad 0, _) from rfl) rfl) rfl hl.1 rfl (Nat.le_of_ble_eq_true rfl) hP hS dX10_decodeSeven_158 (fun H locs hP hS => ?_)
          exact MI.ret (wf := wM ad cI) hQ C hr hlk rfl hf hP hS dX10_decodeSeven_161
    · have hf := ite_t hf hc
      refine lv_iload_n hx hb dX10_decodeSeven_28 rfl (lv_at hl 0 rfl) ?_
      refine lv_bipush (v := 43) hx hb dX10_decodeSeven_29 (by decide) ?_
      refine lv_icmp_ne (tgt := 57) hx hb dX10_decodeSeven_31 (by decide) (fun hc => ?_) (fun hc => ?_)
      · have hf := ite_f hf hc
        refine lv_aload_n hx hb dX10_decodeSeven_57 rfl (lv_at hl 1 rfl) ?_
        refine lv_iload_n hx hb dX10_decodeSeven_58 rfl (lv_at hl 0 rfl) ?_
        obtain ⟨v27, σ28, hc, hf⟩ := bd_at hf
        refine callVV (As := [.int v1]) (rest := []) C (mX10_result hI hc) ⟨gt4_192, gt4_194, gtp32, gt1_11, gt4_195⟩ okX10_result ⟨Nat.le_of_ble_eq_true rfl, Nat.le_of_ble_eq_true rfl⟩ (rcvOf C hP (show (wM ad cI _)[0]? = some (ad 0, _) from rfl) rfl) rfl hl.1 rfl (Nat.le_of_ble_eq_true rfl) hP hS dX10_decodeSeven_59 (fun H locs hP hS => ?_)
        refine lv_aload_n hx hb dX10_decodeSeven_62 rfl (lv_at hl 1 rfl) ?_
        refine lv_iconst (v := 1) hx hb dX10_decodeSeven_63 (by decide) ?_
        obtain ⟨v29, σ30, hc, hf⟩ := bd_at hf
        refine callVI (As := [.int 1]) (rest := []) C (mX10_step hI hc) ⟨gt4_196, gt4_198, gtp33, gt1_11, gt4_199⟩ okX10_step ⟨Nat.le_of_ble_eq_true rfl, Nat.le_of_ble_eq_true rfl⟩ (rcvOf C hP (show (wM ad cI _)[0]? = some (ad 0, _) from rfl) rfl) rfl hl.1 rfl (Nat.le_of_ble_eq_true rfl) hP hS dX10_decodeSeven_64 (fun H locs hP hS => ?_)
        exact MI.ret (wf := wM ad cI) hQ C hr hlk rfl hf hP hS dX10_decodeSeven_67
      · have hf := ite_t hf hc
        refine lv_aload_n hx hb dX10_decodeSeven_34 rfl (lv_at hl 1 rfl) ?_
        refine lv_iconst (v := 1) hx hb dX10_decodeSeven_35 (by decide) ?_
        refine PX10_27 hI C hP hS gt4_30 rfl rfl dX10_decodeSeven_36 (fun σ31 eσ31 H locs hP hS => ?_)
        have hf := nm_at hf σ31 eσ31
        refine lv_aload_n hx hb dX10_decodeSeven_39 rfl (lv_at hl 1 rfl) ?_
        refine lv_iconst (v := 1) hx hb dX10_decodeSeven_40 (by decide) ?_
        refine PX10_28 hI C hP hS gt4_31 rfl rfl dX10_decodeSeven_41 (fun σ32 eσ32 H locs hP hS => ?_)
        have hf := nm_at hf σ32 eσ32
        refine lv_aload_n hx hb dX10_decodeSeven_44 rfl (lv_at hl 1 rfl) ?_
        refine lv_iconst (v := 0) hx hb dX10_decodeSeven_45 (by decide) ?_
        refine PX10_29 hI C hP hS gt4_32 rfl rfl dX10_decodeSeven_46 (fun σ33 eσ33 H locs hP hS => ?_)
        have hf := nm_at hf σ33 eσ33
        refine lv_aload_n hx hb dX10_decodeSeven_49 rfl (lv_at hl 1 rfl) ?_
        refine lv_iconst (v := 0) hx hb dX10_decodeSeven_50 (by decide) ?_
        refine PX10_30 hI C hP hS gt4_33 rfl rfl dX10_decodeSeven_51 (fun σ34 eσ34 H locs hP hS => ?_)
        have hf := nm_at hf σ34 eσ34
        refine lv_goto (tgt := 62) hx hb dX10_decodeSeven_54 (by decide) ?_
        refine lv_aload_n hx hb dX10_decodeSeven_62 rfl (lv_at hl 1 rfl) ?_
        refine lv_iconst (v := 1) hx hb dX10_decodeSeven_63 (by decide) ?_
        obtain ⟨v35, σ36, hc, hf⟩ := bd_at hf
        refine callVI (As := [.int 1]) (rest := []) C (mX10_step hI hc) ⟨gt4_196, gt4_198, gtp33, gt1_11, gt4_199⟩ okX10_step ⟨Nat.le_of_ble_eq_true rfl, Nat.le_of_ble_eq_true rfl⟩ (rcvOf C hP (show (wM ad cI _)[0]? = some (ad 0, _) from rfl) rfl) rfl hl.1 rfl (Nat.le_of_ble_eq_true rfl) hP hS dX10_decodeSeven_64 (fun H locs hP hS => ?_)
        exact MI.ret (wf := wM ad cI) hQ C hr hlk rfl hf hP hS dX10_decodeSeven_67
  · have hf := ite_f hf hc
    refine lv_aload_n hx hb dX10_decodeSeven_14 rfl (lv_at hl 1 rfl) ?_
    refine lv_iconst (v := 2) hx hb dX10_decodeSeven_15 (by decide) ?_
    refine lv_iconst (v := 1) hx hb dX10_decodeSeven_16 (by decide) ?_
    obtain ⟨v37, σ38, hc, hf⟩ := bd_at hf
    refine callVI (As := [.int 2, .int 1]) (rest := []) C (mX10_fault hI hc) ⟨gt4_200, gt4_202, gtp34, gt1_11, gt4_203⟩ okX10_fault ⟨Nat.le_of_ble_eq_true rfl, Nat.le_of_ble_eq_true rfl⟩ (rcvOf C hP (show (wM ad cI _)[0]? = some (ad 0, _) from rfl) rfl) rfl hl.1 rfl (Nat.le_of_ble_eq_true rfl) hP hS dX10_decodeSeven_17 (fun H locs hP hS => ?_)
    exact MI.ret (wf := wM ad cI) hQ C hr hlk rfl hf hP hS dX10_decodeSeven_20
def fX10_direct_b94 (σ : St) (x0 : Int32) : Option (Int32 × St) := (if x0 < 97 then some (0, σ) else (if 122 < x0 then some (0, σ) else some (1, σ)))
def fX10_direct_b82 (σ : St) (x0 : Int32) : Option (Int32 × St) := (if x0 < 65 then fX10_direct_b94 σ x0 else (if x0 ≤ 90 then some (1, σ) else fX10_direct_b94 σ x0))
def fX10_direct_b65 (σ : St) (x0 y0 : Int32) : Option (Int32 × St) := (if y0 = 0 then (if x0 < 48 then fX10_direct_b82 σ x0 else (if x0 ≤ 57 then some (1, σ) else fX10_direct_b82 σ x0)) else some (1, σ))
def fX10_direct_b60 (σ : St) (x0 : Int32) : Option (Int32 × St) := fX10_direct_b65 σ x0 1
def fX10_direct_b48 (σ : St) (x0 : Int32) : Option (Int32 × St) := (if x0 = 58 then fX10_direct_b60 σ x0 else (if x0 = 63 then fX10_direct_b60 σ x0 else fX10_direct_b65 σ x0 0))
def fX10_direct_b36 (σ : St) (x0 : Int32) : Option (Int32 × St) := (if x0 < 44 then fX10_direct_b48 σ x0 else (if x0 ≤ 47 then fX10_direct_b60 σ x0 else fX10_direct_b48 σ x0))
def fX10_direct (σ : St) (p0 : Int32) : Option (Int32 × St) := (if p0 = 9 then fX10_direct_b60 σ p0 else (if p0 = 10 then fX10_direct_b60 σ p0 else (if p0 = 13 then fX10_direct_b60 σ p0 else (if p0 = 32 then fX10_direct_b60 σ p0 else (if p0 < 39 then fX10_direct_b36 σ p0 else (if p0 ≤ 41 then fX10_direct_b60 σ p0 else fX10_direct_b36 σ p0))))))
set_option maxHeartbeats 4000000 in
set_option maxRecDepth 100000 in
theorem mX10_direct {l : Launch} {D : va_G} {kS vS : Nat → Nat} {ad : Nat → Nat} {cI cF : ClassId} {σ σ0 : St} {p0 : Int32} {r : Int32} (hI : Inj ad 5) (hf : fX10_direct σ p0 = some (r, σ0)) : MI l D (tyC cI cF) (inA ad 5) kS vS yX10_direct cX10_direct 2 .boolean 0 0 [.int p0] (wM ad cI σ) (wM ad cI σ0) r := by
  refine MI.of (by decide) (Nat.le_of_ble_eq_true rfl) (fun p e s m args below meth c ls Q hQ C hr hlk hP hS hl => ?_)
  obtain ⟨hx, hb, hml, hown, hts, hK, hKS⟩ := id C
  have hl : lv_has ls 2 [(0, .int p0)] := hl
  have B94 : ∀ (σ : St) (x0 : Int32) (H : Heap) (locs : List Loc) (ls : Array Slot), va_P D vwCl (wM ad cI σ) H → va_S (inA ad 5) s.heap H locs → lv_has ls 2 [(0, .int x0)] → fX10_direct_b94 σ x0 = some (r, σ0) → W p l e (rmN 0 0) s m args below meth c H locs 0 0 Q (F0 m 94 ls []) := by
    intro σ x0 H locs ls hP hS hl hf
    unfold fX10_direct_b94 at hf
    refine lv_iload_n hx hb dX10_direct_94 rfl (lv_at hl 0 rfl) ?_
    refine lv_bipush (v := 97) hx hb dX10_direct_95 (by decide) ?_
    refine lv_icmp_lt (tgt := 110) hx hb dX10_direct_97 (by decide) (fun hc => ?_) (fun hc => ?_)
    · have hf := ite_t hf hc
      refine lv_iconst (v := 0) hx hb dX10_direct_110 (by decide) ?_
      exact MI.ret (wf := wM ad cI) hQ C hr hlk rfl hf hP hS dX10_direct_111
    · have hf := ite_f hf hc
      refine lv_iload_n hx hb dX10_direct_100 rfl (lv_at hl 0 rfl) ?_
      refine lv_bipush (v := 122) hx hb dX10_direct_101 (by decide) ?_
      refine lv_icmp_gt (tgt := 110) hx hb dX10_direct_103 (by decide) (fun hc => ?_) (fun hc => ?_)
      · have hf := ite_t hf hc
        refine lv_iconst (v := 0) hx hb dX10_direct_110 (by decide) ?_
        exact MI.ret (wf := wM ad cI) hQ C hr hlk rfl hf hP hS dX10_direct_111
      · have hf := ite_f hf hc
        refine lv_iconst (v := 1) hx hb dX10_direct_106 (by decide) ?_
        refine lv_goto (tgt := 111) hx hb dX10_direct_107 (by decide) ?_
        exact MI.ret (wf := wM ad cI) hQ C hr hlk rfl hf hP hS dX10_direct_111
  have B82 : ∀ (σ : St) (x0 : Int32) (H : Heap) (locs : List Loc) (ls : Array Slot), va_P D vwCl (wM ad cI σ) H → va_S (inA ad 5) s.heap H locs → lv_has ls 2 [(0, .int x0)] → fX10_direct_b82 σ x0 = some (r, σ0) → W p l e (rmN 0 0) s m args below meth c H locs 0 0 Q (F0 m 82 ls []) := by
    intro σ x0 H locs ls hP hS hl hf
    unfold fX10_direct_b82 at hf
    refine lv_iload_n hx hb dX10_direct_82 rfl (lv_at hl 0 rfl) ?_
    refine lv_bipush (v := 65) hx hb dX10_direct_83 (by decide) ?_
    refine lv_icmp_lt (tgt := 94) hx hb dX10_direct_85 (by decide) (fun hc => ?_) (fun hc => ?_)
    · have hf := ite_t hf hc
      exact B94 σ x0 _ _ _ hP hS (lv_sub hl [0] rfl) hf
    · have hf := ite_f hf hc
      refine lv_iload_n hx hb dX10_direct_88 rfl (lv_at hl 0 rfl) ?_
      refine lv_bipush (v := 90) hx hb dX10_direct_89 (by decide) ?_
      refine lv_icmp_le (tgt := 106) hx hb dX10_direct_91 (by decide) (fun hc => ?_) (fun hc => ?_)
      · have hf := ite_t hf hc
        refine lv_iconst (v := 1) hx hb dX10_direct_106 (by decide) ?_
        refine lv_goto (tgt := 111) hx hb dX10_direct_107 (by decide) ?_
        exact MI.ret (wf := wM ad cI) hQ C hr hlk rfl hf hP hS dX10_direct_111
      · have hf := ite_f hf hc
        exact B94 σ x0 _ _ _ hP hS (lv_sub hl [0] rfl) hf
  have B65 : ∀ (σ : St) (x0 y0 : Int32) (H : Heap) (locs : List Loc) (ls : Array Slot), va_P D vwCl (wM ad cI σ) H → va_S (inA ad 5) s.heap H locs → lv_has ls 2 [(0, .int x0)] → fX10_direct_b65 σ x0 y0 = some (r, σ0) → W p l e (rmN 0 0) s m args below meth c H locs 0 0 Q (F0 m 65 ls [.int y0]) := by
    intro σ x0 y0 H locs ls hP hS hl hf
    unfold fX10_direct_b65 at hf
    refine lv_istore_n (lv' := [(1, .int y0), (0, .int x0)]) hx hb dX10_direct_65 rfl hl (by decide) rfl (fun ls hl => ?_)
    refine lv_iload_n hx hb dX10_direct_66 rfl (lv_at hl 0 rfl) ?_
    refine lv_if_ne (tgt := 106) hx hb dX10_direct_67 (by decide) (fun hc => ?_) (fun hc => ?_)
    · have hf := ite_f hf hc
      refine lv_iconst (v := 1) hx hb dX10_direct_106 (by decide) ?_
      refine lv_goto (tgt := 111) hx hb dX10_direct_107 (by decide) ?_
      exact MI.ret (wf := wM ad cI) hQ C hr hlk rfl hf hP hS dX10_direct_111
    · have hf := ite_t hf hc
      refine lv_iload_n hx hb dX10_direct_70 rfl (lv_at hl 1 rfl) ?_
      refine lv_bipush (v := 48) hx hb dX10_direct_71 (by decide) ?_
      refine lv_icmp_lt (tgt := 82) hx hb dX10_direct_73 (by decide) (fun hc => ?_) (fun hc => ?_)
      · have hf := ite_t hf hc
        exact B82 σ x0 _ _ _ hP hS (lv_sub hl [1] rfl) hf
      · have hf := ite_f hf hc
        refine lv_iload_n hx hb dX10_direct_76 rfl (lv_at hl 1 rfl) ?_
        refine lv_bipush (v := 57) hx hb dX10_direct_77 (by decide) ?_
        refine lv_icmp_le (tgt := 106) hx hb dX10_direct_79 (by decide) (fun hc => ?_) (fun hc => ?_)
        · have hf := ite_t hf hc
          refine lv_iconst (v := 1) hx hb dX10_direct_106 (by decide) ?_
          refine lv_goto (tgt := 111) hx hb dX10_direct_107 (by decide) ?_
          exact MI.ret (wf := wM ad cI) hQ C hr hlk rfl hf hP hS dX10_direct_111
        · have hf := ite_f hf hc
          exact B82 σ x0 _ _ _ hP hS (lv_sub hl [1] rfl) hf
  have B60 : ∀ (σ : St) (x0 : Int32) (H : Heap) (locs : List Loc) (ls : Array Slot), va_P D vwCl (wM ad cI σ) H → va_S (inA ad 5) s.heap H locs → lv_has ls 2 [(0, .int x0)] → fX10_direct_b60 σ x0 = some (r, σ0) → W p l e (rmN 0 0) s m args below meth c H locs 0 0 Q (F0 m 60 ls []) := by
    intro σ x0 H locs ls hP hS hl hf
    unfold fX10_direct_b60 at hf
    refine lv_iconst (v := 1) hx hb dX10_direct_60 (by decide) ?_
    refine lv_goto (tgt := 65) hx hb dX10_direct_61 (by decide) ?_
    exact B65 σ x0 1 _ _ _ hP hS (lv_sub hl [0] rfl) hf
  have B48 : ∀ (σ : St) (x0 : Int32) (H : Heap) (locs : List Loc) (ls : Array Slot), va_P D vwCl (wM ad cI σ) H → va_S (inA ad 5) s.heap H locs → lv_has ls 2 [(0, .int x0)] → fX10_direct_b48 σ x0 = some (r, σ0) → W p l e (rmN 0 0) s m args below meth c H locs 0 0 Q (F0 m 48 ls []) := by
    intro σ x0 H locs ls hP hS hl hf
    unfold fX10_direct_b48 at hf
    refine lv_iload_n hx hb dX10_direct_48 rfl (lv_at hl 0 rfl) ?_
    refine lv_bipush (v := 58) hx hb dX10_direct_49 (by decide) ?_
    refine lv_icmp_eq (tgt := 60) hx hb dX10_direct_51 (by decide) (fun hc => ?_) (fun hc => ?_)
    · have hf := ite_t hf hc
      exact B60 σ x0 _ _ _ hP hS (lv_sub hl [0] rfl) hf
    · have hf := ite_f hf hc
      refine lv_iload_n hx hb dX10_direct_54 rfl (lv_at hl 0 rfl) ?_
      refine lv_bipush (v := 63) hx hb dX10_direct_55 (by decide) ?_
      refine lv_icmp_ne (tgt := 64) hx hb dX10_direct_57 (by decide) (fun hc => ?_) (fun hc => ?_)
      · have hf := ite_f hf hc
        refine lv_iconst (v := 0) hx hb dX10_direct_64 (by decide) ?_
        exact B65 σ x0 0 _ _ _ hP hS (lv_sub hl [0] rfl) hf
      · have hf := ite_t hf hc
        exact B60 σ x0 _ _ _ hP hS (lv_sub hl [0] rfl) hf
  have B36 : ∀ (σ : St) (x0 : Int32) (H : Heap) (locs : List Loc) (ls : Array Slot), va_P D vwCl (wM ad cI σ) H → va_S (inA ad 5) s.heap H locs → lv_has ls 2 [(0, .int x0)] → fX10_direct_b36 σ x0 = some (r, σ0) → W p l e (rmN 0 0) s m args below meth c H locs 0 0 Q (F0 m 36 ls []) := by
    intro σ x0 H locs ls hP hS hl hf
    unfold fX10_direct_b36 at hf
    refine lv_iload_n hx hb dX10_direct_36 rfl (lv_at hl 0 rfl) ?_
    refine lv_bipush (v := 44) hx hb dX10_direct_37 (by decide) ?_
    refine lv_icmp_lt (tgt := 48) hx hb dX10_direct_39 (by decide) (fun hc => ?_) (fun hc => ?_)
    · have hf := ite_t hf hc
      exact B48 σ x0 _ _ _ hP hS (lv_sub hl [0] rfl) hf
    · have hf := ite_f hf hc
      refine lv_iload_n hx hb dX10_direct_42 rfl (lv_at hl 0 rfl) ?_
      refine lv_bipush (v := 47) hx hb dX10_direct_43 (by decide) ?_
      refine lv_icmp_le (tgt := 60) hx hb dX10_direct_45 (by decide) (fun hc => ?_) (fun hc => ?_)
      · have hf := ite_t hf hc
        exact B60 σ x0 _ _ _ hP hS (lv_sub hl [0] rfl) hf
      · have hf := ite_f hf hc
        exact B48 σ x0 _ _ _ hP hS (lv_sub hl [0] rfl) hf
  unfold fX10_direct at hf
  refine lv_iload_n hx hb dX10_direct_0 rfl (lv_at hl 0 rfl) ?_
  refine lv_bipush (v := 9) hx hb dX10_direct_1 (by decide) ?_
  refine lv_icmp_eq (tgt := 60) hx hb dX10_direct_3 (by decide) (fun hc => ?_) (fun hc => ?_)
  · have hf := ite_t hf hc
    exact B60 σ p0 _ _ _ hP hS (lv_sub hl [0] rfl) hf
  · have hf := ite_f hf hc
    refine lv_iload_n hx hb dX10_direct_6 rfl (lv_at hl 0 rfl) ?_
    refine lv_bipush (v := 10) hx hb dX10_direct_7 (by decide) ?_
    refine lv_icmp_eq (tgt := 60) hx hb dX10_direct_9 (by decide) (fun hc => ?_) (fun hc => ?_)
    · have hf := ite_t hf hc
      exact B60 σ p0 _ _ _ hP hS (lv_sub hl [0] rfl) hf
    · have hf := ite_f hf hc
      refine lv_iload_n hx hb dX10_direct_12 rfl (lv_at hl 0 rfl) ?_
      refine lv_bipush (v := 13) hx hb dX10_direct_13 (by decide) ?_
      refine lv_icmp_eq (tgt := 60) hx hb dX10_direct_15 (by decide) (fun hc => ?_) (fun hc => ?_)
      · have hf := ite_t hf hc
        exact B60 σ p0 _ _ _ hP hS (lv_sub hl [0] rfl) hf
      · have hf := ite_f hf hc
        refine lv_iload_n hx hb dX10_direct_18 rfl (lv_at hl 0 rfl) ?_
        refine lv_bipush (v := 32) hx hb dX10_direct_19 (by decide) ?_
        refine lv_icmp_eq (tgt := 60) hx hb dX10_direct_21 (by decide) (fun hc => ?_) (fun hc => ?_)
        · have hf := ite_t hf hc
          exact B60 σ p0 _ _ _ hP hS (lv_sub hl [0] rfl) hf
        · have hf := ite_f hf hc
          refine lv_iload_n hx hb dX10_direct_24 rfl (lv_at hl 0 rfl) ?_
          refine lv_bipush (v := 39) hx hb dX10_direct_25 (by decide) ?_
          refine lv_icmp_lt (tgt := 36) hx hb dX10_direct_27 (by decide) (fun hc => ?_) (fun hc => ?_)
          · have hf := ite_t hf hc
            exact B36 σ p0 _ _ _ hP hS (lv_sub hl [0] rfl) hf
          · have hf := ite_f hf hc
            refine lv_iload_n hx hb dX10_direct_30 rfl (lv_at hl 0 rfl) ?_
            refine lv_bipush (v := 41) hx hb dX10_direct_31 (by decide) ?_
            refine lv_icmp_le (tgt := 60) hx hb dX10_direct_33 (by decide) (fun hc => ?_) (fun hc => ?_)
            · have hf := ite_t hf hc
              exact B60 σ p0 _ _ _ hP hS (lv_sub hl [0] rfl) hf
            · have hf := ite_f hf hc
              exact B36 σ p0 _ _ _ hP hS (lv_sub hl [0] rfl) hf
def fX10_unshift_b26 (σ : St) : Option (Int32 × St) := bd (fX10_result σ 45) (fun _ σ2 => nm (up σ2 0 27 0) (fun σ3 => nm (up σ3 0 29 0) (fun σ4 => nm (up σ4 0 30 0) (fun σ5 => some (0, σ5)))))
def fX10_unshift (σ : St) : Option (Int32 × St) := (if (σ 0 20) ≤ 0 then fX10_unshift_b26 σ else bd (fX10_sign σ ((σ 0 21) <<< ((6 - (σ 0 20)) &&& 31))) (fun v6 σ7 => bd (fX10_result σ7 v6) (fun _ σ9 => fX10_unshift_b26 σ9)))
set_option maxHeartbeats 4000000 in
set_option maxRecDepth 100000 in
theorem mX10_unshift {l : Launch} {D : va_G} {kS vS : Nat → Nat} {ad : Nat → Nat} {cI cF : ClassId} {σ σ0 : St} {r : Int32} (hI : Inj ad 5) (hf : fX10_unshift σ  = some (r, σ0)) : MV l D (tyC cI cF) (inA ad 5) kS vS yX10_unshift cX10_unshift 1 1 21 [.ref (ad 0)] (wM ad cI σ) (wM ad cI σ0) := by
  refine MV.of (by decide) (Nat.le_of_ble_eq_true rfl) (fun p e s m args below meth c ls Q hQ C hr hlk hP hS hl => ?_)
  obtain ⟨hx, hb, hml, hown, hts, hK, hKS⟩ := id C
  have hl : lv_has ls 1 [(0, .ref (ad 0))] := hl
  have B26 : ∀ (σ : St) (H : Heap) (locs : List Loc) (ls : Array Slot), va_P D vwCl (wM ad cI σ) H → va_S (inA ad 5) s.heap H locs → lv_has ls 1 [(0, .ref (ad 0))] → fX10_unshift_b26 σ = some (r, σ0) → W p l e (rmN 1 21) s m args below meth c H locs 0 0 Q (F0 m 26 ls []) := by
    intro σ H locs ls hP hS hl hf
    unfold fX10_unshift_b26 at hf
    refine lv_aload_n hx hb dX10_unshift_26 rfl (lv_at hl 0 rfl) ?_
    refine lv_bipush (v := 45) hx hb dX10_unshift_27 (by decide) ?_
    obtain ⟨v1, σ2, hc, hf⟩ := bd_at hf
    refine callVV (As := [.int 45]) (rest := []) C (mX10_result hI hc) ⟨gt4_192, gt4_194, gtp32, gt1_11, gt4_195⟩ okX10_result ⟨Nat.le_of_ble_eq_true rfl, Nat.le_of_ble_eq_true rfl⟩ (rcvOf C hP (show (wM ad cI _)[0]? = some (ad 0, _) from rfl) rfl) rfl hl.1 rfl (Nat.le_of_ble_eq_true rfl) hP hS dX10_unshift_29 (fun H locs hP hS => ?_)
    refine lv_aload_n hx hb dX10_unshift_32 rfl (lv_at hl 0 rfl) ?_
    refine lv_iconst (v := 0) hx hb dX10_unshift_33 (by decide) ?_
    refine PX10_27 hI C hP hS gt4_30 rfl rfl dX10_unshift_34 (fun σ3 eσ3 H locs hP hS => ?_)
    have hf := nm_at hf σ3 eσ3
    refine lv_aload_n hx hb dX10_unshift_37 rfl (lv_at hl 0 rfl) ?_
    refine lv_iconst (v := 0) hx hb dX10_unshift_38 (by decide) ?_
    refine PX10_29 hI C hP hS gt4_32 rfl rfl dX10_unshift_39 (fun σ4 eσ4 H locs hP hS => ?_)
    have hf := nm_at hf σ4 eσ4
    refine lv_aload_n hx hb dX10_unshift_42 rfl (lv_at hl 0 rfl) ?_
    refine lv_iconst (v := 0) hx hb dX10_unshift_43 (by decide) ?_
    refine PX10_30 hI C hP hS gt4_33 rfl rfl dX10_unshift_44 (fun σ5 eσ5 H locs hP hS => ?_)
    have hf := nm_at hf σ5 eσ5
    exact MV.ret (wf := wM ad cI) hQ C hr hlk hf hP hS dX10_unshift_47
  unfold fX10_unshift at hf
  refine lv_aload_n hx hb dX10_unshift_0 rfl (lv_at hl 0 rfl) ?_
  refine GX10_20 C hP gt4_23 dX10_unshift_1 ?_
  refine lv_if_le (tgt := 26) hx hb dX10_unshift_4 (by decide) (fun hc => ?_) (fun hc => ?_)
  · have hf := ite_t hf hc
    exact B26 σ _ _ _ hP hS (lv_sub hl [0] rfl) hf
  · have hf := ite_f hf hc
    refine lv_aload_n hx hb dX10_unshift_7 rfl (lv_at hl 0 rfl) ?_
    refine lv_aload_n hx hb dX10_unshift_8 rfl (lv_at hl 0 rfl) ?_
    refine GX10_21 C hP gt4_24 dX10_unshift_9 ?_
    refine lv_bipush (v := 6) hx hb dX10_unshift_12 (by decide) ?_
    refine lv_aload_n hx hb dX10_unshift_14 rfl (lv_at hl 0 rfl) ?_
    refine GX10_20 C hP gt4_23 dX10_unshift_15 ?_
    refine lv_isub hx hb dX10_unshift_18 ?_
    refine lv_ishl hx hb dX10_unshift_19 ?_
    obtain ⟨v6, σ7, hc, hf⟩ := bd_at hf
    refine callSI (As := [.int ((σ 0 21) <<< ((6 - (σ 0 20)) &&& 31))]) (rest := [.ref (ad 0)]) C (mX10_sign hI hc) ⟨gt5_11, gt5_12, gt1_11, gt5_13⟩ okX10_sign ⟨Nat.le_of_ble_eq_true rfl, Nat.le_of_ble_eq_true rfl⟩ rfl hl.1 rfl (Nat.le_of_ble_eq_true rfl) hP hS dX10_unshift_20 (fun H locs hP hS => ?_)
    obtain ⟨v8, σ9, hc, hf⟩ := bd_at hf
    refine callVV (As := [.int v6]) (rest := []) C (mX10_result hI hc) ⟨gt4_192, gt4_194, gtp32, gt1_11, gt4_195⟩ okX10_result ⟨Nat.le_of_ble_eq_true rfl, Nat.le_of_ble_eq_true rfl⟩ (rcvOf C hP (show (wM ad cI _)[0]? = some (ad 0, _) from rfl) rfl) rfl hl.1 rfl (Nat.le_of_ble_eq_true rfl) hP hS dX10_unshift_23 (fun H locs hP hS => ?_)
    exact B26 σ9 _ _ _ hP hS (lv_sub hl [0] rfl) hf
def fX10_encodeSeven_b119 : Nat → St → Option (Int32 × St)
  | 0, _ => none
  | n + 1, σ => (if (σ 0 29) < 6 then bd (fX10_step σ 1) (fun v7 σ8 => some (v7, σ8)) else nm (up σ 0 29 ((σ 0 29) - 6)) (fun σ9 => bd (fX10_sign σ9 ((σ9 0 30) >>> ((σ9 0 29) &&& 31))) (fun v10 σ11 => bd (fX10_result σ11 v10) (fun _ σ13 => nm (up σ13 0 30 ((σ13 0 30) &&& ((1 <<< ((σ13 0 29) &&& 31)) - 1))) (fun σ14 => fX10_encodeSeven_b119 n σ14)))))
def fX10_encodeSeven_b111 (σ : St) (x1 y0 : Int32) : Option (Int32 × St) := nm (up σ 0 30 ((y0 * 65536) + x1)) (fun σ6 => fX10_encodeSeven_b119 200 σ6)
def fX10_encodeSeven_b92 (σ : St) (x1 y0 : Int32) : Option (Int32 × St) := nm (up σ 0 29 y0) (fun σ5 => (if (σ5 0 18) = 0 then fX10_encodeSeven_b111 σ5 x1 0 else fX10_encodeSeven_b111 σ5 x1 (σ5 0 21)))
def fX10_encodeSeven_b67 (σ : St) (x1 : Int32) : Option (Int32 × St) := nm (up σ 0 27 1) (fun σ4 => (if (σ4 0 18) = 0 then fX10_encodeSeven_b92 σ4 x1 16 else fX10_encodeSeven_b92 σ4 x1 ((σ4 0 20) + 16)))
def fX10_encodeSeven (σ : St) : Option (Int32 × St) := ld (σ 2) 24 0 (fun v1 => bd (fX10_direct σ v1) (fun v2 σ3 => (if v2 = 0 then (if (σ3 0 18) = 0 then bd (fX10_result σ3 43) (fun _ σ16 => (if v1 = 43 then bd (fX10_result σ16 45) (fun _ σ18 => bd (fX10_step σ18 1) (fun v19 σ20 => some (v19, σ20))) else fX10_encodeSeven_b67 σ16 v1)) else fX10_encodeSeven_b67 σ3 v1) else (if (σ3 0 18) = 0 then bd (fX10_result σ3 v1) (fun _ σ22 => bd (fX10_step σ22 1) (fun v23 σ24 => some (v23, σ24))) else bd (fX10_unshift σ3) (fun _ σ26 => bd (fX10_result σ26 v1) (fun _ σ28 => bd (fX10_step σ28 1) (fun v29 σ30 => some (v29, σ30))))))))
set_option maxHeartbeats 4000000 in
set_option maxRecDepth 100000 in
theorem mX10_encodeSeven {l : Launch} {D : va_G} {kS vS : Nat → Nat} {ad : Nat → Nat} {cI cF : ClassId} {σ σ0 : St} {r : Int32} (hI : Inj ad 5) (hf : fX10_encodeSeven σ  = some (r, σ0)) : MI l D (tyC cI cF) (inA ad 5) kS vS yX10_encodeSeven cX10_encodeSeven 2 .int 2 41 [.ref (ad 0)] (wM ad cI σ) (wM ad cI σ0) r := by
  refine MI.of (by decide) (Nat.le_of_ble_eq_true rfl) (fun p e s m args below meth c ls Q hQ C hr hlk hP hS hl => ?_)
  obtain ⟨hx, hb, hml, hown, hts, hK, hKS⟩ := id C
  have hl : lv_has ls 2 [(0, .ref (ad 0))] := hl
  have B119 : ∀ n : Nat, ∀ (σ : St) (H : Heap) (locs : List Loc) (ls : Array Slot), va_P D vwCl (wM ad cI σ) H → va_S (inA ad 5) s.heap H locs → lv_has ls 2 [(0, .ref (ad 0))] → fX10_encodeSeven_b119 n σ = some (r, σ0) → W p l e (rmN 2 41) s m args below meth c H locs 0 0 Q (F0 m 119 ls []) := by
    intro n
    induction n with
    | zero =>
      intro σ H locs ls hP hS hl hf
      exact nomatch (show (none : Option (Int32 × St)) = some (r, σ0) from hf)
    | succ n ih =>
      intro σ H locs ls hP hS hl hf
      rw [fX10_encodeSeven_b119] at hf
      refine lv_aload_n hx hb dX10_encodeSeven_119 rfl (lv_at hl 0 rfl) ?_
      refine GX10_29 C hP gt4_32 dX10_encodeSeven_120 ?_
      refine lv_bipush (v := 6) hx hb dX10_encodeSeven_123 (by decide) ?_
      refine lv_icmp_lt (tgt := 175) hx hb dX10_encodeSeven_125 (by decide) (fun hc => ?_) (fun hc => ?_)
      · have hf := ite_t hf hc
        refine lv_aload_n hx hb dX10_encodeSeven_175 rfl (lv_at hl 0 rfl) ?_
        refine lv_iconst (v := 1) hx hb dX10_encodeSeven_176 (by decide) ?_
        obtain ⟨v7, σ8, hc, hf⟩ := bd_at hf
        refine callVI (As := [.int 1]) (rest := []) C (mX10_step hI hc) ⟨gt4_196, gt4_198, gtp33, gt1_11, gt4_199⟩ okX10_step ⟨Nat.le_of_ble_eq_true rfl, Nat.le_of_ble_eq_true rfl⟩ (rcvOf C hP (show (wM ad cI _)[0]? = some (ad 0, _) from rfl) rfl) rfl hl.1 rfl (Nat.le_of_ble_eq_true rfl) hP hS dX10_encodeSeven_177 (fun H locs hP hS => ?_)
        exact MI.ret (wf := wM ad cI) hQ C hr hlk rfl hf hP hS dX10_encodeSeven_180
      · have hf := ite_f hf hc
        refine lv_aload_n hx hb dX10_encodeSeven_128 rfl (lv_at hl 0 rfl) ?_
        refine lv_dup hx hb dX10_encodeSeven_129 rfl ?_
        refine GX10_29 C hP gt4_32 dX10_encodeSeven_130 ?_
        refine lv_bipush (v := 6) hx hb dX10_encodeSeven_133 (by decide) ?_
        refine lv_isub hx hb dX10_encodeSeven_135 ?_
        refine PX10_29 hI C hP hS gt4_32 rfl rfl dX10_encodeSeven_136 (fun σ9 eσ9 H locs hP hS => ?_)
        have hf := nm_at hf σ9 eσ9
        refine lv_aload_n hx hb dX10_encodeSeven_139 rfl (lv_at hl 0 rfl) ?_
        refine lv_aload_n hx hb dX10_encodeSeven_140 rfl (lv_at hl 0 rfl) ?_
        refine GX10_30 C hP gt4_33 dX10_encodeSeven_141 ?_
        refine lv_aload_n hx hb dX10_encodeSeven_144 rfl (lv_at hl 0 rfl) ?_
        refine GX10_29 C hP gt4_32 dX10_encodeSeven_145 ?_
        refine lv_ishr hx hb dX10_encodeSeven_148 ?_
        obtain ⟨v10, σ11, hc, hf⟩ := bd_at hf
        refine callSI (As := [.int ((σ9 0 30) >>> ((σ9 0 29) &&& 31))]) (rest := [.ref (ad 0)]) C (mX10_sign hI hc) ⟨gt5_11, gt5_12, gt1_11, gt5_13⟩ okX10_sign ⟨Nat.le_of_ble_eq_true rfl, Nat.le_of_ble_eq_true rfl⟩ rfl hl.1 rfl (Nat.le_of_ble_eq_true rfl) hP hS dX10_encodeSeven_149 (fun H locs hP hS => ?_)
        obtain ⟨v12, σ13, hc, hf⟩ := bd_at hf
        refine callVV (As := [.int v10]) (rest := []) C (mX10_result hI hc) ⟨gt4_192, gt4_194, gtp32, gt1_11, gt4_195⟩ okX10_result ⟨Nat.le_of_ble_eq_true rfl, Nat.le_of_ble_eq_true rfl⟩ (rcvOf C hP (show (wM ad cI _)[0]? = some (ad 0, _) from rfl) rfl) rfl hl.1 rfl (Nat.le_of_ble_eq_true rfl) hP hS dX10_encodeSeven_152 (fun H locs hP hS => ?_)
        refine lv_aload_n hx hb dX10_encodeSeven_155 rfl (lv_at hl 0 rfl) ?_
        refine lv_aload_n hx hb dX10_encodeSeven_156 rfl (lv_at hl 0 rfl) ?_
        refine GX10_30 C hP gt4_33 dX10_encodeSeven_157 ?_
        refine lv_iconst (v := 1) hx hb dX10_encodeSeven_160 (by decide) ?_
        refine lv_aload_n hx hb dX10_encodeSeven_161 rfl (lv_at hl 0 rfl) ?_
        refine GX10_29 C hP gt4_32 dX10_encodeSeven_162 ?_
        refine lv_ishl hx hb dX10_encodeSeven_165 ?_
        refine lv_iconst (v := 1) hx hb dX10_encodeSeven_166 (by decide) ?_
        refine lv_isub hx hb dX10_encodeSeven_167 ?_
        refine lv_iand hx hb dX10_encodeSeven_168 ?_
        refine PX10_30 hI C hP hS gt4_33 rfl rfl dX10_encodeSeven_169 (fun σ14 eσ14 H locs hP hS => ?_)
        have hf := nm_at hf σ14 eσ14
        refine lv_goto (tgt := 119) hx hb dX10_encodeSeven_172 (by decide) ?_
        exact ih σ14 _ _ _ hP hS (lv_sub hl [0] rfl) hf
  have B111 : ∀ (σ : St) (x1 y0 : Int32) (H : Heap) (locs : List Loc) (ls : Array Slot), va_P D vwCl (wM ad cI σ) H → va_S (inA ad 5) s.heap H locs → lv_has ls 2 [(0, .ref (ad 0)), (1, .int x1)] → fX10_encodeSeven_b111 σ x1 y0 = some (r, σ0) → W p l e (rmN 2 41) s m args below meth c H locs 0 0 Q (F0 m 111 ls [.int y0, .ref (ad 0)]) := by
    intro σ x1 y0 H locs ls hP hS hl hf
    unfold fX10_encodeSeven_b111 at hf
    refine lv_ldc hx hb (v := 65536) hown (hts _ gt4_191) dX10_encodeSeven_111 ?_
    refine lv_imul hx hb dX10_encodeSeven_113 ?_
    refine lv_iload_n hx hb dX10_encodeSeven_114 rfl (lv_at hl 1 rfl) ?_
    refine lv_iadd hx hb dX10_encodeSeven_115 ?_
    refine PX10_30 hI C hP hS gt4_33 rfl rfl dX10_encodeSeven_116 (fun σ6 eσ6 H locs hP hS => ?_)
    have hf := nm_at hf σ6 eσ6
    exact B119 200 σ6 _ _ _ hP hS (lv_sub hl [0] rfl) hf
  have B92 : ∀ (σ : St) (x1 y0 : Int32) (H : Heap) (locs : List Loc) (ls : Array Slot), va_P D vwCl (wM ad cI σ) H → va_S (inA ad 5) s.heap H locs → lv_has ls 2 [(0, .ref (ad 0)), (1, .int x1)] → fX10_encodeSeven_b92 σ x1 y0 = some (r, σ0) → W p l e (rmN 2 41) s m args below meth c H locs 0 0 Q (F0 m 92 ls [.int y0, .ref (ad 0)]) := by
    intro σ x1 y0 H locs ls hP hS hl hf
    unfold fX10_encodeSeven_b92 at hf
    refine PX10_29 hI C hP hS gt4_32 rfl rfl dX10_encodeSeven_92 (fun σ5 eσ5 H locs hP hS => ?_)
    have hf := nm_at hf σ5 eσ5
    refine lv_aload_n hx hb dX10_encodeSeven_95 rfl (lv_at hl 0 rfl) ?_
    refine lv_aload_n hx hb dX10_encodeSeven_96 rfl (lv_at hl 0 rfl) ?_
    refine GX10_18 C hP gt4_21 dX10_encodeSeven_97 ?_
    refine lv_if_eq (tgt := 110) hx hb dX10_encodeSeven_100 (by decide) (fun hc => ?_) (fun hc => ?_)
    · have hf := ite_t hf hc
      refine lv_iconst (v := 0) hx hb dX10_encodeSeven_110 (by decide) ?_
      exact B111 σ5 x1 0 _ _ _ hP hS (lv_sub hl [0, 1] rfl) hf
    · have hf := ite_f hf hc
      refine lv_aload_n hx hb dX10_encodeSeven_103 rfl (lv_at hl 0 rfl) ?_
      refine GX10_21 C hP gt4_24 dX10_encodeSeven_104 ?_
      refine lv_goto (tgt := 111) hx hb dX10_encodeSeven_107 (by decide) ?_
      exact B111 σ5 x1 (σ5 0 21) _ _ _ hP hS (lv_sub hl [0, 1] rfl) hf
  have B67 : ∀ (σ : St) (x1 : Int32) (H : Heap) (locs : List Loc) (ls : Array Slot), va_P D vwCl (wM ad cI σ) H → va_S (inA ad 5) s.heap H locs → lv_has ls 2 [(0, .ref (ad 0)), (1, .int x1)] → fX10_encodeSeven_b67 σ x1 = some (r, σ0) → W p l e (rmN 2 41) s m args below meth c H locs 0 0 Q (F0 m 67 ls []) := by
    intro σ x1 H locs ls hP hS hl hf
    unfold fX10_encodeSeven_b67 at hf
    refine lv_aload_n hx hb dX10_encodeSeven_67 rfl (lv_at hl 0 rfl) ?_
    refine lv_iconst (v := 1) hx hb dX10_encodeSeven_68 (by decide) ?_
    refine PX10_27 hI C hP hS gt4_30 rfl rfl dX10_encodeSeven_69 (fun σ4 eσ4 H locs hP hS => ?_)
    have hf := nm_at hf σ4 eσ4
    refine lv_aload_n hx hb dX10_encodeSeven_72 rfl (lv_at hl 0 rfl) ?_
    refine lv_aload_n hx hb dX10_encodeSeven_73 rfl (lv_at hl 0 rfl) ?_
    refine GX10_18 C hP gt4_21 dX10_encodeSeven_74 ?_
    refine lv_if_eq (tgt := 90) hx hb dX10_encodeSeven_77 (by decide) (fun hc => ?_) (fun hc => ?_)
    · have hf := ite_t hf hc
      refine lv_bipush (v := 16) hx hb dX10_encodeSeven_90 (by decide) ?_
      exact B92 σ4 x1 16 _ _ _ hP hS (lv_sub hl [0, 1] rfl) hf
    · have hf := ite_f hf hc
      refine lv_aload_n hx hb dX10_encodeSeven_80 rfl (lv_at hl 0 rfl) ?_
      refine GX10_20 C hP gt4_23 dX10_encodeSeven_81 ?_
      refine lv_bipush (v := 16) hx hb dX10_encodeSeven_84 (by decide) ?_
      refine lv_iadd hx hb dX10_encodeSeven_86 ?_
      refine lv_goto (tgt := 92) hx hb dX10_encodeSeven_87 (by decide) ?_
      exact B92 σ4 x1 ((σ4 0 20) + 16) _ _ _ hP hS (lv_sub hl [0, 1] rfl) hf
  unfold fX10_encodeSeven at hf
  refine lv_aload_n hx hb dX10_encodeSeven_0 rfl (lv_at hl 0 rfl) ?_
  refine GX10_8 C hP gt4_11 dX10_encodeSeven_1 ?_
  refine lv_iconst (v := 0) hx hb dX10_encodeSeven_4 (by decide) ?_
  obtain ⟨hin, hf⟩ := ld_at hf
  refine aload C hP 2 rfl rfl hin dX10_encodeSeven_5 (fun v1 ev1 => ?_)
  have hf := hf v1 ev1
  refine lv_istore_n (lv' := [(1, .int v1), (0, .ref (ad 0))]) hx hb dX10_encodeSeven_6 rfl hl (by decide) rfl (fun ls hl => ?_)
  refine lv_iload_n hx hb dX10_encodeSeven_7 rfl (lv_at hl 0 rfl) ?_
  obtain ⟨v2, σ3, hc, hf⟩ := bd_at hf
  refine callSI (As := [.int v1]) (rest := []) C (mX10_direct hI hc) ⟨gt5_4, gt5_5, gt1_11, gt5_6⟩ okX10_direct ⟨Nat.le_of_ble_eq_true rfl, Nat.le_of_ble_eq_true rfl⟩ rfl hl.1 rfl (Nat.le_of_ble_eq_true rfl) hP hS dX10_encodeSeven_8 (fun H locs hP hS => ?_)
  refine lv_if_eq (tgt := 36) hx hb dX10_encodeSeven_11 (by decide) (fun hc => ?_) (fun hc => ?_)
  · have hf := ite_t hf hc
    refine lv_aload_n hx hb dX10_encodeSeven_36 rfl (lv_at hl 1 rfl) ?_
    refine GX10_18 C hP gt4_21 dX10_encodeSeven_37 ?_
    refine lv_if_ne (tgt := 67) hx hb dX10_encodeSeven_40 (by decide) (fun hc => ?_) (fun hc => ?_)
    · have hf := ite_f hf hc
      exact B67 σ3 v1 _ _ _ hP hS (lv_sub hl [1, 0] rfl) hf
    · have hf := ite_t hf hc
      refine lv_aload_n hx hb dX10_encodeSeven_43 rfl (lv_at hl 1 rfl) ?_
      refine lv_bipush (v := 43) hx hb dX10_encodeSeven_44 (by decide) ?_
      obtain ⟨v15, σ16, hc, hf⟩ := bd_at hf
      refine callVV (As := [.int 43]) (rest := []) C (mX10_result hI hc) ⟨gt4_192, gt4_194, gtp32, gt1_11, gt4_195⟩ okX10_result ⟨Nat.le_of_ble_eq_true rfl, Nat.le_of_ble_eq_true rfl⟩ (rcvOf C hP (show (wM ad cI _)[0]? = some (ad 0, _) from rfl) rfl) rfl hl.1 rfl (Nat.le_of_ble_eq_true rfl) hP hS dX10_encodeSeven_46 (fun H locs hP hS => ?_)
      refine lv_iload_n hx hb dX10_encodeSeven_49 rfl (lv_at hl 0 rfl) ?_
      refine lv_bipush (v := 43) hx hb dX10_encodeSeven_50 (by decide) ?_
      refine lv_icmp_ne (tgt := 67) hx hb dX10_encodeSeven_52 (by decide) (fun hc => ?_) (fun hc => ?_)
      · have hf := ite_f hf hc
        exact B67 σ16 v1 _ _ _ hP hS (lv_sub hl [1, 0] rfl) hf
      · have hf := ite_t hf hc
        refine lv_aload_n hx hb dX10_encodeSeven_55 rfl (lv_at hl 1 rfl) ?_
        refine lv_bipush (v := 45) hx hb dX10_encodeSeven_56 (by decide) ?_
        obtain ⟨v17, σ18, hc, hf⟩ := bd_at hf
        refine callVV (As := [.int 45]) (rest := []) C (mX10_result hI hc) ⟨gt4_192, gt4_194, gtp32, gt1_11, gt4_195⟩ okX10_result ⟨Nat.le_of_ble_eq_true rfl, Nat.le_of_ble_eq_true rfl⟩ (rcvOf C hP (show (wM ad cI _)[0]? = some (ad 0, _) from rfl) rfl) rfl hl.1 rfl (Nat.le_of_ble_eq_true rfl) hP hS dX10_encodeSeven_58 (fun H locs hP hS => ?_)
        refine lv_aload_n hx hb dX10_encodeSeven_61 rfl (lv_at hl 1 rfl) ?_
        refine lv_iconst (v := 1) hx hb dX10_encodeSeven_62 (by decide) ?_
        obtain ⟨v19, σ20, hc, hf⟩ := bd_at hf
        refine callVI (As := [.int 1]) (rest := []) C (mX10_step hI hc) ⟨gt4_196, gt4_198, gtp33, gt1_11, gt4_199⟩ okX10_step ⟨Nat.le_of_ble_eq_true rfl, Nat.le_of_ble_eq_true rfl⟩ (rcvOf C hP (show (wM ad cI _)[0]? = some (ad 0, _) from rfl) rfl) rfl hl.1 rfl (Nat.le_of_ble_eq_true rfl) hP hS dX10_encodeSeven_63 (fun H locs hP hS => ?_)
        exact MI.ret (wf := wM ad cI) hQ C hr hlk rfl hf hP hS dX10_encodeSeven_66
  · have hf := ite_f hf hc
    refine lv_aload_n hx hb dX10_encodeSeven_14 rfl (lv_at hl 1 rfl) ?_
    refine GX10_18 C hP gt4_21 dX10_encodeSeven_15 ?_
    refine lv_if_eq (tgt := 25) hx hb dX10_encodeSeven_18 (by decide) (fun hc => ?_) (fun hc => ?_)
    · have hf := ite_t hf hc
      refine lv_aload_n hx hb dX10_encodeSeven_25 rfl (lv_at hl 1 rfl) ?_
      refine lv_iload_n hx hb dX10_encodeSeven_26 rfl (lv_at hl 0 rfl) ?_
      obtain ⟨v21, σ22, hc, hf⟩ := bd_at hf
      refine callVV (As := [.int v1]) (rest := []) C (mX10_result hI hc) ⟨gt4_192, gt4_194, gtp32, gt1_11, gt4_195⟩ okX10_result ⟨Nat.le_of_ble_eq_true rfl, Nat.le_of_ble_eq_true rfl⟩ (rcvOf C hP (show (wM ad cI _)[0]? = some (ad 0, _) from rfl) rfl) rfl hl.1 rfl (Nat.le_of_ble_eq_true rfl) hP hS dX10_encodeSeven_27 (fun H locs hP hS => ?_)
      refine lv_aload_n hx hb dX10_encodeSeven_30 rfl (lv_at hl 1 rfl) ?_
      refine lv_iconst (v := 1) hx hb dX10_encodeSeven_31 (by decide) ?_
      obtain ⟨v23, σ24, hc, hf⟩ := bd_at hf
      refine callVI (As := [.int 1]) (rest := []) C (mX10_step hI hc) ⟨gt4_196, gt4_198, gtp33, gt1_11, gt4_199⟩ okX10_step ⟨Nat.le_of_ble_eq_true rfl, Nat.le_of_ble_eq_true rfl⟩ (rcvOf C hP (show (wM ad cI _)[0]? = some (ad 0, _) from rfl) rfl) rfl hl.1 rfl (Nat.le_of_ble_eq_true rfl) hP hS dX10_encodeSeven_32 (fun H locs hP hS => ?_)
      exact MI.ret (wf := wM ad cI) hQ C hr hlk rfl hf hP hS dX10_encodeSeven_35
    · have hf := ite_f hf hc
      refine lv_aload_n hx hb dX10_encodeSeven_21 rfl (lv_at hl 1 rfl) ?_
      obtain ⟨v25, σ26, hc, hf⟩ := bd_at hf
      refine callVV (As := []) (rest := []) C (mX10_unshift hI hc) ⟨gt5_7, gt5_9, gtp44, gt1_11, gt5_10⟩ okX10_unshift ⟨Nat.le_of_ble_eq_true rfl, Nat.le_of_ble_eq_true rfl⟩ (rcvOf C hP (show (wM ad cI _)[0]? = some (ad 0, _) from rfl) rfl) rfl hl.1 rfl (Nat.le_of_ble_eq_true rfl) hP hS dX10_encodeSeven_22 (fun H locs hP hS => ?_)
      refine lv_aload_n hx hb dX10_encodeSeven_25 rfl (lv_at hl 1 rfl) ?_
      refine lv_iload_n hx hb dX10_encodeSeven_26 rfl (lv_at hl 0 rfl) ?_
      obtain ⟨v27, σ28, hc, hf⟩ := bd_at hf
      refine callVV (As := [.int v1]) (rest := []) C (mX10_result hI hc) ⟨gt4_192, gt4_194, gtp32, gt1_11, gt4_195⟩ okX10_result ⟨Nat.le_of_ble_eq_true rfl, Nat.le_of_ble_eq_true rfl⟩ (rcvOf C hP (show (wM ad cI _)[0]? = some (ad 0, _) from rfl) rfl) rfl hl.1 rfl (Nat.le_of_ble_eq_true rfl) hP hS dX10_encodeSeven_27 (fun H locs hP hS => ?_)
      refine lv_aload_n hx hb dX10_encodeSeven_30 rfl (lv_at hl 1 rfl) ?_
      refine lv_iconst (v := 1) hx hb dX10_encodeSeven_31 (by decide) ?_
      obtain ⟨v29, σ30, hc, hf⟩ := bd_at hf
      refine callVI (As := [.int 1]) (rest := []) C (mX10_step hI hc) ⟨gt4_196, gt4_198, gtp33, gt1_11, gt4_199⟩ okX10_step ⟨Nat.le_of_ble_eq_true rfl, Nat.le_of_ble_eq_true rfl⟩ (rcvOf C hP (show (wM ad cI _)[0]? = some (ad 0, _) from rfl) rfl) rfl hl.1 rfl (Nat.le_of_ble_eq_true rfl) hP hS dX10_encodeSeven_32 (fun H locs hP hS => ?_)
      exact MI.ret (wf := wM ad cI) hQ C hr hlk rfl hf hP hS dX10_encodeSeven_35
def fX10_character_b15 (σ : St) (x1 : Int32) : Option (Int32 × St) := ld (σ 2) 24 x1 (fun v1 => ld (σ 2) 24 (x1 + 1) (fun v2 => some (v1 + (256 * v2), σ)))
def fX10_character (σ : St) (p1 : Int32) : Option (Int32 × St) := (if (σ 0 1) = 4 then fX10_character_b15 σ p1 else (if (σ 0 17) = 0 then ld (σ 2) 24 p1 (fun v3 => ld (σ 2) 24 (p1 + 1) (fun v4 => some ((256 * v3) + v4, σ))) else fX10_character_b15 σ p1))
set_option maxHeartbeats 4000000 in
set_option maxRecDepth 100000 in
theorem mX10_character {l : Launch} {D : va_G} {kS vS : Nat → Nat} {ad : Nat → Nat} {cI cF : ClassId} {σ σ0 : St} {p1 : Int32} {r : Int32} (hI : Inj ad 5) (hf : fX10_character σ p1 = some (r, σ0)) : MI l D (tyC cI cF) (inA ad 5) kS vS yX10_character cX10_character 2 .int 0 0 [.ref (ad 0), .int p1] (wM ad cI σ) (wM ad cI σ0) r := by
  refine MI.of (by decide) (Nat.le_of_ble_eq_true rfl) (fun p e s m args below meth c ls Q hQ C hr hlk hP hS hl => ?_)
  obtain ⟨hx, hb, hml, hown, hts, hK, hKS⟩ := id C
  have hl : lv_has ls 2 [(0, .ref (ad 0)), (1, .int p1)] := hl
  have B15 : ∀ (σ : St) (x1 : Int32) (H : Heap) (locs : List Loc) (ls : Array Slot), va_P D vwCl (wM ad cI σ) H → va_S (inA ad 5) s.heap H locs → lv_has ls 2 [(0, .ref (ad 0)), (1, .int x1)] → fX10_character_b15 σ x1 = some (r, σ0) → W p l e (rmN 0 0) s m args below meth c H locs 0 0 Q (F0 m 15 ls []) := by
    intro σ x1 H locs ls hP hS hl hf
    unfold fX10_character_b15 at hf
    refine lv_aload_n hx hb dX10_character_15 rfl (lv_at hl 0 rfl) ?_
    refine GX10_8 C hP gt4_11 dX10_character_16 ?_
    refine lv_iload_n hx hb dX10_character_19 rfl (lv_at hl 1 rfl) ?_
    obtain ⟨hin, hf⟩ := ld_at hf
    refine aload C hP 2 rfl rfl hin dX10_character_20 (fun v1 ev1 => ?_)
    have hf := hf v1 ev1
    refine lv_sipush (v := 256) hx hb dX10_character_21 (by decide) ?_
    refine lv_aload_n hx hb dX10_character_24 rfl (lv_at hl 0 rfl) ?_
    refine GX10_8 C hP gt4_11 dX10_character_25 ?_
    refine lv_iload_n hx hb dX10_character_28 rfl (lv_at hl 1 rfl) ?_
    refine lv_iconst (v := 1) hx hb dX10_character_29 (by decide) ?_
    refine lv_iadd hx hb dX10_character_30 ?_
    obtain ⟨hin, hf⟩ := ld_at hf
    refine aload C hP 2 rfl rfl hin dX10_character_31 (fun v2 ev2 => ?_)
    have hf := hf v2 ev2
    refine lv_imul hx hb dX10_character_32 ?_
    refine lv_iadd hx hb dX10_character_33 ?_
    refine lv_goto (tgt := 56) hx hb dX10_character_34 (by decide) ?_
    exact MI.ret (wf := wM ad cI) hQ C hr hlk rfl hf hP hS dX10_character_56
  unfold fX10_character at hf
  refine lv_aload_n hx hb dX10_character_0 rfl (lv_at hl 0 rfl) ?_
  refine GX10_1 C hP gt4_4 dX10_character_1 ?_
  refine lv_iconst (v := 4) hx hb dX10_character_4 (by decide) ?_
  refine lv_icmp_eq (tgt := 15) hx hb dX10_character_5 (by decide) (fun hc => ?_) (fun hc => ?_)
  · have hf := ite_t hf hc
    exact B15 σ p1 _ _ _ hP hS (lv_sub hl [0, 1] rfl) hf
  · have hf := ite_f hf hc
    refine lv_aload_n hx hb dX10_character_8 rfl (lv_at hl 0 rfl) ?_
    refine GX10_17 C hP gt4_20 dX10_character_9 ?_
    refine lv_if_eq (tgt := 37) hx hb dX10_character_12 (by decide) (fun hc => ?_) (fun hc => ?_)
    · have hf := ite_t hf hc
      refine lv_sipush (v := 256) hx hb dX10_character_37 (by decide) ?_
      refine lv_aload_n hx hb dX10_character_40 rfl (lv_at hl 0 rfl) ?_
      refine GX10_8 C hP gt4_11 dX10_character_41 ?_
      refine lv_iload_n hx hb dX10_character_44 rfl (lv_at hl 1 rfl) ?_
      obtain ⟨hin, hf⟩ := ld_at hf
      refine aload C hP 2 rfl rfl hin dX10_character_45 (fun v3 ev3 => ?_)
      have hf := hf v3 ev3
      refine lv_imul hx hb dX10_character_46 ?_
      refine lv_aload_n hx hb dX10_character_47 rfl (lv_at hl 0 rfl) ?_
      refine GX10_8 C hP gt4_11 dX10_character_48 ?_
      refine lv_iload_n hx hb dX10_character_51 rfl (lv_at hl 1 rfl) ?_
      refine lv_iconst (v := 1) hx hb dX10_character_52 (by decide) ?_
      refine lv_iadd hx hb dX10_character_53 ?_
      obtain ⟨hin, hf⟩ := ld_at hf
      refine aload C hP 2 rfl rfl hin dX10_character_54 (fun v4 ev4 => ?_)
      have hf := hf v4 ev4
      refine lv_iadd hx hb dX10_character_55 ?_
      exact MI.ret (wf := wM ad cI) hQ C hr hlk rfl hf hP hS dX10_character_56
    · have hf := ite_f hf hc
      exact B15 σ p1 _ _ _ hP hS (lv_sub hl [0, 1] rfl) hf
def fX10_decodeSixteen_b95 (σ : St) : Option (Int32 × St) := bd (fX10_character σ 0) (fun v1 σ2 => bd (fX10_low σ2 v1) (fun v3 σ4 => (if v3 = 0 then bd (fX10_high σ4 v1) (fun v5 σ6 => (if v5 = 0 then bd (fX10_result σ6 v1) (fun _ σ20 => bd (fX10_step σ20 2) (fun v21 σ22 => some (v21, σ22))) else (if 4 ≤ (σ6 0 9) then bd (fX10_character σ6 2) (fun v7 σ8 => bd (fX10_low σ8 v7) (fun v9 σ10 => (if v9 = 0 then bd (fX10_fault σ10 2 2) (fun v17 σ18 => some (v17, σ18)) else bd (fX10_result σ10 v1) (fun _ σ12 => bd (fX10_result σ12 v7) (fun _ σ14 => bd (fX10_step σ14 4) (fun v15 σ16 => some (v15, σ16))))))) else some (1, σ6)))) else bd (fX10_fault σ4 2 2) (fun v23 σ24 => some (v23, σ24)))))
def fX10_decodeSixteen_b68 (σ : St) : Option (Int32 × St) := ld (σ 2) 24 0 (fun v28 => (if v28 = 255 then nm (up σ 0 31 1) (fun σ32 => bd (fX10_step σ32 2) (fun v33 σ34 => some (v33, σ34))) else nm (up σ 0 31 0) (fun σ29 => bd (fX10_step σ29 2) (fun v30 σ31 => some (v30, σ31)))))
def fX10_decodeSixteen (σ : St) : Option (Int32 × St) := (if (σ 0 9) = 1 then some (1, σ) else (if (σ 0 1) = 2 then (if (σ 0 15) = 0 then ld (σ 2) 24 0 (fun v25 => ld (σ 2) 24 1 (fun v26 => (if (v25 + v26) = 509 then ld (σ 2) 24 0 (fun v27 => (if v27 = 254 then fX10_decodeSixteen_b68 σ else ld (σ 2) 24 0 (fun v35 => (if v35 = 255 then fX10_decodeSixteen_b68 σ else fX10_decodeSixteen_b95 σ)))) else fX10_decodeSixteen_b95 σ))) else fX10_decodeSixteen_b95 σ) else fX10_decodeSixteen_b95 σ))
set_option maxHeartbeats 4000000 in
set_option maxRecDepth 100000 in
theorem mX10_decodeSixteen {l : Launch} {D : va_G} {kS vS : Nat → Nat} {ad : Nat → Nat} {cI cF : ClassId} {σ σ0 : St} {r : Int32} (hI : Inj ad 5) (hf : fX10_decodeSixteen σ  = some (r, σ0)) : MI l D (tyC cI cF) (inA ad 5) kS vS yX10_decodeSixteen cX10_decodeSixteen 3 .int 1 22 [.ref (ad 0)] (wM ad cI σ) (wM ad cI σ0) r := by
  refine MI.of (by decide) (Nat.le_of_ble_eq_true rfl) (fun p e s m args below meth c ls Q hQ C hr hlk hP hS hl => ?_)
  obtain ⟨hx, hb, hml, hown, hts, hK, hKS⟩ := id C
  have hl : lv_has ls 3 [(0, .ref (ad 0))] := hl
  have B95 : ∀ (σ : St) (H : Heap) (locs : List Loc) (ls : Array Slot), va_P D vwCl (wM ad cI σ) H → va_S (inA ad 5) s.heap H locs → lv_has ls 3 [(0, .ref (ad 0))] → fX10_decodeSixteen_b95 σ = some (r, σ0) → W p l e (rmN 1 22) s m args below meth c H locs 0 0 Q (F0 m 95 ls []) := by
    intro σ H locs ls hP hS hl hf
    unfold fX10_decodeSixteen_b95 at hf
    refine lv_aload_n hx hb dX10_decodeSixteen_95 rfl (lv_at hl 0 rfl) ?_
    refine lv_iconst (v := 0) hx hb dX10_decodeSixteen_96 (by decide) ?_
    obtain ⟨v1, σ2, hc, hf⟩ := bd_at hf
    refine callVI (As := [.int 0]) (rest := []) C (mX10_character hI hc) ⟨gt4_236, gt4_238, gtp42, gt1_11, gt4_239⟩ okX10_character ⟨Nat.le_of_ble_eq_true rfl, Nat.le_of_ble_eq_true rfl⟩ (rcvOf C hP (show (wM ad cI _)[0]? = some (ad 0, _) from rfl) rfl) rfl hl.1 rfl (Nat.le_of_ble_eq_true rfl) hP hS dX10_decodeSixteen_97 (fun H locs hP hS => ?_)
    refine lv_istore_n (lv' := [(1, .int v1), (0, .ref (ad 0))]) hx hb dX10_decodeSixteen_100 rfl hl (by decide) rfl (fun ls hl => ?_)
    refine lv_iload_n hx hb dX10_decodeSixteen_101 rfl (lv_at hl 0 rfl) ?_
    obtain ⟨v3, σ4, hc, hf⟩ := bd_at hf
    refine callSI (As := [.int v1]) (rest := []) C (mX10_low hI hc) ⟨gt4_182, gt4_183, gt1_11, gt4_184⟩ okX10_low ⟨Nat.le_of_ble_eq_true rfl, Nat.le_of_ble_eq_true rfl⟩ rfl hl.1 rfl (Nat.le_of_ble_eq_true rfl) hP hS dX10_decodeSixteen_102 (fun H locs hP hS => ?_)
    refine lv_if_eq (tgt := 115) hx hb dX10_decodeSixteen_105 (by decide) (fun hc => ?_) (fun hc => ?_)
    · have hf := ite_t hf hc
      refine lv_iload_n hx hb dX10_decodeSixteen_115 rfl (lv_at hl 0 rfl) ?_
      obtain ⟨v5, σ6, hc, hf⟩ := bd_at hf
      refine callSI (As := [.int v1]) (rest := []) C (mX10_high hI hc) ⟨gt4_177, gt4_178, gt1_11, gt4_179⟩ okX10_high ⟨Nat.le_of_ble_eq_true rfl, Nat.le_of_ble_eq_true rfl⟩ rfl hl.1 rfl (Nat.le_of_ble_eq_true rfl) hP hS dX10_decodeSixteen_116 (fun H locs hP hS => ?_)
      refine lv_if_ne (tgt := 133) hx hb dX10_decodeSixteen_119 (by decide) (fun hc => ?_) (fun hc => ?_)
      · have hf := ite_f hf hc
        refine lv_aload_n hx hb dX10_decodeSixteen_133 rfl (lv_at hl 1 rfl) ?_
        refine GX10_9 C hP gt4_12 dX10_decodeSixteen_134 ?_
        refine lv_iconst (v := 4) hx hb dX10_decodeSixteen_137 (by decide) ?_
        refine lv_icmp_ge (tgt := 143) hx hb dX10_decodeSixteen_138 (by decide) (fun hc => ?_) (fun hc => ?_)
        · have hf := ite_t hf hc
          refine lv_aload_n hx hb dX10_decodeSixteen_143 rfl (lv_at hl 1 rfl) ?_
          refine lv_iconst (v := 2) hx hb dX10_decodeSixteen_144 (by decide) ?_
          obtain ⟨v7, σ8, hc, hf⟩ := bd_at hf
          refine callVI (As := [.int 2]) (rest := []) C (mX10_character hI hc) ⟨gt4_236, gt4_238, gtp42, gt1_11, gt4_239⟩ okX10_character ⟨Nat.le_of_ble_eq_true rfl, Nat.le_of_ble_eq_true rfl⟩ (rcvOf C hP (show (wM ad cI _)[0]? = some (ad 0, _) from rfl) rfl) rfl hl.1 rfl (Nat.le_of_ble_eq_true rfl) hP hS dX10_decodeSixteen_145 (fun H locs hP hS => ?_)
          refine lv_istore_n (lv' := [(2, .int v7), (1, .int v1), (0, .ref (ad 0))]) hx hb dX10_decodeSixteen_148 rfl hl (by decide) rfl (fun ls hl => ?_)
          refine lv_iload_n hx hb dX10_decodeSixteen_149 rfl (lv_at hl 0 rfl) ?_
          obtain ⟨v9, σ10, hc, hf⟩ := bd_at hf
          refine callSI (As := [.int v7]) (rest := []) C (mX10_low hI hc) ⟨gt4_182, gt4_183, gt1_11, gt4_184⟩ okX10_low ⟨Nat.le_of_ble_eq_true rfl, Nat.le_of_ble_eq_true rfl⟩ rfl hl.1 rfl (Nat.le_of_ble_eq_true rfl) hP hS dX10_decodeSixteen_150 (fun H locs hP hS => ?_)
          refine lv_if_ne (tgt := 163) hx hb dX10_decodeSixteen_153 (by decide) (fun hc => ?_) (fun hc => ?_)
          · have hf := ite_f hf hc
            refine lv_aload_n hx hb dX10_decodeSixteen_163 rfl (lv_at hl 2 rfl) ?_
            refine lv_iload_n hx hb dX10_decodeSixteen_164 rfl (lv_at hl 1 rfl) ?_
            obtain ⟨v11, σ12, hc, hf⟩ := bd_at hf
            refine callVV (As := [.int v1]) (rest := []) C (mX10_result hI hc) ⟨gt4_192, gt4_194, gtp32, gt1_11, gt4_195⟩ okX10_result ⟨Nat.le_of_ble_eq_true rfl, Nat.le_of_ble_eq_true rfl⟩ (rcvOf C hP (show (wM ad cI _)[0]? = some (ad 0, _) from rfl) rfl) rfl hl.1 rfl (Nat.le_of_ble_eq_true rfl) hP hS dX10_decodeSixteen_165 (fun H locs hP hS => ?_)
            refine lv_aload_n hx hb dX10_decodeSixteen_168 rfl (lv_at hl 2 rfl) ?_
            refine lv_iload_n hx hb dX10_decodeSixteen_169 rfl (lv_at hl 0 rfl) ?_
            obtain ⟨v13, σ14, hc, hf⟩ := bd_at hf
            refine callVV (As := [.int v7]) (rest := []) C (mX10_result hI hc) ⟨gt4_192, gt4_194, gtp32, gt1_11, gt4_195⟩ okX10_result ⟨Nat.le_of_ble_eq_true rfl, Nat.le_of_ble_eq_true rfl⟩ (rcvOf C hP (show (wM ad cI _)[0]? = some (ad 0, _) from rfl) rfl) rfl hl.1 rfl (Nat.le_of_ble_eq_true rfl) hP hS dX10_decodeSixteen_170 (fun H locs hP hS => ?_)
            refine lv_aload_n hx hb dX10_decodeSixteen_173 rfl (lv_at hl 2 rfl) ?_
            refine lv_iconst (v := 4) hx hb dX10_decodeSixteen_174 (by decide) ?_
            obtain ⟨v15, σ16, hc, hf⟩ := bd_at hf
            refine callVI (As := [.int 4]) (rest := []) C (mX10_step hI hc) ⟨gt4_196, gt4_198, gtp33, gt1_11, gt4_199⟩ okX10_step ⟨Nat.le_of_ble_eq_true rfl, Nat.le_of_ble_eq_true rfl⟩ (rcvOf C hP (show (wM ad cI _)[0]? = some (ad 0, _) from rfl) rfl) rfl hl.1 rfl (Nat.le_of_ble_eq_true rfl) hP hS dX10_decodeSixteen_175 (fun H locs hP hS => ?_)
            exact MI.ret (wf := wM ad cI) hQ C hr hlk rfl hf hP hS dX10_decodeSixteen_178
          · have hf := ite_t hf hc
            refine lv_aload_n hx hb dX10_decodeSixteen_156 rfl (lv_at hl 2 rfl) ?_
            refine lv_iconst (v := 2) hx hb dX10_decodeSixteen_157 (by decide) ?_
            refine lv_iconst (v := 2) hx hb dX10_decodeSixteen_158 (by decide) ?_
            obtain ⟨v17, σ18, hc, hf⟩ := bd_at hf
            refine callVI (As := [.int 2, .int 2]) (rest := []) C (mX10_fault hI hc) ⟨gt4_200, gt4_202, gtp34, gt1_11, gt4_203⟩ okX10_fault ⟨Nat.le_of_ble_eq_true rfl, Nat.le_of_ble_eq_true rfl⟩ (rcvOf C hP (show (wM ad cI _)[0]? = some (ad 0, _) from rfl) rfl) rfl hl.1 rfl (Nat.le_of_ble_eq_true rfl) hP hS dX10_decodeSixteen_159 (fun H locs hP hS => ?_)
            exact MI.ret (wf := wM ad cI) hQ C hr hlk rfl hf hP hS dX10_decodeSixteen_162
        · have hf := ite_f hf hc
          refine lv_iconst (v := 1) hx hb dX10_decodeSixteen_141 (by decide) ?_
          exact MI.ret (wf := wM ad cI) hQ C hr hlk rfl hf hP hS dX10_decodeSixteen_142
      · have hf := ite_t hf hc
        refine lv_aload_n hx hb dX10_decodeSixteen_122 rfl (lv_at hl 1 rfl) ?_
        refine lv_iload_n hx hb dX10_decodeSixteen_123 rfl (lv_at hl 0 rfl) ?_
        obtain ⟨v19, σ20, hc, hf⟩ := bd_at hf
        refine callVV (As := [.int v1]) (rest := []) C (mX10_result hI hc) ⟨gt4_192, gt4_194, gtp32, gt1_11, gt4_195⟩ okX10_result ⟨Nat.le_of_ble_eq_true rfl, Nat.le_of_ble_eq_true rfl⟩ (rcvOf C hP (show (wM ad cI _)[0]? = some (ad 0, _) from rfl) rfl) rfl hl.1 rfl (Nat.le_of_ble_eq_true rfl) hP hS dX10_decodeSixteen_124 (fun H locs hP hS => ?_)
        refine lv_aload_n hx hb dX10_decodeSixteen_127 rfl (lv_at hl 1 rfl) ?_
        refine lv_iconst (v := 2) hx hb dX10_decodeSixteen_128 (by decide) ?_
        obtain ⟨v21, σ22, hc, hf⟩ := bd_at hf
        refine callVI (As := [.int 2]) (rest := []) C (mX10_step hI hc) ⟨gt4_196, gt4_198, gtp33, gt1_11, gt4_199⟩ okX10_step ⟨Nat.le_of_ble_eq_true rfl, Nat.le_of_ble_eq_true rfl⟩ (rcvOf C hP (show (wM ad cI _)[0]? = some (ad 0, _) from rfl) rfl) rfl hl.1 rfl (Nat.le_of_ble_eq_true rfl) hP hS dX10_decodeSixteen_129 (fun H locs hP hS => ?_)
        exact MI.ret (wf := wM ad cI) hQ C hr hlk rfl hf hP hS dX10_decodeSixteen_132
    · have hf := ite_f hf hc
      refine lv_aload_n hx hb dX10_decodeSixteen_108 rfl (lv_at hl 1 rfl) ?_
      refine lv_iconst (v := 2) hx hb dX10_decodeSixteen_109 (by decide) ?_
      refine lv_iconst (v := 2) hx hb dX10_decodeSixteen_110 (by decide) ?_
      obtain ⟨v23, σ24, hc, hf⟩ := bd_at hf
      refine callVI (As := [.int 2, .int 2]) (rest := []) C (mX10_fault hI hc) ⟨gt4_200, gt4_202, gtp34, gt1_11, gt4_203⟩ okX10_fault ⟨Nat.le_of_ble_eq_true rfl, Nat.le_of_ble_eq_true rfl⟩ (rcvOf C hP (show (wM ad cI _)[0]? = some (ad 0, _) from rfl) rfl) rfl hl.1 rfl (Nat.le_of_ble_eq_true rfl) hP hS dX10_decodeSixteen_111 (fun H locs hP hS => ?_)
      exact MI.ret (wf := wM ad cI) hQ C hr hlk rfl hf hP hS dX10_decodeSixteen_114
  have B68 : ∀ (σ : St) (H : Heap) (locs : List Loc) (ls : Array Slot), va_P D vwCl (wM ad cI σ) H → va_S (inA ad 5) s.heap H locs → lv_has ls 3 [(0, .ref (ad 0))] → fX10_decodeSixteen_b68 σ = some (r, σ0) → W p l e (rmN 1 22) s m args below meth c H locs 0 0 Q (F0 m 68 ls []) := by
    intro σ H locs ls hP hS hl hf
    unfold fX10_decodeSixteen_b68 at hf
    refine lv_aload_n hx hb dX10_decodeSixteen_68 rfl (lv_at hl 0 rfl) ?_
    refine lv_aload_n hx hb dX10_decodeSixteen_69 rfl (lv_at hl 0 rfl) ?_
    refine GX10_8 C hP gt4_11 dX10_decodeSixteen_70 ?_
    refine lv_iconst (v := 0) hx hb dX10_decodeSixteen_73 (by decide) ?_
    obtain ⟨hin, hf⟩ := ld_at hf
    refine aload C hP 2 rfl rfl hin dX10_decodeSixteen_74 (fun v28 ev28 => ?_)
    have hf := hf v28 ev28
    refine lv_sipush (v := 255) hx hb dX10_decodeSixteen_75 (by decide) ?_
    refine lv_icmp_ne (tgt := 85) hx hb dX10_decodeSixteen_78 (by decide) (fun hc => ?_) (fun hc => ?_)
    · have hf := ite_f hf hc
      refine lv_iconst (v := 0) hx hb dX10_decodeSixteen_85 (by decide) ?_
      refine PX10_31 hI C hP hS gt4_34 rfl rfl dX10_decodeSixteen_86 (fun σ29 eσ29 H locs hP hS => ?_)
      have hf := nm_at hf σ29 eσ29
      refine lv_aload_n hx hb dX10_decodeSixteen_89 rfl (lv_at hl 0 rfl) ?_
      refine lv_iconst (v := 2) hx hb dX10_decodeSixteen_90 (by decide) ?_
      obtain ⟨v30, σ31, hc, hf⟩ := bd_at hf
      refine callVI (As := [.int 2]) (rest := []) C (mX10_step hI hc) ⟨gt4_196, gt4_198, gtp33, gt1_11, gt4_199⟩ okX10_step ⟨Nat.le_of_ble_eq_true rfl, Nat.le_of_ble_eq_true rfl⟩ (rcvOf C hP (show (wM ad cI _)[0]? = some (ad 0, _) from rfl) rfl) rfl hl.1 rfl (Nat.le_of_ble_eq_true rfl) hP hS dX10_decodeSixteen_91 (fun H locs hP hS => ?_)
      exact MI.ret (wf := wM ad cI) hQ C hr hlk rfl hf hP hS dX10_decodeSixteen_94
    · have hf := ite_t hf hc
      refine lv_iconst (v := 1) hx hb dX10_decodeSixteen_81 (by decide) ?_
      refine lv_goto (tgt := 86) hx hb dX10_decodeSixteen_82 (by decide) ?_
      refine PX10_31 hI C hP hS gt4_34 rfl rfl dX10_decodeSixteen_86 (fun σ32 eσ32 H locs hP hS => ?_)
      have hf := nm_at hf σ32 eσ32
      refine lv_aload_n hx hb dX10_decodeSixteen_89 rfl (lv_at hl 0 rfl) ?_
      refine lv_iconst (v := 2) hx hb dX10_decodeSixteen_90 (by decide) ?_
      obtain ⟨v33, σ34, hc, hf⟩ := bd_at hf
      refine callVI (As := [.int 2]) (rest := []) C (mX10_step hI hc) ⟨gt4_196, gt4_198, gtp33, gt1_11, gt4_199⟩ okX10_step ⟨Nat.le_of_ble_eq_true rfl, Nat.le_of_ble_eq_true rfl⟩ (rcvOf C hP (show (wM ad cI _)[0]? = some (ad 0, _) from rfl) rfl) rfl hl.1 rfl (Nat.le_of_ble_eq_true rfl) hP hS dX10_decodeSixteen_91 (fun H locs hP hS => ?_)
      exact MI.ret (wf := wM ad cI) hQ C hr hlk rfl hf hP hS dX10_decodeSixteen_94
  unfold fX10_decodeSixteen at hf
  refine lv_aload_n hx hb dX10_decodeSixteen_0 rfl (lv_at hl 0 rfl) ?_
  refine GX10_9 C hP gt4_12 dX10_decodeSixteen_1 ?_
  refine lv_iconst (v := 1) hx hb dX10_decodeSixteen_4 (by decide) ?_
  refine lv_icmp_ne (tgt := 10) hx hb dX10_decodeSixteen_5 (by decide) (fun hc => ?_) (fun hc => ?_)
  · have hf := ite_f hf hc
    refine lv_aload_n hx hb dX10_decodeSixteen_10 rfl (lv_at hl 0 rfl) ?_
    refine GX10_1 C hP gt4_4 dX10_decodeSixteen_11 ?_
    refine lv_iconst (v := 2) hx hb dX10_decodeSixteen_14 (by decide) ?_
    refine lv_icmp_ne (tgt := 95) hx hb dX10_decodeSixteen_15 (by decide) (fun hc => ?_) (fun hc => ?_)
    · have hf := ite_f hf hc
      exact B95 σ _ _ _ hP hS (lv_sub hl [0] rfl) hf
    · have hf := ite_t hf hc
      refine lv_aload_n hx hb dX10_decodeSixteen_18 rfl (lv_at hl 0 rfl) ?_
      refine GX10_15 C hP gt4_18 dX10_decodeSixteen_19 ?_
      refine lv_if_ne (tgt := 95) hx hb dX10_decodeSixteen_22 (by decide) (fun hc => ?_) (fun hc => ?_)
      · have hf := ite_f hf hc
        exact B95 σ _ _ _ hP hS (lv_sub hl [0] rfl) hf
      · have hf := ite_t hf hc
        refine lv_aload_n hx hb dX10_decodeSixteen_25 rfl (lv_at hl 0 rfl) ?_
        refine GX10_8 C hP gt4_11 dX10_decodeSixteen_26 ?_
        refine lv_iconst (v := 0) hx hb dX10_decodeSixteen_29 (by decide) ?_
        obtain ⟨hin, hf⟩ := ld_at hf
        refine aload C hP 2 rfl rfl hin dX10_decodeSixteen_30 (fun v25 ev25 => ?_)
        have hf := hf v25 ev25
        refine lv_aload_n hx hb dX10_decodeSixteen_31 rfl (lv_at hl 0 rfl) ?_
        refine GX10_8 C hP gt4_11 dX10_decodeSixteen_32 ?_
        refine lv_iconst (v := 1) hx hb dX10_decodeSixteen_35 (by decide) ?_
        obtain ⟨hin, hf⟩ := ld_at hf
        refine aload C hP 2 rfl rfl hin dX10_decodeSixteen_36 (fun v26 ev26 => ?_)
        have hf := hf v26 ev26
        refine lv_iadd hx hb dX10_decodeSixteen_37 ?_
        refine lv_sipush (v := 509) hx hb dX10_decodeSixteen_38 (by decide) ?_
        refine lv_icmp_ne (tgt := 95) hx hb dX10_decodeSixteen_41 (by decide) (fun hc => ?_) (fun hc => ?_)
        · have hf := ite_f hf hc
          exact B95 σ _ _ _ hP hS (lv_sub hl [0] rfl) hf
        · have hf := ite_t hf hc
          refine lv_aload_n hx hb dX10_decodeSixteen_44 rfl (lv_at hl 0 rfl) ?_
          refine GX10_8 C hP gt4_11 dX10_decodeSixteen_45 ?_
          refine lv_iconst (v := 0) hx hb dX10_decodeSixteen_48 (by decide) ?_
          obtain ⟨hin, hf⟩ := ld_at hf
          refine aload C hP 2 rfl rfl hin dX10_decodeSixteen_49 (fun v27 ev27 => ?_)
          have hf := hf v27 ev27
          refine lv_sipush (v := 254) hx hb dX10_decodeSixteen_50 (by decide) ?_
          refine lv_icmp_eq (tgt := 68) hx hb dX10_decodeSixteen_53 (by decide) (fun hc => ?_) (fun hc => ?_)
          · have hf := ite_t hf hc
            exact B68 σ _ _ _ hP hS (lv_sub hl [0] rfl) hf
          · have hf := ite_f hf hc
            refine lv_aload_n hx hb dX10_decodeSixteen_56 rfl (lv_at hl 0 rfl) ?_
            refine GX10_8 C hP gt4_11 dX10_decodeSixteen_57 ?_
            refine lv_iconst (v := 0) hx hb dX10_decodeSixteen_60 (by decide) ?_
            obtain ⟨hin, hf⟩ := ld_at hf
            refine aload C hP 2 rfl rfl hin dX10_decodeSixteen_61 (fun v35 ev35 => ?_)
            have hf := hf v35 ev35
            refine lv_sipush (v := 255) hx hb dX10_decodeSixteen_62 (by decide) ?_
            refine lv_icmp_ne (tgt := 95) hx hb dX10_decodeSixteen_65 (by decide) (fun hc => ?_) (fun hc => ?_)
            · have hf := ite_f hf hc
              exact B95 σ _ _ _ hP hS (lv_sub hl [0] rfl) hf
            · have hf := ite_t hf hc
              exact B68 σ _ _ _ hP hS (lv_sub hl [0] rfl) hf
  · have hf := ite_t hf hc
    refine lv_iconst (v := 1) hx hb dX10_decodeSixteen_8 (by decide) ?_
    exact MI.ret (wf := wM ad cI) hQ C hr hlk rfl hf hP hS dX10_decodeSixteen_9
