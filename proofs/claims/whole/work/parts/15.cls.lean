def fX9_makeMoves_b2 : Nat → St → Int32 → Int32 → Option (Int32 × St)
  | 0, _, _, _ => none
  | n + 1, σ, x1, x2 => (if 26 ≤ x2 then some (0, σ) else bd (fX9_look σ) (fun _ σ2 => (if (σ2 8 1) = 0 then (if x1 = 0 then some (0, σ2) else bd (fX5_count 4 σ2) (fun v9 σ10 => (if v9 = 0 then some (0, σ10) else bd (fX5_count 4 σ10) (fun v11 σ12 => bd (fX1_setBad σ12 v11) (fun _ σ14 => (if (σ14 8 1) = 1 then bd (fX9_makeStep σ14) (fun v18 σ19 => (if v18 = (-2) then nm (x2 + 1) (fun v20 => fX9_makeMoves_b2 n σ19 x1 v20) else some (v18, σ19))) else bd (fX9_meetFault σ14) (fun v15 σ16 => (if v15 = (-2) then nm (x2 + 1) (fun v17 => fX9_makeMoves_b2 n σ16 x1 v17) else some (v15, σ16))))))))) else (if (σ2 8 1) = 1 then bd (fX9_makeStep σ2) (fun v6 σ7 => (if v6 = (-2) then nm (x2 + 1) (fun v8 => fX9_makeMoves_b2 n σ7 x1 v8) else some (v6, σ7))) else bd (fX9_meetFault σ2) (fun v3 σ4 => (if v3 = (-2) then nm (x2 + 1) (fun v5 => fX9_makeMoves_b2 n σ4 x1 v5) else some (v3, σ4)))))))
def fX9_makeMoves (σ : St) (p1 : Int32) : Option (Int32 × St) := fX9_makeMoves_b2 200 σ p1 0
set_option maxHeartbeats 4000000 in
set_option maxRecDepth 100000 in
theorem mX9_makeMoves {l : Launch} {D : va_G} {kS vS : Nat → Nat} {ad : Nat → Nat} {cI cF : ClassId} {σ σ0 : St} {p1 : Int32} {r : Int32} (hI : Inj ad 18) (hf : fX9_makeMoves σ p1 = some (r, σ0)) : MI l D (tyC cI cF) (inA ad 18) kS vS yX9_makeMoves cX9_makeMoves 4 .int 8 175 [.ref (ad 0), .int p1] (wC ad cI cF σ) (wC ad cI cF σ0) r := by
  refine MI.of (by decide) (Nat.le_of_ble_eq_true rfl) (fun p e s m args below meth c ls Q hQ C hr hlk hP hS hl => ?_)
  obtain ⟨hx, hb, hml, hown, hts, hK, hKS⟩ := id C
  have hl : lv_has ls 4 [(0, .ref (ad 0)), (1, .int p1)] := hl
  have B2 : ∀ n : Nat, ∀ (σ : St) (x1 x2 : Int32) (H : Heap) (locs : List Loc) (ls : Array Slot), va_P D vwCl (wC ad cI cF σ) H → va_S (inA ad 18) s.heap H locs → lv_has ls 4 [(0, .ref (ad 0)), (1, .int x1), (2, .int x2)] → fX9_makeMoves_b2 n σ x1 x2 = some (r, σ0) → W p l e (rmN 8 175) s m args below meth c H locs 0 0 Q (F0 m 2 ls []) := by
    intro n
    induction n with
    | zero =>
      intro σ x1 x2 H locs ls hP hS hl hf
      exact nomatch (show (none : Option (Int32 × St)) = some (r, σ0) from hf)
    | succ n ih =>
      intro σ x1 x2 H locs ls hP hS hl hf
      rw [fX9_makeMoves_b2] at hf
      refine lv_iload_n hx hb dX9_makeMoves_2 rfl (lv_at hl 2 rfl) ?_
      refine lv_bipush (v := 26) hx hb dX9_makeMoves_3 (by decide) ?_
      refine lv_icmp_ge (tgt := 89) hx hb dX9_makeMoves_5 (by decide) (fun hc => ?_) (fun hc => ?_)
      · have hf := ite_t hf hc
        refine lv_iconst (v := 0) hx hb dX9_makeMoves_89 (by decide) ?_
        exact MI.ret (wf := wC ad cI cF) hQ C hr hlk rfl hf hP hS dX9_makeMoves_90
      · have hf := ite_f hf hc
        refine lv_aload_n hx hb dX9_makeMoves_8 rfl (lv_at hl 0 rfl) ?_
        obtain ⟨v1, σ2, hc, hf⟩ := bd_at hf
        refine callVV (As := []) (rest := []) C (mX9_look hI hc) ⟨gt2_20, gt2_22, gtp2, gt1_1, gt2_23⟩ okX9_look ⟨Nat.le_of_ble_eq_true rfl, Nat.le_of_ble_eq_true rfl⟩ (rcvOf C hP (show (wC ad cI cF _)[0]? = some (ad 0, _) from rfl) rfl) rfl hl.1 rfl (Nat.le_of_ble_eq_true rfl) hP hS dX9_makeMoves_9 (fun H locs hP hS => ?_)
        refine lv_aload_n hx hb dX9_makeMoves_12 rfl (lv_at hl 0 rfl) ?_
        refine GX9_4 C hP gt1_154 dX9_makeMoves_13 ?_
        refine GX1_1N C hP (by decide) dX9_makeMoves_16 ?_
        refine lv_if_ne (tgt := 52) hx hb dX9_makeMoves_19 (by decide) (fun hc => ?_) (fun hc => ?_)
        · have hf := ite_f hf hc
          refine lv_aload_n hx hb dX9_makeMoves_52 rfl (lv_at hl 0 rfl) ?_
          refine GX9_4 C hP gt1_154 dX9_makeMoves_53 ?_
          refine GX1_1N C hP (by decide) dX9_makeMoves_56 ?_
          refine lv_iconst (v := 1) hx hb dX9_makeMoves_59 (by decide) ?_
          refine lv_icmp_ne (tgt := 70) hx hb dX9_makeMoves_60 (by decide) (fun hc => ?_) (fun hc => ?_)
          · have hf := ite_f hf hc
            refine lv_aload_n hx hb dX9_makeMoves_70 rfl (lv_at hl 0 rfl) ?_
            obtain ⟨v3, σ4, hc, hf⟩ := bd_at hf
            refine callVI (As := []) (rest := []) C (mX9_meetFault hI hc) ⟨gt3_148, gt3_150, gtp23, gt1_1, gt3_151⟩ okX9_meetFault ⟨Nat.le_of_ble_eq_true rfl, Nat.le_of_ble_eq_true rfl⟩ (rcvOf C hP (show (wC ad cI cF _)[0]? = some (ad 0, _) from rfl) rfl) rfl hl.1 rfl (Nat.le_of_ble_eq_true rfl) hP hS dX9_makeMoves_71 (fun H locs hP hS => ?_)
            refine lv_istore_n (lv' := [(3, .int v3), (0, .ref (ad 0)), (1, .int x1), (2, .int x2)]) hx hb dX9_makeMoves_74 rfl hl (by decide) rfl (fun ls hl => ?_)
            refine lv_iload_n hx hb dX9_makeMoves_75 rfl (lv_at hl 0 rfl) ?_
            refine lv_bipush (v := (-2)) hx hb dX9_makeMoves_76 (by decide) ?_
            refine lv_icmp_eq (tgt := 83) hx hb dX9_makeMoves_78 (by decide) (fun hc => ?_) (fun hc => ?_)
            · have hf := ite_t hf hc
              obtain ⟨v5, ev5⟩ : ∃ y : Int32, y = x2 + 1 := ⟨_, rfl⟩
              have hf := nm_at hf v5 ev5
              refine lv_iinc (v := v5) (lv' := [(2, .int v5), (3, .int v3), (0, .ref (ad 0)), (1, .int x1)]) hx hb dX9_makeMoves_83 hl (k := 3) rfl (by rw [ev5]; rfl) (by decide) rfl (fun ls hl => ?_)
              refine lv_goto (tgt := 2) hx hb dX9_makeMoves_86 (by decide) ?_
              exact ih σ4 x1 v5 _ _ _ hP hS (lv_sub hl [2, 3, 0] rfl) hf
            · have hf := ite_f hf hc
              refine lv_iload_n hx hb dX9_makeMoves_81 rfl (lv_at hl 0 rfl) ?_
              exact MI.ret (wf := wC ad cI cF) hQ C hr hlk rfl hf hP hS dX9_makeMoves_82
          · have hf := ite_t hf hc
            refine lv_aload_n hx hb dX9_makeMoves_63 rfl (lv_at hl 0 rfl) ?_
            obtain ⟨v6, σ7, hc, hf⟩ := bd_at hf
            refine callVI (As := []) (rest := []) C (mX9_makeStep hI hc) ⟨gt3_107, gt3_109, gtp19, gt1_1, gt3_110⟩ okX9_makeStep ⟨Nat.le_of_ble_eq_true rfl, Nat.le_of_ble_eq_true rfl⟩ (rcvOf C hP (show (wC ad cI cF _)[0]? = some (ad 0, _) from rfl) rfl) rfl hl.1 rfl (Nat.le_of_ble_eq_true rfl) hP hS dX9_makeMoves_64 (fun H locs hP hS => ?_)
            refine lv_goto (tgt := 74) hx hb dX9_makeMoves_67 (by decide) ?_
            refine lv_istore_n (lv' := [(3, .int v6), (0, .ref (ad 0)), (1, .int x1), (2, .int x2)]) hx hb dX9_makeMoves_74 rfl hl (by decide) rfl (fun ls hl => ?_)
            refine lv_iload_n hx hb dX9_makeMoves_75 rfl (lv_at hl 0 rfl) ?_
            refine lv_bipush (v := (-2)) hx hb dX9_makeMoves_76 (by decide) ?_
            refine lv_icmp_eq (tgt := 83) hx hb dX9_makeMoves_78 (by decide) (fun hc => ?_) (fun hc => ?_)
            · have hf := ite_t hf hc
              obtain ⟨v8, ev8⟩ : ∃ y : Int32, y = x2 + 1 := ⟨_, rfl⟩
              have hf := nm_at hf v8 ev8
              refine lv_iinc (v := v8) (lv' := [(2, .int v8), (3, .int v6), (0, .ref (ad 0)), (1, .int x1)]) hx hb dX9_makeMoves_83 hl (k := 3) rfl (by rw [ev8]; rfl) (by decide) rfl (fun ls hl => ?_)
              refine lv_goto (tgt := 2) hx hb dX9_makeMoves_86 (by decide) ?_
              exact ih σ7 x1 v8 _ _ _ hP hS (lv_sub hl [2, 3, 0] rfl) hf
            · have hf := ite_f hf hc
              refine lv_iload_n hx hb dX9_makeMoves_81 rfl (lv_at hl 0 rfl) ?_
              exact MI.ret (wf := wC ad cI cF) hQ C hr hlk rfl hf hP hS dX9_makeMoves_82
        · have hf := ite_t hf hc
          refine lv_iload_n hx hb dX9_makeMoves_22 rfl (lv_at hl 1 rfl) ?_
          refine lv_if_eq (tgt := 36) hx hb dX9_makeMoves_23 (by decide) (fun hc => ?_) (fun hc => ?_)
          · have hf := ite_t hf hc
            refine lv_iconst (v := 0) hx hb dX9_makeMoves_36 (by decide) ?_
            exact MI.ret (wf := wC ad cI cF) hQ C hr hlk rfl hf hP hS dX9_makeMoves_37
          · have hf := ite_f hf hc
            refine lv_aload_n hx hb dX9_makeMoves_26 rfl (lv_at hl 0 rfl) ?_
            refine GX9_2 C hP gt1_152 dX9_makeMoves_27 ?_
            obtain ⟨v9, σ10, hc, hf⟩ := bd_at hf
            refine callVI (As := []) (rest := []) C (mX5_count (j := 4) hI (by decide) hc) ⟨gt2_0, gt2_1, gt2_2, gt1_5, gt2_3⟩ okX5_count ⟨Nat.le_of_ble_eq_true rfl, Nat.le_of_ble_eq_true rfl⟩ (rcvOf C hP (show (wC ad cI cF _)[4]? = some (ad 4, _) from rfl) rfl) rfl hl.1 rfl (Nat.le_of_ble_eq_true rfl) hP hS dX9_makeMoves_30 (fun H locs hP hS => ?_)
            refine lv_if_ne (tgt := 38) hx hb dX9_makeMoves_33 (by decide) (fun hc => ?_) (fun hc => ?_)
            · have hf := ite_f hf hc
              refine lv_aload_n hx hb dX9_makeMoves_38 rfl (lv_at hl 0 rfl) ?_
              refine GX9_4 C hP gt1_154 dX9_makeMoves_39 ?_
              refine lv_aload_n hx hb dX9_makeMoves_42 rfl (lv_at hl 0 rfl) ?_
              refine GX9_2 C hP gt1_152 dX9_makeMoves_43 ?_
              obtain ⟨v11, σ12, hc, hf⟩ := bd_at hf
              refine callVI (As := []) (rest := [.ref (ad 8)]) C (mX5_count (j := 4) hI (by decide) hc) ⟨gt2_0, gt2_1, gt2_2, gt1_5, gt2_3⟩ okX5_count ⟨Nat.le_of_ble_eq_true rfl, Nat.le_of_ble_eq_true rfl⟩ (rcvOf C hP (show (wC ad cI cF _)[4]? = some (ad 4, _) from rfl) rfl) rfl hl.1 rfl (Nat.le_of_ble_eq_true rfl) hP hS dX9_makeMoves_46 (fun H locs hP hS => ?_)
              obtain ⟨v13, σ14, hc, hf⟩ := bd_at hf
              refine callVV (As := [.int v11]) (rest := []) C (mX1_setBad hI hc) ⟨gt3_106, gt2_80, gt2_81, gt1_6, gt2_82⟩ okX1_setBad ⟨Nat.le_of_ble_eq_true rfl, Nat.le_of_ble_eq_true rfl⟩ (rcvOf C hP (show (wC ad cI cF _)[8]? = some (ad 8, _) from rfl) rfl) rfl hl.1 rfl (Nat.le_of_ble_eq_true rfl) hP hS dX9_makeMoves_49 (fun H locs hP hS => ?_)
              refine lv_aload_n hx hb dX9_makeMoves_52 rfl (lv_at hl 0 rfl) ?_
              refine GX9_4 C hP gt1_154 dX9_makeMoves_53 ?_
              refine GX1_1N C hP (by decide) dX9_makeMoves_56 ?_
              refine lv_iconst (v := 1) hx hb dX9_makeMoves_59 (by decide) ?_
              refine lv_icmp_ne (tgt := 70) hx hb dX9_makeMoves_60 (by decide) (fun hc => ?_) (fun hc => ?_)
              · have hf := ite_f hf hc
                refine lv_aload_n hx hb dX9_makeMoves_70 rfl (lv_at hl 0 rfl) ?_
                obtain ⟨v15, σ16, hc, hf⟩ := bd_at hf
                refine callVI (As := []) (rest := []) C (mX9_meetFault hI hc) ⟨gt3_148, gt3_150, gtp23, gt1_1, gt3_151⟩ okX9_meetFault ⟨Nat.le_of_ble_eq_true rfl, Nat.le_of_ble_eq_true rfl⟩ (rcvOf C hP (show (wC ad cI cF _)[0]? = some (ad 0, _) from rfl) rfl) rfl hl.1 rfl (Nat.le_of_ble_eq_true rfl) hP hS dX9_makeMoves_71 (fun H locs hP hS => ?_)
                refine lv_istore_n (lv' := [(3, .int v15), (0, .ref (ad 0)), (1, .int x1), (2, .int x2)]) hx hb dX9_makeMoves_74 rfl hl (by decide) rfl (fun ls hl => ?_)
                refine lv_iload_n hx hb dX9_makeMoves_75 rfl (lv_at hl 0 rfl) ?_
                refine lv_bipush (v := (-2)) hx hb dX9_makeMoves_76 (by decide) ?_
                refine lv_icmp_eq (tgt := 83) hx hb dX9_makeMoves_78 (by decide) (fun hc => ?_) (fun hc => ?_)
                · have hf := ite_t hf hc
                  obtain ⟨v17, ev17⟩ : ∃ y : Int32, y = x2 + 1 := ⟨_, rfl⟩
                  have hf := nm_at hf v17 ev17
                  refine lv_iinc (v := v17) (lv' := [(2, .int v17), (3, .int v15), (0, .ref (ad 0)), (1, .int x1)]) hx hb dX9_makeMoves_83 hl (k := 3) rfl (by rw [ev17]; rfl) (by decide) rfl (fun ls hl => ?_)
                  refine lv_goto (tgt := 2) hx hb dX9_makeMoves_86 (by decide) ?_
                  exact ih σ16 x1 v17 _ _ _ hP hS (lv_sub hl [2, 3, 0] rfl) hf
                · have hf := ite_f hf hc
                  refine lv_iload_n hx hb dX9_makeMoves_81 rfl (lv_at hl 0 rfl) ?_
                  exact MI.ret (wf := wC ad cI cF) hQ C hr hlk rfl hf hP hS dX9_makeMoves_82
              · have hf := ite_t hf hc
                refine lv_aload_n hx hb dX9_makeMoves_63 rfl (lv_at hl 0 rfl) ?_
                obtain ⟨v18, σ19, hc, hf⟩ := bd_at hf
                refine callVI (As := []) (rest := []) C (mX9_makeStep hI hc) ⟨gt3_107, gt3_109, gtp19, gt1_1, gt3_110⟩ okX9_makeStep ⟨Nat.le_of_ble_eq_true rfl, Nat.le_of_ble_eq_true rfl⟩ (rcvOf C hP (show (wC ad cI cF _)[0]? = some (ad 0, _) from rfl) rfl) rfl hl.1 rfl (Nat.le_of_ble_eq_true rfl) hP hS dX9_makeMoves_64 (fun H locs hP hS => ?_)
                refine lv_goto (tgt := 74) hx hb dX9_makeMoves_67 (by decide) ?_
                refine lv_istore_n (lv' := [(3, .int v18), (0, .ref (ad 0)), (1, .int x1), (2, .int x2)]) hx hb dX9_makeMoves_74 rfl hl (by decide) rfl (fun ls hl => ?_)
                refine lv_iload_n hx hb dX9_makeMoves_75 rfl (lv_at hl 0 rfl) ?_
                refine lv_bipush (v := (-2)) hx hb dX9_makeMoves_76 (by decide) ?_
                refine lv_icmp_eq (tgt := 83) hx hb dX9_makeMoves_78 (by decide) (fun hc => ?_) (fun hc => ?_)
                · have hf := ite_t hf hc
                  obtain ⟨v20, ev20⟩ : ∃ y : Int32, y = x2 + 1 := ⟨_, rfl⟩
                  have hf := nm_at hf v20 ev20
                  refine lv_iinc (v := v20) (lv' := [(2, .int v20), (3, .int v18), (0, .ref (ad 0)), (1, .int x1)]) hx hb dX9_makeMoves_83 hl (k := 3) rfl (by rw [ev20]; rfl) (by decide) rfl (fun ls hl => ?_)
                  refine lv_goto (tgt := 2) hx hb dX9_makeMoves_86 (by decide) ?_
                  exact ih σ19 x1 v20 _ _ _ hP hS (lv_sub hl [2, 3, 0] rfl) hf
                · have hf := ite_f hf hc
                  refine lv_iload_n hx hb dX9_makeMoves_81 rfl (lv_at hl 0 rfl) ?_
                  exact MI.ret (wf := wC ad cI cF) hQ C hr hlk rfl hf hP hS dX9_makeMoves_82
            · have hf := ite_t hf hc
              refine lv_iconst (v := 0) hx hb dX9_makeMoves_36 (by decide) ?_
              exact MI.ret (wf := wC ad cI cF) hQ C hr hlk rfl hf hP hS dX9_makeMoves_37
  unfold fX9_makeMoves at hf
  refine lv_iconst (v := 0) hx hb dX9_makeMoves_0 (by decide) ?_
  refine lv_istore_n (lv' := [(2, .int 0), (0, .ref (ad 0)), (1, .int p1)]) hx hb dX9_makeMoves_1 rfl hl (by decide) rfl (fun ls hl => ?_)
  exact B2 200 σ p1 0 _ _ _ hP hS (lv_sub hl [1, 2, 0] rfl) hf
def fX9_code_b40 (σ : St) (x1 y0 : Int32) : Option (Int32 × St) := nm (up σ 0 6 y0) (fun σ1 => nm (up σ1 0 14 0) (fun σ2 => bd (fX9_makeMoves σ2 x1) (fun v3 σ4 => some (v3, σ4))))
def fX9_code_b30 (σ : St) (x1 : Int32) : Option (Int32 × St) := (if x1 = 0 then fX9_code_b40 σ x1 1 else fX9_code_b40 σ x1 2)
def fX9_code (σ : St) (p1 : Int32) : Option (Int32 × St) := (if (σ 0 6) = (-1) then some ((-1), σ) else (if (σ 0 6) = 3 then some ((-1), σ) else (if (σ 0 6) = 2 then (if p1 = 0 then some ((-1), σ) else fX9_code_b30 σ p1) else fX9_code_b30 σ p1)))
set_option maxHeartbeats 4000000 in
set_option maxRecDepth 100000 in
theorem mX9_code {l : Launch} {D : va_G} {kS vS : Nat → Nat} {ad : Nat → Nat} {cI cF : ClassId} {σ σ0 : St} {p1 : Int32} {r : Int32} (hI : Inj ad 18) (hf : fX9_code σ p1 = some (r, σ0)) : MI l D (tyC cI cF) (inA ad 18) kS vS yX9_code cX9_code 2 .int 9 198 [.ref (ad 0), .int p1] (wC ad cI cF σ) (wC ad cI cF σ0) r := by
  refine MI.of (by decide) (Nat.le_of_ble_eq_true rfl) (fun p e s m args below meth c ls Q hQ C hr hlk hP hS hl => ?_)
  obtain ⟨hx, hb, hml, hown, hts, hK, hKS⟩ := id C
  have hl : lv_has ls 2 [(0, .ref (ad 0)), (1, .int p1)] := hl
  have B40 : ∀ (σ : St) (x1 y0 : Int32) (H : Heap) (locs : List Loc) (ls : Array Slot), va_P D vwCl (wC ad cI cF σ) H → va_S (inA ad 18) s.heap H locs → lv_has ls 2 [(0, .ref (ad 0)), (1, .int x1)] → fX9_code_b40 σ x1 y0 = some (r, σ0) → W p l e (rmN 9 198) s m args below meth c H locs 0 0 Q (F0 m 40 ls [.int y0, .ref (ad 0)]) := by
    intro σ x1 y0 H locs ls hP hS hl hf
    unfold fX9_code_b40 at hf
    refine PX9_6 hI C hP hS gt1_156 rfl rfl dX9_code_40 (fun σ1 eσ1 H locs hP hS => ?_)
    have hf := nm_at hf σ1 eσ1
    refine lv_aload_n hx hb dX9_code_43 rfl (lv_at hl 0 rfl) ?_
    refine lv_iconst (v := 0) hx hb dX9_code_44 (by decide) ?_
    refine PX9_14 hI C hP hS gt1_164 rfl rfl dX9_code_45 (fun σ2 eσ2 H locs hP hS => ?_)
    have hf := nm_at hf σ2 eσ2
    refine lv_aload_n hx hb dX9_code_48 rfl (lv_at hl 0 rfl) ?_
    refine lv_iload_n hx hb dX9_code_49 rfl (lv_at hl 1 rfl) ?_
    obtain ⟨v3, σ4, hc, hf⟩ := bd_at hf
    refine callVI (As := [.int x1]) (rest := []) C (mX9_makeMoves hI hc) ⟨gt2_16, gt2_18, gtp1, gt1_1, gt2_19⟩ okX9_makeMoves ⟨Nat.le_of_ble_eq_true rfl, Nat.le_of_ble_eq_true rfl⟩ (rcvOf C hP (show (wC ad cI cF _)[0]? = some (ad 0, _) from rfl) rfl) rfl hl.1 rfl (Nat.le_of_ble_eq_true rfl) hP hS dX9_code_50 (fun H locs hP hS => ?_)
    exact MI.ret (wf := wC ad cI cF) hQ C hr hlk rfl hf hP hS dX9_code_53
  have B30 : ∀ (σ : St) (x1 : Int32) (H : Heap) (locs : List Loc) (ls : Array Slot), va_P D vwCl (wC ad cI cF σ) H → va_S (inA ad 18) s.heap H locs → lv_has ls 2 [(0, .ref (ad 0)), (1, .int x1)] → fX9_code_b30 σ x1 = some (r, σ0) → W p l e (rmN 9 198) s m args below meth c H locs 0 0 Q (F0 m 30 ls []) := by
    intro σ x1 H locs ls hP hS hl hf
    unfold fX9_code_b30 at hf
    refine lv_aload_n hx hb dX9_code_30 rfl (lv_at hl 0 rfl) ?_
    refine lv_iload_n hx hb dX9_code_31 rfl (lv_at hl 1 rfl) ?_
    refine lv_if_eq (tgt := 39) hx hb dX9_code_32 (by decide) (fun hc => ?_) (fun hc => ?_)
    · have hf := ite_t hf hc
      refine lv_iconst (v := 1) hx hb dX9_code_39 (by decide) ?_
      exact B40 σ x1 1 _ _ _ hP hS (lv_sub hl [0, 1] rfl) hf
    · have hf := ite_f hf hc
      refine lv_iconst (v := 2) hx hb dX9_code_35 (by decide) ?_
      refine lv_goto (tgt := 40) hx hb dX9_code_36 (by decide) ?_
      exact B40 σ x1 2 _ _ _ hP hS (lv_sub hl [0, 1] rfl) hf
  unfold fX9_code at hf
  refine lv_aload_n hx hb dX9_code_0 rfl (lv_at hl 0 rfl) ?_
  refine GX9_6 C hP gt1_156 dX9_code_1 ?_
  refine lv_iconst (v := (-1)) hx hb dX9_code_4 (by decide) ?_
  refine lv_icmp_eq (tgt := 28) hx hb dX9_code_5 (by decide) (fun hc => ?_) (fun hc => ?_)
  · have hf := ite_t hf hc
    refine lv_iconst (v := (-1)) hx hb dX9_code_28 (by decide) ?_
    exact MI.ret (wf := wC ad cI cF) hQ C hr hlk rfl hf hP hS dX9_code_29
  · have hf := ite_f hf hc
    refine lv_aload_n hx hb dX9_code_8 rfl (lv_at hl 0 rfl) ?_
    refine GX9_6 C hP gt1_156 dX9_code_9 ?_
    refine lv_iconst (v := 3) hx hb dX9_code_12 (by decide) ?_
    refine lv_icmp_eq (tgt := 28) hx hb dX9_code_13 (by decide) (fun hc => ?_) (fun hc => ?_)
    · have hf := ite_t hf hc
      refine lv_iconst (v := (-1)) hx hb dX9_code_28 (by decide) ?_
      exact MI.ret (wf := wC ad cI cF) hQ C hr hlk rfl hf hP hS dX9_code_29
    · have hf := ite_f hf hc
      refine lv_aload_n hx hb dX9_code_16 rfl (lv_at hl 0 rfl) ?_
      refine GX9_6 C hP gt1_156 dX9_code_17 ?_
      refine lv_iconst (v := 2) hx hb dX9_code_20 (by decide) ?_
      refine lv_icmp_ne (tgt := 30) hx hb dX9_code_21 (by decide) (fun hc => ?_) (fun hc => ?_)
      · have hf := ite_f hf hc
        exact B30 σ p1 _ _ _ hP hS (lv_sub hl [0, 1] rfl) hf
      · have hf := ite_t hf hc
        refine lv_iload_n hx hb dX9_code_24 rfl (lv_at hl 1 rfl) ?_
        refine lv_if_ne (tgt := 30) hx hb dX9_code_25 (by decide) (fun hc => ?_) (fun hc => ?_)
        · have hf := ite_f hf hc
          exact B30 σ p1 _ _ _ hP hS (lv_sub hl [0, 1] rfl) hf
        · have hf := ite_t hf hc
          refine lv_iconst (v := (-1)) hx hb dX9_code_28 (by decide) ?_
          exact MI.ret (wf := wC ad cI cF) hQ C hr hlk rfl hf hP hS dX9_code_29
def fX0_finish (σ : St) : Option (Int32 × St) := some (0, σ)
set_option maxHeartbeats 4000000 in
set_option maxRecDepth 100000 in
theorem mX0_finish {l : Launch} {D : va_G} {kS vS : Nat → Nat} {ad : Nat → Nat} {cI cF : ClassId} {a : Nat} {σ σ0 : St} {r : Int32} (hI : Inj ad 18) (hf : fX0_finish σ  = some (r, σ0)) : MI l D (tyC cI cF) (inA ad 18) kS vS yX0_finish cX0_finish 2 .boolean 0 0 [.ref a, .ref (ad 8)] (wC ad cI cF σ) (wC ad cI cF σ0) r := by
  refine MI.of (by decide) (Nat.le_of_ble_eq_true rfl) (fun p e s m args below meth c ls Q hQ C hr hlk hP hS hl => ?_)
  obtain ⟨hx, hb, hml, hown, hts, hK, hKS⟩ := id C
  have hl : lv_has ls 2 [(0, .ref a), (1, .ref (ad 8))] := hl
  unfold fX0_finish at hf
  refine lv_iconst (v := 0) hx hb dX0_finish_0 (by decide) ?_
  exact MI.ret (wf := wC ad cI cF) hQ C hr hlk rfl hf hP hS dX0_finish_1
def fX7_finish (σ : St) : Option (Int32 × St) := (if (σ 16 0) = 0 then some (0, σ) else bd (fX1_setStep σ 0) (fun _ σ2 => bd (fX7_leaveShift σ2) (fun _ σ4 => some (1, σ4))))
set_option maxHeartbeats 4000000 in
set_option maxRecDepth 100000 in
theorem mX7_finish {l : Launch} {D : va_G} {kS vS : Nat → Nat} {ad : Nat → Nat} {cI cF : ClassId} {σ σ0 : St} {r : Int32} (hI : Inj ad 18) (hf : fX7_finish σ  = some (r, σ0)) : MI l D (tyC cI cF) (inA ad 18) kS vS yX7_finish cX7_finish 2 .boolean 5 106 [.ref (ad 15), .ref (ad 8)] (wC ad cI cF σ) (wC ad cI cF σ0) r := by
  refine MI.of (by decide) (Nat.le_of_ble_eq_true rfl) (fun p e s m args below meth c ls Q hQ C hr hlk hP hS hl => ?_)
  obtain ⟨hx, hb, hml, hown, hts, hK, hKS⟩ := id C
  have hl : lv_has ls 2 [(0, .ref (ad 15)), (1, .ref (ad 8))] := hl
  unfold fX7_finish at hf
  refine lv_aload_n hx hb dX7_finish_0 rfl (lv_at hl 0 rfl) ?_
  refine GX7_0 C hP gt1_143 dX7_finish_1 ?_
  refine GX3_0N C hP (j := 16) (by decide) (by decide) dX7_finish_4 ?_
  refine lv_if_ne (tgt := 12) hx hb dX7_finish_7 (by decide) (fun hc => ?_) (fun hc => ?_)
  · have hf := ite_f hf hc
    refine lv_aload_n hx hb dX7_finish_12 rfl (lv_at hl 1 rfl) ?_
    refine lv_iconst (v := 0) hx hb dX7_finish_13 (by decide) ?_
    obtain ⟨v1, σ2, hc, hf⟩ := bd_at hf
    refine callVV (As := [.int 0]) (rest := []) C (mX1_setStep hI hc) ⟨gt2_104, gt2_47, gt2_48, gt1_6, gt2_49⟩ okX1_setStep ⟨Nat.le_of_ble_eq_true rfl, Nat.le_of_ble_eq_true rfl⟩ (rcvOf C hP (show (wC ad cI cF _)[8]? = some (ad 8, _) from rfl) rfl) rfl hl.1 rfl (Nat.le_of_ble_eq_true rfl) hP hS dX7_finish_14 (fun H locs hP hS => ?_)
    refine lv_aload_n hx hb dX7_finish_17 rfl (lv_at hl 0 rfl) ?_
    refine lv_aload_n hx hb dX7_finish_18 rfl (lv_at hl 1 rfl) ?_
    obtain ⟨v3, σ4, hc, hf⟩ := bd_at hf
    refine callVV (As := [.ref (ad 8)]) (rest := []) C (mX7_leaveShift hI hc) ⟨gt2_199, gt2_201, gtp6, gt1_9, gt2_202⟩ okX7_leaveShift ⟨Nat.le_of_ble_eq_true rfl, Nat.le_of_ble_eq_true rfl⟩ (rcvOf C hP (show (wC ad cI cF _)[15]? = some (ad 15, _) from rfl) rfl) rfl hl.1 rfl (Nat.le_of_ble_eq_true rfl) hP hS dX7_finish_19 (fun H locs hP hS => ?_)
    refine lv_iconst (v := 1) hx hb dX7_finish_22 (by decide) ?_
    exact MI.ret (wf := wC ad cI cF) hQ C hr hlk rfl hf hP hS dX7_finish_23
  · have hf := ite_t hf hc
    refine lv_iconst (v := 0) hx hb dX7_finish_10 (by decide) ?_
    exact MI.ret (wf := wC ad cI cF) hQ C hr hlk rfl hf hP hS dX7_finish_11
def fv_finish (σ : St) : Option (Int32 × St) := if σ 0 5 = 0 then fX0_finish σ else if σ 0 5 = 1 then fX0_finish σ else if σ 0 5 = 2 then fX0_finish σ else if σ 0 5 = 3 then fX0_finish σ else if σ 0 5 = 4 then fX0_finish σ else if σ 0 5 = 5 then fX7_finish σ else if σ 0 5 = 6 then fX0_finish σ else none
set_option maxHeartbeats 4000000 in
set_option maxRecDepth 100000 in
theorem dv_finish {p : Program} {l : Launch} {e : Env} {R : Room} {s : State} {m : MethodId} {args : Array Value} {below : List Frame} {meth : Method} {c : Code} {H : Heap} {locs : List Loc} {Q : State → Prop} {cc : ByteArray} {pc nL : Nat} {ls : Array Slot} {rest : List Value} {D : va_G} {kS vS : Nat → Nat} {ad : Nat → Nat} {cI cF : ClassId} {σ σ0 : St} {r : Int32} (hI : Inj ad 18) (C : Cx p c cc nL s m args RX9 D (tyC cI cF) (inA ad 18) kS vS) (hf : fv_finish σ = some (r, σ0)) (hR : 6 ≤ R.frames ∧ 127 ≤ R.locals) (hls : ls.size = nL) (hcat : (rest.map fun v => v.category).sum ≤ 8) (hP : va_P D vwCl (wC ad cI cF σ) H) (hS : va_S (inA ad 18) s.heap H locs) (hd : decode cc pc = .ok (.invokevirtual 113, 3))
    (kk : ∀ (H1 : Heap) (locs1 : List Loc), va_P D vwCl (wC ad cI cF σ0) H1 → va_S (inA ad 18) s.heap H1 locs1 → W p l e R s m args below meth c H1 locs1 0 0 Q (F0 m (pc + 3) ls (.int r :: rest))) : W p l e R s m args below meth c H locs 0 0 Q (F0 m pc ls (.ref (ad 8) :: .ref (ad (fK (σ 0 5).toNatClampNeg)) :: rest)) := by
  obtain ⟨hx, hb, hml, hown, hts, hK, hKS⟩ := id C
  unfold fv_finish at hf
  by_cases h0 : σ 0 5 = 0
  · have hf := ite_t hf h0
    rw [h0]
    exact callUI (x := ⟨"ResumableCoder$Form", "finish", "(LResumableCoder$Move;)Z"⟩) (C0 := RX8) (owner := "ResumableCoder$Form") (As := [.ref (ad 8)]) (rest := rest) C (mX0_finish hI (a := ad 10) hf) (va_cwU 1 hts (GT_in (in5 gt3_190 gt3_192 gt3_198 gt3_191 gt1_2 (cons_in gt3_199))) rfl rfl rfl rfl ⟨by decide, by decide, by decide +kernel⟩ ⟨Nat.le_trans (Nat.le_of_ble_eq_true rfl) hR.1, Nat.le_trans (Nat.le_of_ble_eq_true rfl) hR.2⟩) (rcvOf C hP (show (wC ad cI cF σ)[10]? = some (ad 10, _) from rfl) rfl) rfl hls rfl hcat hP hS hd kk
  have hf := ite_f hf h0
  by_cases h1 : σ 0 5 = 1
  · have hf := ite_t hf h1
    rw [h1]
    exact callUI (x := ⟨"ResumableCoder$Form", "finish", "(LResumableCoder$Move;)Z"⟩) (C0 := RX8) (owner := "ResumableCoder$Form") (As := [.ref (ad 8)]) (rest := rest) C (mX0_finish hI (a := ad 11) hf) (va_cwU 1 hts (GT_in (in5 gt3_190 gt3_192 gt3_198 gt3_191 gt1_2 (cons_in gt3_199))) rfl rfl rfl rfl ⟨by decide, by decide, by decide +kernel⟩ ⟨Nat.le_trans (Nat.le_of_ble_eq_true rfl) hR.1, Nat.le_trans (Nat.le_of_ble_eq_true rfl) hR.2⟩) (rcvOf C hP (show (wC ad cI cF σ)[11]? = some (ad 11, _) from rfl) rfl) rfl hls rfl hcat hP hS hd kk
  have hf := ite_f hf h1
  by_cases h2 : σ 0 5 = 2
  · have hf := ite_t hf h2
    rw [h2]
    exact callUI (x := ⟨"ResumableCoder$Form", "finish", "(LResumableCoder$Move;)Z"⟩) (C0 := RX6) (owner := "ResumableCoder$Form") (As := [.ref (ad 8)]) (rest := rest) C (mX0_finish hI (a := ad 12) hf) (va_cwU 1 hts (GT_in (in5 gt3_190 gt3_192 gt3_194 gt3_191 gt1_2 (cons_in gt3_199))) rfl rfl rfl rfl ⟨by decide, by decide, by decide +kernel⟩ ⟨Nat.le_trans (Nat.le_of_ble_eq_true rfl) hR.1, Nat.le_trans (Nat.le_of_ble_eq_true rfl) hR.2⟩) (rcvOf C hP (show (wC ad cI cF σ)[12]? = some (ad 12, _) from rfl) rfl) rfl hls rfl hcat hP hS hd kk
  have hf := ite_f hf h2
  by_cases h3 : σ 0 5 = 3
  · have hf := ite_t hf h3
    rw [h3]
    exact callUI (x := ⟨"ResumableCoder$Form", "finish", "(LResumableCoder$Move;)Z"⟩) (C0 := RX6) (owner := "ResumableCoder$Form") (As := [.ref (ad 8)]) (rest := rest) C (mX0_finish hI (a := ad 13) hf) (va_cwU 1 hts (GT_in (in5 gt3_190 gt3_192 gt3_194 gt3_191 gt1_2 (cons_in gt3_199))) rfl rfl rfl rfl ⟨by decide, by decide, by decide +kernel⟩ ⟨Nat.le_trans (Nat.le_of_ble_eq_true rfl) hR.1, Nat.le_trans (Nat.le_of_ble_eq_true rfl) hR.2⟩) (rcvOf C hP (show (wC ad cI cF σ)[13]? = some (ad 13, _) from rfl) rfl) rfl hls rfl hcat hP hS hd kk
  have hf := ite_f hf h3
  by_cases h4 : σ 0 5 = 4
  · have hf := ite_t hf h4
    rw [h4]
    exact callUI (x := ⟨"ResumableCoder$Form", "finish", "(LResumableCoder$Move;)Z"⟩) (C0 := RX6) (owner := "ResumableCoder$Form") (As := [.ref (ad 8)]) (rest := rest) C (mX0_finish hI (a := ad 14) hf) (va_cwU 1 hts (GT_in (in5 gt3_190 gt3_192 gt3_194 gt3_191 gt1_2 (cons_in gt3_199))) rfl rfl rfl rfl ⟨by decide, by decide, by decide +kernel⟩ ⟨Nat.le_trans (Nat.le_of_ble_eq_true rfl) hR.1, Nat.le_trans (Nat.le_of_ble_eq_true rfl) hR.2⟩) (rcvOf C hP (show (wC ad cI cF σ)[14]? = some (ad 14, _) from rfl) rfl) rfl hls rfl hcat hP hS hd kk
  have hf := ite_f hf h4
  by_cases h5 : σ 0 5 = 5
  · have hf := ite_t hf h5
    rw [h5]
    exact callUI (x := ⟨"ResumableCoder$Form", "finish", "(LResumableCoder$Move;)Z"⟩) (C0 := RX7) (owner := "ResumableCoder$Form") (As := [.ref (ad 8)]) (rest := rest) C (mX7_finish hI hf) (va_cwO 1 hts (GT_in (in6 gt3_190 gt3_192 gt3_191 gt3_195 gt3_196 gt1_9 (cons_in gt3_197))) rfl rfl rfl (by exact gt3_199) ⟨by decide, by decide, by decide +kernel⟩ ⟨Nat.le_trans (Nat.le_of_ble_eq_true rfl) hR.1, Nat.le_trans (Nat.le_of_ble_eq_true rfl) hR.2⟩) (rcvOf C hP (show (wC ad cI cF σ)[15]? = some (ad 15, _) from rfl) rfl) rfl hls rfl hcat hP hS hd kk
  have hf := ite_f hf h5
  by_cases h6 : σ 0 5 = 6
  · have hf := ite_t hf h6
    rw [h6]
    exact callUI (x := ⟨"ResumableCoder$Form", "finish", "(LResumableCoder$Move;)Z"⟩) (C0 := RX2) (owner := "ResumableCoder$Form") (As := [.ref (ad 8)]) (rest := rest) C (mX0_finish hI (a := ad 1) hf) (va_cwU 1 hts (GT_in (in5 gt3_190 gt3_192 gt3_193 gt3_191 gt1_2 (cons_in gt3_199))) rfl rfl rfl rfl ⟨by decide, by decide, by decide +kernel⟩ ⟨Nat.le_trans (Nat.le_of_ble_eq_true rfl) hR.1, Nat.le_trans (Nat.le_of_ble_eq_true rfl) hR.2⟩) (rcvOf C hP (show (wC ad cI cF σ)[1]? = some (ad 1, _) from rfl) rfl) rfl hls rfl hcat hP hS hd kk
  have hf := ite_f hf h6
  exact nomatch (show (none : Option (Int32 × St)) = some (r, σ0) from hf)
def fX9_flush_b18 (σ : St) : Option (Int32 × St) := (if (σ 0 7) = 0 then nm (up σ 0 6 3) (fun σ1 => some (0, σ1)) else bd (fv_finish σ) (fun v2 σ3 => (if v2 = 0 then nm (up σ3 0 6 3) (fun σ4 => some (0, σ4)) else bd (fX9_makeStep σ3) (fun v5 σ6 => (if v5 = 1 then some (1, σ6) else nm (up σ6 0 6 3) (fun σ7 => some (0, σ7)))))))
def fX9_flush (σ : St) : Option (Int32 × St) := (if (σ 0 6) = 2 then fX9_flush_b18 σ else (if (σ 0 6) = 3 then fX9_flush_b18 σ else some ((-1), σ)))
set_option maxHeartbeats 4000000 in
set_option maxRecDepth 100000 in
theorem mX9_flush {l : Launch} {D : va_G} {kS vS : Nat → Nat} {ad : Nat → Nat} {cI cF : ClassId} {σ σ0 : St} {r : Int32} (hI : Inj ad 18) (hf : fX9_flush σ  = some (r, σ0)) : MI l D (tyC cI cF) (inA ad 18) kS vS yX9_flush cX9_flush 1 .int 6 127 [.ref (ad 0)] (wC ad cI cF σ) (wC ad cI cF σ0) r := by
  refine MI.of (by decide) (Nat.le_of_ble_eq_true rfl) (fun p e s m args below meth c ls Q hQ C hr hlk hP hS hl => ?_)
  obtain ⟨hx, hb, hml, hown, hts, hK, hKS⟩ := id C
  have hl : lv_has ls 1 [(0, .ref (ad 0))] := hl
  have B18 : ∀ (σ : St) (H : Heap) (locs : List Loc) (ls : Array Slot), va_P D vwCl (wC ad cI cF σ) H → va_S (inA ad 18) s.heap H locs → lv_has ls 1 [(0, .ref (ad 0))] → fX9_flush_b18 σ = some (r, σ0) → W p l e (rmN 6 127) s m args below meth c H locs 0 0 Q (F0 m 18 ls []) := by
    intro σ H locs ls hP hS hl hf
    unfold fX9_flush_b18 at hf
    refine lv_aload_n hx hb dX9_flush_18 rfl (lv_at hl 0 rfl) ?_
    refine GX9_7 C hP gt1_157 dX9_flush_19 ?_
    refine lv_if_eq (tgt := 49) hx hb dX9_flush_22 (by decide) (fun hc => ?_) (fun hc => ?_)
    · have hf := ite_t hf hc
      refine lv_aload_n hx hb dX9_flush_49 rfl (lv_at hl 0 rfl) ?_
      refine lv_iconst (v := 3) hx hb dX9_flush_50 (by decide) ?_
      refine PX9_6 hI C hP hS gt1_156 rfl rfl dX9_flush_51 (fun σ1 eσ1 H locs hP hS => ?_)
      have hf := nm_at hf σ1 eσ1
      refine lv_iconst (v := 0) hx hb dX9_flush_54 (by decide) ?_
      exact MI.ret (wf := wC ad cI cF) hQ C hr hlk rfl hf hP hS dX9_flush_55
    · have hf := ite_f hf hc
      refine lv_aload_n hx hb dX9_flush_25 rfl (lv_at hl 0 rfl) ?_
      refine GX9_5 C hP gt1_155 dX9_flush_26 ?_
      refine lv_aload_n hx hb dX9_flush_29 rfl (lv_at hl 0 rfl) ?_
      refine GX9_4 C hP gt1_154 dX9_flush_30 ?_
      obtain ⟨v2, σ3, hc, hf⟩ := bd_at hf
      refine dv_finish (rest := []) hI C hc ⟨Nat.le_of_ble_eq_true rfl, Nat.le_of_ble_eq_true rfl⟩ hl.1 (Nat.le_of_ble_eq_true rfl) hP hS dX9_flush_33 (fun H locs hP hS => ?_)
      refine lv_if_eq (tgt := 49) hx hb dX9_flush_36 (by decide) (fun hc => ?_) (fun hc => ?_)
      · have hf := ite_t hf hc
        refine lv_aload_n hx hb dX9_flush_49 rfl (lv_at hl 0 rfl) ?_
        refine lv_iconst (v := 3) hx hb dX9_flush_50 (by decide) ?_
        refine PX9_6 hI C hP hS gt1_156 rfl rfl dX9_flush_51 (fun σ4 eσ4 H locs hP hS => ?_)
        have hf := nm_at hf σ4 eσ4
        refine lv_iconst (v := 0) hx hb dX9_flush_54 (by decide) ?_
        exact MI.ret (wf := wC ad cI cF) hQ C hr hlk rfl hf hP hS dX9_flush_55
      · have hf := ite_f hf hc
        refine lv_aload_n hx hb dX9_flush_39 rfl (lv_at hl 0 rfl) ?_
        obtain ⟨v5, σ6, hc, hf⟩ := bd_at hf
        refine callVI (As := []) (rest := []) C (mX9_makeStep hI hc) ⟨gt3_107, gt3_109, gtp19, gt1_1, gt3_110⟩ okX9_makeStep ⟨Nat.le_of_ble_eq_true rfl, Nat.le_of_ble_eq_true rfl⟩ (rcvOf C hP (show (wC ad cI cF _)[0]? = some (ad 0, _) from rfl) rfl) rfl hl.1 rfl (Nat.le_of_ble_eq_true rfl) hP hS dX9_flush_40 (fun H locs hP hS => ?_)
        refine lv_iconst (v := 1) hx hb dX9_flush_43 (by decide) ?_
        refine lv_icmp_ne (tgt := 49) hx hb dX9_flush_44 (by decide) (fun hc => ?_) (fun hc => ?_)
        · have hf := ite_f hf hc
          refine lv_aload_n hx hb dX9_flush_49 rfl (lv_at hl 0 rfl) ?_
          refine lv_iconst (v := 3) hx hb dX9_flush_50 (by decide) ?_
          refine PX9_6 hI C hP hS gt1_156 rfl rfl dX9_flush_51 (fun σ7 eσ7 H locs hP hS => ?_)
          have hf := nm_at hf σ7 eσ7
          refine lv_iconst (v := 0) hx hb dX9_flush_54 (by decide) ?_
          exact MI.ret (wf := wC ad cI cF) hQ C hr hlk rfl hf hP hS dX9_flush_55
        · have hf := ite_t hf hc
          refine lv_iconst (v := 1) hx hb dX9_flush_47 (by decide) ?_
          exact MI.ret (wf := wC ad cI cF) hQ C hr hlk rfl hf hP hS dX9_flush_48
  unfold fX9_flush at hf
  refine lv_aload_n hx hb dX9_flush_0 rfl (lv_at hl 0 rfl) ?_
  refine GX9_6 C hP gt1_156 dX9_flush_1 ?_
  refine lv_iconst (v := 2) hx hb dX9_flush_4 (by decide) ?_
  refine lv_icmp_eq (tgt := 18) hx hb dX9_flush_5 (by decide) (fun hc => ?_) (fun hc => ?_)
  · have hf := ite_t hf hc
    exact B18 σ _ _ _ hP hS (lv_sub hl [0] rfl) hf
  · have hf := ite_f hf hc
    refine lv_aload_n hx hb dX9_flush_8 rfl (lv_at hl 0 rfl) ?_
    refine GX9_6 C hP gt1_156 dX9_flush_9 ?_
    refine lv_iconst (v := 3) hx hb dX9_flush_12 (by decide) ?_
    refine lv_icmp_eq (tgt := 18) hx hb dX9_flush_13 (by decide) (fun hc => ?_) (fun hc => ?_)
    · have hf := ite_t hf hc
      exact B18 σ _ _ _ hP hS (lv_sub hl [0] rfl) hf
    · have hf := ite_f hf hc
      refine lv_iconst (v := (-1)) hx hb dX9_flush_16 (by decide) ?_
      exact MI.ret (wf := wC ad cI cF) hQ C hr hlk rfl hf hP hS dX9_flush_17
def fX9_reset (σ : St) : Option (Int32 × St) := (if (σ 0 6) = (-1) then some (0, σ) else bd (fX9_startAfresh σ) (fun _ σ2 => some (1, σ2)))
set_option maxHeartbeats 4000000 in
set_option maxRecDepth 100000 in
theorem mX9_reset {l : Launch} {D : va_G} {kS vS : Nat → Nat} {ad : Nat → Nat} {cI cF : ClassId} {σ σ0 : St} {r : Int32} (hI : Inj ad 18) (hf : fX9_reset σ  = some (r, σ0)) : MI l D (tyC cI cF) (inA ad 18) kS vS yX9_reset cX9_reset 1 .boolean 3 60 [.ref (ad 0)] (wC ad cI cF σ) (wC ad cI cF σ0) r := by
  refine MI.of (by decide) (Nat.le_of_ble_eq_true rfl) (fun p e s m args below meth c ls Q hQ C hr hlk hP hS hl => ?_)
  obtain ⟨hx, hb, hml, hown, hts, hK, hKS⟩ := id C
  have hl : lv_has ls 1 [(0, .ref (ad 0))] := hl
  unfold fX9_reset at hf
  refine lv_aload_n hx hb dX9_reset_0 rfl (lv_at hl 0 rfl) ?_
  refine GX9_6 C hP gt1_156 dX9_reset_1 ?_
  refine lv_iconst (v := (-1)) hx hb dX9_reset_4 (by decide) ?_
  refine lv_icmp_ne (tgt := 10) hx hb dX9_reset_5 (by decide) (fun hc => ?_) (fun hc => ?_)
  · have hf := ite_f hf hc
    refine lv_aload_n hx hb dX9_reset_10 rfl (lv_at hl 0 rfl) ?_
    obtain ⟨v1, σ2, hc, hf⟩ := bd_at hf
    refine callVV (As := []) (rest := []) C (mX9_startAfresh hI hc) ⟨gt1_207, gt1_209, gtp0, gt1_1, gt1_210⟩ okX9_startAfresh ⟨Nat.le_of_ble_eq_true rfl, Nat.le_of_ble_eq_true rfl⟩ (rcvOf C hP (show (wC ad cI cF _)[0]? = some (ad 0, _) from rfl) rfl) rfl hl.1 rfl (Nat.le_of_ble_eq_true rfl) hP hS dX9_reset_11 (fun H locs hP hS => ?_)
    refine lv_iconst (v := 1) hx hb dX9_reset_14 (by decide) ?_
    exact MI.ret (wf := wC ad cI cF) hQ C hr hlk rfl hf hP hS dX9_reset_15
  · have hf := ite_t hf hc
    refine lv_iconst (v := 0) hx hb dX9_reset_8 (by decide) ?_
    exact MI.ret (wf := wC ad cI cF) hQ C hr hlk rfl hf hP hS dX9_reset_9
def fX9_pass (σ : St) : Option (Int32 × St) := (if (σ 0 14) = 0 then some (0, σ) else bd (fX9_passOver σ (σ 0 14)) (fun _ σ2 => nm (up σ2 0 14 0) (fun σ3 => some (1, σ3))))
set_option maxHeartbeats 4000000 in
set_option maxRecDepth 100000 in
theorem mX9_pass {l : Launch} {D : va_G} {kS vS : Nat → Nat} {ad : Nat → Nat} {cI cF : ClassId} {σ σ0 : St} {r : Int32} (hI : Inj ad 18) (hf : fX9_pass σ  = some (r, σ0)) : MI l D (tyC cI cF) (inA ad 18) kS vS yX9_pass cX9_pass 1 .boolean 4 124 [.ref (ad 0)] (wC ad cI cF σ) (wC ad cI cF σ0) r := by
  refine MI.of (by decide) (Nat.le_of_ble_eq_true rfl) (fun p e s m args below meth c ls Q hQ C hr hlk hP hS hl => ?_)
  obtain ⟨hx, hb, hml, hown, hts, hK, hKS⟩ := id C
  have hl : lv_has ls 1 [(0, .ref (ad 0))] := hl
  unfold fX9_pass at hf
  refine lv_aload_n hx hb dX9_pass_0 rfl (lv_at hl 0 rfl) ?_
  refine GX9_14 C hP gt1_164 dX9_pass_1 ?_
  refine lv_if_ne (tgt := 9) hx hb dX9_pass_4 (by decide) (fun hc => ?_) (fun hc => ?_)
  · have hf := ite_f hf hc
    refine lv_aload_n hx hb dX9_pass_9 rfl (lv_at hl 0 rfl) ?_
    refine lv_aload_n hx hb dX9_pass_10 rfl (lv_at hl 0 rfl) ?_
    refine GX9_14 C hP gt1_164 dX9_pass_11 ?_
    obtain ⟨v1, σ2, hc, hf⟩ := bd_at hf
    refine callVV (As := [.int (σ 0 14)]) (rest := []) C (mX9_passOver hI hc) ⟨gt3_169, gt3_171, gtp25, gt1_1, gt3_172⟩ okX9_passOver ⟨Nat.le_of_ble_eq_true rfl, Nat.le_of_ble_eq_true rfl⟩ (rcvOf C hP (show (wC ad cI cF _)[0]? = some (ad 0, _) from rfl) rfl) rfl hl.1 rfl (Nat.le_of_ble_eq_true rfl) hP hS dX9_pass_14 (fun H locs hP hS => ?_)
    refine lv_aload_n hx hb dX9_pass_17 rfl (lv_at hl 0 rfl) ?_
    refine lv_iconst (v := 0) hx hb dX9_pass_18 (by decide) ?_
    refine PX9_14 hI C hP hS gt1_164 rfl rfl dX9_pass_19 (fun σ3 eσ3 H locs hP hS => ?_)
    have hf := nm_at hf σ3 eσ3
    refine lv_iconst (v := 1) hx hb dX9_pass_22 (by decide) ?_
    exact MI.ret (wf := wC ad cI cF) hQ C hr hlk rfl hf hP hS dX9_pass_23
  · have hf := ite_t hf hc
    refine lv_iconst (v := 0) hx hb dX9_pass_7 (by decide) ?_
    exact MI.ret (wf := wC ad cI cF) hQ C hr hlk rfl hf hP hS dX9_pass_8
def fX9_fetch (σ : St) : Option (Int32 × St) := bd (fX5_at 6 σ 0) (fun v1 σ2 => bd (fX5_drop 6 σ2 1) (fun _ σ4 => some (v1, σ4)))
set_option maxHeartbeats 4000000 in
set_option maxRecDepth 100000 in
theorem mX9_fetch {l : Launch} {D : va_G} {kS vS : Nat → Nat} {ad : Nat → Nat} {cI cF : ClassId} {σ σ0 : St} {r : Int32} (hI : Inj ad 18) (hf : fX9_fetch σ  = some (r, σ0)) : MI l D (tyC cI cF) (inA ad 18) kS vS yX9_fetch cX9_fetch 2 .int 2 82 [.ref (ad 0)] (wC ad cI cF σ) (wC ad cI cF σ0) r := by
  refine MI.of (by decide) (Nat.le_of_ble_eq_true rfl) (fun p e s m args below meth c ls Q hQ C hr hlk hP hS hl => ?_)
  obtain ⟨hx, hb, hml, hown, hts, hK, hKS⟩ := id C
  have hl : lv_has ls 2 [(0, .ref (ad 0))] := hl
  unfold fX9_fetch at hf
  refine lv_aload_n hx hb dX9_fetch_0 rfl (lv_at hl 0 rfl) ?_
  refine GX9_3 C hP gt1_153 dX9_fetch_1 ?_
  refine lv_iconst (v := 0) hx hb dX9_fetch_4 (by decide) ?_
  obtain ⟨v1, σ2, hc, hf⟩ := bd_at hf
  refine callVI (As := [.int 0]) (rest := []) C (mX5_at (j := 6) hI (by decide) hc) ⟨gt3_212, gt2_39, gt2_40, gt1_5, gt2_41⟩ okX5_at ⟨Nat.le_of_ble_eq_true rfl, Nat.le_of_ble_eq_true rfl⟩ (rcvOf C hP (show (wC ad cI cF _)[6]? = some (ad 6, _) from rfl) rfl) rfl hl.1 rfl (Nat.le_of_ble_eq_true rfl) hP hS dX9_fetch_5 (fun H locs hP hS => ?_)
  refine lv_istore_n (lv' := [(1, .int v1), (0, .ref (ad 0))]) hx hb dX9_fetch_8 rfl hl (by decide) rfl (fun ls hl => ?_)
  refine lv_aload_n hx hb dX9_fetch_9 rfl (lv_at hl 1 rfl) ?_
  refine GX9_3 C hP gt1_153 dX9_fetch_10 ?_
  refine lv_iconst (v := 1) hx hb dX9_fetch_13 (by decide) ?_
  obtain ⟨v3, σ4, hc, hf⟩ := bd_at hf
  refine callVV (As := [.int 1]) (rest := []) C (mX5_drop (j := 6) hI (by decide) hc) ⟨gt3_119, gt3_120, gt3_121, gt1_5, gt3_122⟩ okX5_drop ⟨Nat.le_of_ble_eq_true rfl, Nat.le_of_ble_eq_true rfl⟩ (rcvOf C hP (show (wC ad cI cF _)[6]? = some (ad 6, _) from rfl) rfl) rfl hl.1 rfl (Nat.le_of_ble_eq_true rfl) hP hS dX9_fetch_14 (fun H locs hP hS => ?_)
  refine lv_iload_n hx hb dX9_fetch_17 rfl (lv_at hl 0 rfl) ?_
  exact MI.ret (wf := wC ad cI cF) hQ C hr hlk rfl hf hP hS dX9_fetch_18
def fX9_state (σ : St) : Option (Int32 × St) := some (σ 0 6, σ)
set_option maxHeartbeats 4000000 in
set_option maxRecDepth 100000 in
theorem mX9_state {l : Launch} {D : va_G} {kS vS : Nat → Nat} {ad : Nat → Nat} {cI cF : ClassId} {σ σ0 : St} {r : Int32} (hI : Inj ad 18) (hf : fX9_state σ  = some (r, σ0)) : MI l D (tyC cI cF) (inA ad 18) kS vS yX9_state cX9_state 1 .int 0 0 [.ref (ad 0)] (wC ad cI cF σ) (wC ad cI cF σ0) r := by
  refine MI.of (by decide) (Nat.le_of_ble_eq_true rfl) (fun p e s m args below meth c ls Q hQ C hr hlk hP hS hl => ?_)
  obtain ⟨hx, hb, hml, hown, hts, hK, hKS⟩ := id C
  have hl : lv_has ls 1 [(0, .ref (ad 0))] := hl
  unfold fX9_state at hf
  refine lv_aload_n hx hb dX9_state_0 rfl (lv_at hl 0 rfl) ?_
  refine GX9_6 C hP gt1_156 dX9_state_1 ?_
  exact MI.ret (wf := wC ad cI cF) hQ C hr hlk rfl hf hP hS dX9_state_4
def fX9_waiting (σ : St) : Option (Int32 × St) := bd (fX5_count 4 σ) (fun v1 σ2 => some (v1, σ2))
set_option maxHeartbeats 4000000 in
set_option maxRecDepth 100000 in
theorem mX9_waiting {l : Launch} {D : va_G} {kS vS : Nat → Nat} {ad : Nat → Nat} {cI cF : ClassId} {σ σ0 : St} {r : Int32} (hI : Inj ad 18) (hf : fX9_waiting σ  = some (r, σ0)) : MI l D (tyC cI cF) (inA ad 18) kS vS yX9_waiting cX9_waiting 1 .int 1 20 [.ref (ad 0)] (wC ad cI cF σ) (wC ad cI cF σ0) r := by
  refine MI.of (by decide) (Nat.le_of_ble_eq_true rfl) (fun p e s m args below meth c ls Q hQ C hr hlk hP hS hl => ?_)
  obtain ⟨hx, hb, hml, hown, hts, hK, hKS⟩ := id C
  have hl : lv_has ls 1 [(0, .ref (ad 0))] := hl
  unfold fX9_waiting at hf
  refine lv_aload_n hx hb dX9_waiting_0 rfl (lv_at hl 0 rfl) ?_
  refine GX9_2 C hP gt1_152 dX9_waiting_1 ?_
  obtain ⟨v1, σ2, hc, hf⟩ := bd_at hf
  refine callVI (As := []) (rest := []) C (mX5_count (j := 4) hI (by decide) hc) ⟨gt2_0, gt2_1, gt2_2, gt1_5, gt2_3⟩ okX5_count ⟨Nat.le_of_ble_eq_true rfl, Nat.le_of_ble_eq_true rfl⟩ (rcvOf C hP (show (wC ad cI cF _)[4]? = some (ad 4, _) from rfl) rfl) rfl hl.1 rfl (Nat.le_of_ble_eq_true rfl) hP hS dX9_waiting_4 (fun H locs hP hS => ?_)
  exact MI.ret (wf := wC ad cI cF) hQ C hr hlk rfl hf hP hS dX9_waiting_7
def fX9_ready (σ : St) : Option (Int32 × St) := bd (fX5_count 6 σ) (fun v1 σ2 => some (v1, σ2))
set_option maxHeartbeats 4000000 in
set_option maxRecDepth 100000 in
theorem mX9_ready {l : Launch} {D : va_G} {kS vS : Nat → Nat} {ad : Nat → Nat} {cI cF : ClassId} {σ σ0 : St} {r : Int32} (hI : Inj ad 18) (hf : fX9_ready σ  = some (r, σ0)) : MI l D (tyC cI cF) (inA ad 18) kS vS yX9_ready cX9_ready 1 .int 1 20 [.ref (ad 0)] (wC ad cI cF σ) (wC ad cI cF σ0) r := by
  refine MI.of (by decide) (Nat.le_of_ble_eq_true rfl) (fun p e s m args below meth c ls Q hQ C hr hlk hP hS hl => ?_)
  obtain ⟨hx, hb, hml, hown, hts, hK, hKS⟩ := id C
  have hl : lv_has ls 1 [(0, .ref (ad 0))] := hl
  unfold fX9_ready at hf
  refine lv_aload_n hx hb dX9_ready_0 rfl (lv_at hl 0 rfl) ?_
  refine GX9_3 C hP gt1_153 dX9_ready_1 ?_
  obtain ⟨v1, σ2, hc, hf⟩ := bd_at hf
  refine callVI (As := []) (rest := []) C (mX5_count (j := 6) hI (by decide) hc) ⟨gt2_0, gt2_1, gt2_2, gt1_5, gt2_3⟩ okX5_count ⟨Nat.le_of_ble_eq_true rfl, Nat.le_of_ble_eq_true rfl⟩ (rcvOf C hP (show (wC ad cI cF _)[6]? = some (ad 6, _) from rfl) rfl) rfl hl.1 rfl (Nat.le_of_ble_eq_true rfl) hP hS dX9_ready_4 (fun H locs hP hS => ?_)
  exact MI.ret (wf := wC ad cI cF) hQ C hr hlk rfl hf hP hS dX9_ready_7
def fX9_taken (σ : St) : Option (Int32 × St) := some (σ 0 11, σ)
set_option maxHeartbeats 4000000 in
set_option maxRecDepth 100000 in
theorem mX9_taken {l : Launch} {D : va_G} {kS vS : Nat → Nat} {ad : Nat → Nat} {cI cF : ClassId} {σ σ0 : St} {r : Int32} (hI : Inj ad 18) (hf : fX9_taken σ  = some (r, σ0)) : MI l D (tyC cI cF) (inA ad 18) kS vS yX9_taken cX9_taken 1 .int 0 0 [.ref (ad 0)] (wC ad cI cF σ) (wC ad cI cF σ0) r := by
  refine MI.of (by decide) (Nat.le_of_ble_eq_true rfl) (fun p e s m args below meth c ls Q hQ C hr hlk hP hS hl => ?_)
  obtain ⟨hx, hb, hml, hown, hts, hK, hKS⟩ := id C
  have hl : lv_has ls 1 [(0, .ref (ad 0))] := hl
  unfold fX9_taken at hf
  refine lv_aload_n hx hb dX9_taken_0 rfl (lv_at hl 0 rfl) ?_
  refine GX9_11 C hP gt1_161 dX9_taken_1 ?_
  exact MI.ret (wf := wC ad cI cF) hQ C hr hlk rfl hf hP hS dX9_taken_4
def fX9_put (σ : St) : Option (Int32 × St) := some (σ 0 12, σ)
set_option maxHeartbeats 4000000 in
set_option maxRecDepth 100000 in
theorem mX9_put {l : Launch} {D : va_G} {kS vS : Nat → Nat} {ad : Nat → Nat} {cI cF : ClassId} {σ σ0 : St} {r : Int32} (hI : Inj ad 18) (hf : fX9_put σ  = some (r, σ0)) : MI l D (tyC cI cF) (inA ad 18) kS vS yX9_put cX9_put 1 .int 0 0 [.ref (ad 0)] (wC ad cI cF σ) (wC ad cI cF σ0) r := by
  refine MI.of (by decide) (Nat.le_of_ble_eq_true rfl) (fun p e s m args below meth c ls Q hQ C hr hlk hP hS hl => ?_)
  obtain ⟨hx, hb, hml, hown, hts, hK, hKS⟩ := id C
  have hl : lv_has ls 1 [(0, .ref (ad 0))] := hl
  unfold fX9_put at hf
  refine lv_aload_n hx hb dX9_put_0 rfl (lv_at hl 0 rfl) ?_
  refine GX9_12 C hP gt1_162 dX9_put_1 ?_
  exact MI.ret (wf := wC ad cI cF) hQ C hr hlk rfl hf hP hS dX9_put_4
def fX9_faults (σ : St) : Option (Int32 × St) := some (σ 0 13, σ)
set_option maxHeartbeats 4000000 in
set_option maxRecDepth 100000 in
theorem mX9_faults {l : Launch} {D : va_G} {kS vS : Nat → Nat} {ad : Nat → Nat} {cI cF : ClassId} {σ σ0 : St} {r : Int32} (hI : Inj ad 18) (hf : fX9_faults σ  = some (r, σ0)) : MI l D (tyC cI cF) (inA ad 18) kS vS yX9_faults cX9_faults 1 .int 0 0 [.ref (ad 0)] (wC ad cI cF σ) (wC ad cI cF σ0) r := by
  refine MI.of (by decide) (Nat.le_of_ble_eq_true rfl) (fun p e s m args below meth c ls Q hQ C hr hlk hP hS hl => ?_)
  obtain ⟨hx, hb, hml, hown, hts, hK, hKS⟩ := id C
  have hl : lv_has ls 1 [(0, .ref (ad 0))] := hl
  unfold fX9_faults at hf
  refine lv_aload_n hx hb dX9_faults_0 rfl (lv_at hl 0 rfl) ?_
  refine GX9_13 C hP gt1_163 dX9_faults_1 ?_
  exact MI.ret (wf := wC ad cI cF) hQ C hr hlk rfl hf hP hS dX9_faults_4
