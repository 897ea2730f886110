def fX10_code_b51 : Nat → St → Int32 → Int32 → Int32 → Option (Int32 × St)
  | 0, _, _, _, _ => none
  | n + 1, σ, x1, x2, x3 => (if 60 ≤ x3 then some (x2, σ) else (if 0 ≤ x2 then some (x2, σ) else bd (fX10_look σ) (fun v3 σ4 => (if v3 = 0 then bd (fX10_fits σ4 (σ4 0 26)) (fun v35 σ36 => (if v35 = 0 then nm (x3 + 1) (fun v37 => fX10_code_b51 n σ36 x1 1 v37) else bd (fX10_putOut σ36) (fun _ σ39 => bd (fX10_take σ39 (σ39 0 24)) (fun _ σ41 => bd (fX10_become σ41) (fun _ σ43 => nm (x3 + 1) (fun v44 => fX10_code_b51 n σ43 x1 (-1) v44)))))) else (if v3 = 1 then (if x1 = 0 then nm (x3 + 1) (fun v19 => fX10_code_b51 n σ4 x1 0 v19) else (if 0 < (σ4 0 9) then (if v3 = 1 then nm (up σ4 0 24 (σ4 0 9)) (fun σ27 => (if v3 = 3 then bd (fX10_meet σ27 0) (fun v28 σ29 => nm (x3 + 1) (fun v30 => fX10_code_b51 n σ29 x1 v28 v30)) else bd (fX10_meet σ27 1) (fun v31 σ32 => nm (x3 + 1) (fun v33 => fX10_code_b51 n σ32 x1 v31 v33)))) else nm (up σ4 0 24 (σ4 0 24)) (fun σ20 => (if v3 = 3 then bd (fX10_meet σ20 0) (fun v21 σ22 => nm (x3 + 1) (fun v23 => fX10_code_b51 n σ22 x1 v21 v23)) else bd (fX10_meet σ20 1) (fun v24 σ25 => nm (x3 + 1) (fun v26 => fX10_code_b51 n σ25 x1 v24 v26))))) else nm (x3 + 1) (fun v34 => fX10_code_b51 n σ4 x1 0 v34))) else (if v3 = 1 then nm (up σ4 0 24 (σ4 0 9)) (fun σ12 => (if v3 = 3 then bd (fX10_meet σ12 0) (fun v13 σ14 => nm (x3 + 1) (fun v15 => fX10_code_b51 n σ14 x1 v13 v15)) else bd (fX10_meet σ12 1) (fun v16 σ17 => nm (x3 + 1) (fun v18 => fX10_code_b51 n σ17 x1 v16 v18)))) else nm (up σ4 0 24 (σ4 0 24)) (fun σ5 => (if v3 = 3 then bd (fX10_meet σ5 0) (fun v6 σ7 => nm (x3 + 1) (fun v8 => fX10_code_b51 n σ7 x1 v6 v8)) else bd (fX10_meet σ5 1) (fun v9 σ10 => nm (x3 + 1) (fun v11 => fX10_code_b51 n σ10 x1 v9 v11))))))))))
def fX10_code_b39 (σ : St) (x1 y0 : Int32) : Option (Int32 × St) := nm (up σ 0 7 y0) (fun σ1 => nm (up σ1 0 22 0) (fun σ2 => fX10_code_b51 200 σ2 x1 (-1) 0))
def fX10_code_b29 (σ : St) (x1 : Int32) : Option (Int32 × St) := (if x1 = 0 then fX10_code_b39 σ x1 1 else fX10_code_b39 σ x1 2)
def fX10_code (σ : St) (p1 : Int32) : Option (Int32 × St) := (if (σ 0 0) = 0 then some ((-1), σ) else (if (σ 0 7) = 3 then some ((-1), σ) else (if (σ 0 7) = 2 then (if p1 = 0 then some ((-1), σ) else fX10_code_b29 σ p1) else fX10_code_b29 σ p1)))
set_option maxHeartbeats 4000000 in
set_option maxRecDepth 100000 in
theorem mX10_code {l : Launch} {D : va_G} {kS vS : Nat → Nat} {ad : Nat → Nat} {cI cF : ClassId} {σ σ0 : St} {p1 : Int32} {r : Int32} (hI : Inj ad 5) (hf : fX10_code σ p1 = some (r, σ0)) : MI l D (tyC cI cF) (inA ad 5) kS vS yX10_code cX10_code 5 .int 4 89 [.ref (ad 0), .int p1] (wM ad cI σ) (wM ad cI σ0) r := by
  refine MI.of (by decide) (Nat.le_of_ble_eq_true rfl) (fun p e s m args below meth c ls Q hQ C hr hlk hP hS hl => ?_)
  obtain ⟨hx, hb, hml, hown, hts, hK, hKS⟩ := id C
  have hl : lv_has ls 5 [(0, .ref (ad 0)), (1, .int p1)] := hl
  have B51 : ∀ n : Nat, ∀ (σ : St) (x1 x2 x3 : Int32) (H : Heap) (locs : List Loc) (ls : Array Slot), va_P D vwCl (wM ad cI σ) H → va_S (inA ad 5) s.heap H locs → lv_has ls 5 [(0, .ref (ad 0)), (1, .int x1), (2, .int x2), (3, .int x3)] → fX10_code_b51 n σ x1 x2 x3 = some (r, σ0) → W p l e (rmN 4 89) s m args below meth c H locs 0 0 Q (F0 m 51 ls []) := by
    intro n
    induction n with
    | zero =>
      intro σ x1 x2 x3 H locs ls hP hS hl hf
      exact nomatch (show (none : Option (Int32 × St)) = some (r, σ0) from hf)
    | succ n ih =>
      intro σ x1 x2 x3 H locs ls hP hS hl hf
      rw [fX10_code_b51] at hf
      refine lv_iload_n hx hb dX10_code_51 rfl (lv_at hl 3 rfl) ?_
      refine lv_bipush (v := 60) hx hb dX10_code_52 (by decide) ?_
      refine lv_icmp_ge (tgt := 177) hx hb dX10_code_54 (by decide) (fun hc => ?_) (fun hc => ?_)
      · have hf := ite_t hf hc
        refine lv_iload_n hx hb dX10_code_177 rfl (lv_at hl 2 rfl) ?_
        exact MI.ret (wf := wM ad cI) hQ C hr hlk rfl hf hP hS dX10_code_178
      · have hf := ite_f hf hc
        refine lv_iload_n hx hb dX10_code_57 rfl (lv_at hl 2 rfl) ?_
        refine lv_if_ge (tgt := 177) hx hb dX10_code_58 (by decide) (fun hc => ?_) (fun hc => ?_)
        · have hf := ite_t hf hc
          refine lv_iload_n hx hb dX10_code_177 rfl (lv_at hl 2 rfl) ?_
          exact MI.ret (wf := wM ad cI) hQ C hr hlk rfl hf hP hS dX10_code_178
        · have hf := ite_f hf hc
          refine lv_aload_n hx hb dX10_code_61 rfl (lv_at hl 0 rfl) ?_
          obtain ⟨v3, σ4, hc, hf⟩ := bd_at hf
          refine callVI (As := []) (rest := []) C (mX10_look hI hc) ⟨gt4_169, gt4_171, gtp29, gt1_11, gt4_172⟩ okX10_look ⟨Nat.le_of_ble_eq_true rfl, Nat.le_of_ble_eq_true rfl⟩ (rcvOf C hP (show (wM ad cI _)[0]? = some (ad 0, _) from rfl) rfl) rfl hl.1 rfl (Nat.le_of_ble_eq_true rfl) hP hS dX10_code_62 (fun H locs hP hS => ?_)
          refine lv_istore (lv' := [(4, .int v3), (0, .ref (ad 0)), (1, .int x1), (2, .int x2), (3, .int x3)]) hx hb dX10_code_65 hl (by decide) rfl (fun ls hl => ?_)
          refine lv_iload hx hb dX10_code_67 (lv_at hl 0 rfl) ?_
          refine lv_if_ne (tgt := 112) hx hb dX10_code_69 (by decide) (fun hc => ?_) (fun hc => ?_)
          · have hf := ite_f hf hc
            refine lv_iload hx hb dX10_code_112 (lv_at hl 0 rfl) ?_
            refine lv_iconst (v := 1) hx hb dX10_code_114 (by decide) ?_
            refine lv_icmp_ne (tgt := 134) hx hb dX10_code_115 (by decide) (fun hc => ?_) (fun hc => ?_)
            · have hf := ite_f hf hc
              refine lv_aload_n hx hb dX10_code_134 rfl (lv_at hl 1 rfl) ?_
              refine lv_iload hx hb dX10_code_135 (lv_at hl 0 rfl) ?_
              refine lv_iconst (v := 1) hx hb dX10_code_137 (by decide) ?_
              refine lv_icmp_ne (tgt := 148) hx hb dX10_code_138 (by decide) (fun hc => ?_) (fun hc => ?_)
              · have hf := ite_f hf hc
                refine lv_aload_n hx hb dX10_code_148 rfl (lv_at hl 1 rfl) ?_
                refine GX10_24 C hP gt4_27 dX10_code_149 ?_
                refine PX10_24 hI C hP hS gt4_27 rfl rfl dX10_code_152 (fun σ5 eσ5 H locs hP hS => ?_)
                have hf := nm_at hf σ5 eσ5
                refine lv_aload_n hx hb dX10_code_155 rfl (lv_at hl 1 rfl) ?_
                refine lv_iload hx hb dX10_code_156 (lv_at hl 0 rfl) ?_
                refine lv_iconst (v := 3) hx hb dX10_code_158 (by decide) ?_
                refine lv_icmp_eq (tgt := 166) hx hb dX10_code_159 (by decide) (fun hc => ?_) (fun hc => ?_)
                · have hf := ite_t hf hc
                  refine lv_iconst (v := 0) hx hb dX10_code_166 (by decide) ?_
                  obtain ⟨v6, σ7, hc, hf⟩ := bd_at hf
                  refine callVI (As := [.int 0]) (rest := []) C (mX10_meet hI hc) ⟨gt5_41, gt5_43, gtp51, gt1_11, gt5_44⟩ okX10_meet ⟨Nat.le_of_ble_eq_true rfl, Nat.le_of_ble_eq_true rfl⟩ (rcvOf C hP (show (wM ad cI _)[0]? = some (ad 0, _) from rfl) rfl) rfl hl.1 rfl (Nat.le_of_ble_eq_true rfl) hP hS dX10_code_167 (fun H locs hP hS => ?_)
                  refine lv_istore_n (lv' := [(2, .int v6), (4, .int v3), (0, .ref (ad 0)), (1, .int x1), (3, .int x3)]) hx hb dX10_code_170 rfl hl (by decide) rfl (fun ls hl => ?_)
                  obtain ⟨v8, ev8⟩ : ∃ y : Int32, y = x3 + 1 := ⟨_, rfl⟩
                  have hf := nm_at hf v8 ev8
                  refine lv_iinc (v := v8) (lv' := [(3, .int v8), (2, .int v6), (4, .int v3), (0, .ref (ad 0)), (1, .int x1)]) hx hb dX10_code_171 hl (k := 4) rfl (by rw [ev8]; rfl) (by decide) rfl (fun ls hl => ?_)
                  refine lv_goto (tgt := 51) hx hb dX10_code_174 (by decide) ?_
                  exact ih σ7 x1 v6 v8 _ _ _ hP hS (lv_sub hl [3, 4, 1, 0] rfl) hf
                · have hf := ite_f hf hc
                  refine lv_iconst (v := 1) hx hb dX10_code_162 (by decide) ?_
                  refine lv_goto (tgt := 167) hx hb dX10_code_163 (by decide) ?_
                  obtain ⟨v9, σ10, hc, hf⟩ := bd_at hf
                  refine callVI (As := [.int 1]) (rest := []) C (mX10_meet hI hc) ⟨gt5_41, gt5_43, gtp51, gt1_11, gt5_44⟩ okX10_meet ⟨Nat.le_of_ble_eq_true rfl, Nat.le_of_ble_eq_true rfl⟩ (rcvOf C hP (show (wM ad cI _)[0]? = some (ad 0, _) from rfl) rfl) rfl hl.1 rfl (Nat.le_of_ble_eq_true rfl) hP hS dX10_code_167 (fun H locs hP hS => ?_)
                  refine lv_istore_n (lv' := [(2, .int v9), (4, .int v3), (0, .ref (ad 0)), (1, .int x1), (3, .int x3)]) hx hb dX10_code_170 rfl hl (by decide) rfl (fun ls hl => ?_)
                  obtain ⟨v11, ev11⟩ : ∃ y : Int32, y = x3 + 1 := ⟨_, rfl⟩
                  have hf := nm_at hf v11 ev11
                  refine lv_iinc (v := v11) (lv' := [(3, .int v11), (2, .int v9), (4, .int v3), (0, .ref (ad 0)), (1, .int x1)]) hx hb dX10_code_171 hl (k := 4) rfl (by rw [ev11]; rfl) (by decide) rfl (fun ls hl => ?_)
                  refine lv_goto (tgt := 51) hx hb dX10_code_174 (by decide) ?_
                  exact ih σ10 x1 v9 v11 _ _ _ hP hS (lv_sub hl [3, 4, 1, 0] rfl) hf
              · have hf := ite_t hf hc
                refine lv_aload_n hx hb dX10_code_141 rfl (lv_at hl 1 rfl) ?_
                refine GX10_9 C hP gt4_12 dX10_code_142 ?_
                refine lv_goto (tgt := 152) hx hb dX10_code_145 (by decide) ?_
                refine PX10_24 hI C hP hS gt4_27 rfl rfl dX10_code_152 (fun σ12 eσ12 H locs hP hS => ?_)
                have hf := nm_at hf σ12 eσ12
                refine lv_aload_n hx hb dX10_code_155 rfl (lv_at hl 1 rfl) ?_
                refine lv_iload hx hb dX10_code_156 (lv_at hl 0 rfl) ?_
                refine lv_iconst (v := 3) hx hb dX10_code_158 (by decide) ?_
                refine lv_icmp_eq (tgt := 166) hx hb dX10_code_159 (by decide) (fun hc => ?_) (fun hc => ?_)
                · have hf := ite_t hf hc
                  refine lv_iconst (v := 0) hx hb dX10_code_166 (by decide) ?_
                  obtain ⟨v13, σ14, hc, hf⟩ := bd_at hf
                  refine callVI (As := [.int 0]) (rest := []) C (mX10_meet hI hc) ⟨gt5_41, gt5_43, gtp51, gt1_11, gt5_44⟩ okX10_meet ⟨Nat.le_of_ble_eq_true rfl, Nat.le_of_ble_eq_true rfl⟩ (rcvOf C hP (show (wM ad cI _)[0]? = some (ad 0, _) from rfl) rfl) rfl hl.1 rfl (Nat.le_of_ble_eq_true rfl) hP hS dX10_code_167 (fun H locs hP hS => ?_)
                  refine lv_istore_n (lv' := [(2, .int v13), (4, .int v3), (0, .ref (ad 0)), (1, .int x1), (3, .int x3)]) hx hb dX10_code_170 rfl hl (by decide) rfl (fun ls hl => ?_)
                  obtain ⟨v15, ev15⟩ : ∃ y : Int32, y = x3 + 1 := ⟨_, rfl⟩
                  have hf := nm_at hf v15 ev15
                  refine lv_iinc (v := v15) (lv' := [(3, .int v15), (2, .int v13), (4, .int v3), (0, .ref (ad 0)), (1, .int x1)]) hx hb dX10_code_171 hl (k := 4) rfl (by rw [ev15]; rfl) (by decide) rfl (fun ls hl => ?_)
                  refine lv_goto (tgt := 51) hx hb dX10_code_174 (by decide) ?_
                  exact ih σ14 x1 v13 v15 _ _ _ hP hS (lv_sub hl [3, 4, 1, 0] rfl) hf
                · have hf := ite_f hf hc
                  refine lv_iconst (v := 1) hx hb dX10_code_162 (by decide) ?_
                  refine lv_goto (tgt := 167) hx hb dX10_code_163 (by decide) ?_
                  obtain ⟨v16, σ17, hc, hf⟩ := bd_at hf
                  refine callVI (As := [.int 1]) (rest := []) C (mX10_meet hI hc) ⟨gt5_41, gt5_43, gtp51, gt1_11, gt5_44⟩ okX10_meet ⟨Nat.le_of_ble_eq_true rfl, Nat.le_of_ble_eq_true rfl⟩ (rcvOf C hP (show (wM ad cI _)[0]? = some (ad 0, _) from rfl) rfl) rfl hl.1 rfl (Nat.le_of_ble_eq_true rfl) hP hS dX10_code_167 (fun H locs hP hS => ?_)
                  refine lv_istore_n (lv' := [(2, .int v16), (4, .int v3), (0, .ref (ad 0)), (1, .int x1), (3, .int x3)]) hx hb dX10_code_170 rfl hl (by decide) rfl (fun ls hl => ?_)
                  obtain ⟨v18, ev18⟩ : ∃ y : Int32, y = x3 + 1 := ⟨_, rfl⟩
                  have hf := nm_at hf v18 ev18
                  refine lv_iinc (v := v18) (lv' := [(3, .int v18), (2, .int v16), (4, .int v3), (0, .ref (ad 0)), (1, .int x1)]) hx hb dX10_code_171 hl (k := 4) rfl (by rw [ev18]; rfl) (by decide) rfl (fun ls hl => ?_)
                  refine lv_goto (tgt := 51) hx hb dX10_code_174 (by decide) ?_
                  exact ih σ17 x1 v16 v18 _ _ _ hP hS (lv_sub hl [3, 4, 1, 0] rfl) hf
            · have hf := ite_t hf hc
              refine lv_iload_n hx hb dX10_code_118 rfl (lv_at hl 2 rfl) ?_
              refine lv_if_eq (tgt := 129) hx hb dX10_code_119 (by decide) (fun hc => ?_) (fun hc => ?_)
              · have hf := ite_t hf hc
                refine lv_iconst (v := 0) hx hb dX10_code_129 (by decide) ?_
                refine lv_istore_n (lv' := [(2, .int 0), (4, .int v3), (0, .ref (ad 0)), (1, .int x1), (3, .int x3)]) hx hb dX10_code_130 rfl hl (by decide) rfl (fun ls hl => ?_)
                refine lv_goto (tgt := 171) hx hb dX10_code_131 (by decide) ?_
                obtain ⟨v19, ev19⟩ : ∃ y : Int32, y = x3 + 1 := ⟨_, rfl⟩
                have hf := nm_at hf v19 ev19
                refine lv_iinc (v := v19) (lv' := [(3, .int v19), (2, .int 0), (4, .int v3), (0, .ref (ad 0)), (1, .int x1)]) hx hb dX10_code_171 hl (k := 4) rfl (by rw [ev19]; rfl) (by decide) rfl (fun ls hl => ?_)
                refine lv_goto (tgt := 51) hx hb dX10_code_174 (by decide) ?_
                exact ih σ4 x1 0 v19 _ _ _ hP hS (lv_sub hl [3, 4, 1, 0] rfl) hf
              · have hf := ite_f hf hc
                refine lv_aload_n hx hb dX10_code_122 rfl (lv_at hl 1 rfl) ?_
                refine GX10_9 C hP gt4_12 dX10_code_123 ?_
                refine lv_if_gt (tgt := 134) hx hb dX10_code_126 (by decide) (fun hc => ?_) (fun hc => ?_)
                · have hf := ite_t hf hc
                  refine lv_aload_n hx hb dX10_code_134 rfl (lv_at hl 1 rfl) ?_
                  refine lv_iload hx hb dX10_code_135 (lv_at hl 0 rfl) ?_
                  refine lv_iconst (v := 1) hx hb dX10_code_137 (by decide) ?_
                  refine lv_icmp_ne (tgt := 148) hx hb dX10_code_138 (by decide) (fun hc => ?_) (fun hc => ?_)
                  · have hf := ite_f hf hc
                    refine lv_aload_n hx hb dX10_code_148 rfl (lv_at hl 1 rfl) ?_
                    refine GX10_24 C hP gt4_27 dX10_code_149 ?_
                    refine PX10_24 hI C hP hS gt4_27 rfl rfl dX10_code_152 (fun σ20 eσ20 H locs hP hS => ?_)
                    have hf := nm_at hf σ20 eσ20
                    refine lv_aload_n hx hb dX10_code_155 rfl (lv_at hl 1 rfl) ?_
                    refine lv_iload hx hb dX10_code_156 (lv_at hl 0 rfl) ?_
                    refine lv_iconst (v := 3) hx hb dX10_code_158 (by decide) ?_
                    refine lv_icmp_eq (tgt := 166) hx hb dX10_code_159 (by decide) (fun hc => ?_) (fun hc => ?_)
                    · have hf := ite_t hf hc
                      refine lv_iconst (v := 0) hx hb dX10_code_166 (by decide) ?_
                      obtain ⟨v21, σ22, hc, hf⟩ := bd_at hf
                      refine callVI (As := [.int 0]) (rest := []) C (mX10_meet hI hc) ⟨gt5_41, gt5_43, gtp51, gt1_11, gt5_44⟩ okX10_meet ⟨Nat.le_of_ble_eq_true rfl, Nat.le_of_ble_eq_true rfl⟩ (rcvOf C hP (show (wM ad cI _)[0]? = some (ad 0, _) from rfl) rfl) rfl hl.1 rfl (Nat.le_of_ble_eq_true rfl) hP hS dX10_code_167 (fun H locs hP hS => ?_)
                      refine lv_istore_n (lv' := [(2, .int v21), (4, .int v3), (0, .ref (ad 0)), (1, .int x1), (3, .int x3)]) hx hb dX10_code_170 rfl hl (by decide) rfl (fun ls hl => ?_)
                      obtain ⟨v23, ev23⟩ : ∃ y : Int32, y = x3 + 1 := ⟨_, rfl⟩
                      have hf := nm_at hf v23 ev23
                      refine lv_iinc (v := v23) (lv' := [(3, .int v23), (2, .int v21), (4, .int v3), (0, .ref (ad 0)), (1, .int x1)]) hx hb dX10_code_171 hl (k := 4) rfl (by rw [ev23]; rfl) (by decide) rfl (fun ls hl => ?_)
                      refine lv_goto (tgt := 51) hx hb dX10_code_174 (by decide) ?_
                      exact ih σ22 x1 v21 v23 _ _ _ hP hS (lv_sub hl [3, 4, 1, 0] rfl) hf
                    · have hf := ite_f hf hc
                      refine lv_iconst (v := 1) hx hb dX10_code_162 (by decide) ?_
                      refine lv_goto (tgt := 167) hx hb dX10_code_163 (by decide) ?_
                      obtain ⟨v24, σ25, hc, hf⟩ := bd_at hf
                      refine callVI (As := [.int 1]) (rest := []) C (mX10_meet hI hc) ⟨gt5_41, gt5_43, gtp51, gt1_11, gt5_44⟩ okX10_meet ⟨Nat.le_of_ble_eq_true rfl, Nat.le_of_ble_eq_true rfl⟩ (rcvOf C hP (show (wM ad cI _)[0]? = some (ad 0, _) from rfl) rfl) rfl hl.1 rfl (Nat.le_of_ble_eq_true rfl) hP hS dX10_code_167 (fun H locs hP hS => ?_)
                      refine lv_istore_n (lv' := [(2, .int v24), (4, .int v3), (0, .ref (ad 0)), (1, .int x1), (3, .int x3)]) hx hb dX10_code_170 rfl hl (by decide) rfl (fun ls hl => ?_)
                      obtain ⟨v26, ev26⟩ : ∃ y : Int32, y = x3 + 1 := ⟨_, rfl⟩
                      have hf := nm_at hf v26 ev26
                      refine lv_iinc (v := v26) (lv' := [(3, .int v26), (2, .int v24), (4, .int v3), (0, .ref (ad 0)), (1, .int x1)]) hx hb dX10_code_171 hl (k := 4) rfl (by rw [ev26]; rfl) (by decide) rfl (fun ls hl => ?_)
                      refine lv_goto (tgt := 51) hx hb dX10_code_174 (by decide) ?_
                      exact ih σ25 x1 v24 v26 _ _ _ hP hS (lv_sub hl [3, 4, 1, 0] rfl) hf
                  · have hf := ite_t hf hc
                    refine lv_aload_n hx hb dX10_code_141 rfl (lv_at hl 1 rfl) ?_
                    refine GX10_9 C hP gt4_12 dX10_code_142 ?_
                    refine lv_goto (tgt := 152) hx hb dX10_code_145 (by decide) ?_
                    refine PX10_24 hI C hP hS gt4_27 rfl rfl dX10_code_152 (fun σ27 eσ27 H locs hP hS => ?_)
                    have hf := nm_at hf σ27 eσ27
                    refine lv_aload_n hx hb dX10_code_155 rfl (lv_at hl 1 rfl) ?_
                    refine lv_iload hx hb dX10_code_156 (lv_at hl 0 rfl) ?_
                    refine lv_iconst (v := 3) hx hb dX10_code_158 (by decide) ?_
                    refine lv_icmp_eq (tgt := 166) hx hb dX10_code_159 (by decide) (fun hc => ?_) (fun hc => ?_)
                    · have hf := ite_t hf hc
                      refine lv_iconst (v := 0) hx hb dX10_code_166 (by decide) ?_
                      obtain ⟨v28, σ29, hc, hf⟩ := bd_at hf
                      refine callVI (As := [.int 0]) (rest := []) C (mX10_meet hI hc) ⟨gt5_41, gt5_43, gtp51, gt1_11, gt5_44⟩ okX10_meet ⟨Nat.le_of_ble_eq_true rfl, Nat.le_of_ble_eq_true rfl⟩ (rcvOf C hP (show (wM ad cI _)[0]? = some (ad 0, _) from rfl) rfl) rfl hl.1 rfl (Nat.le_of_ble_eq_true rfl) hP hS dX10_code_167 (fun H locs hP hS => ?_)
                      refine lv_istore_n (lv' := [(2, .int v28), (4, .int v3), (0, .ref (ad 0)), (1, .int x1), (3, .int x3)]) hx hb dX10_code_170 rfl hl (by decide) rfl (fun ls hl => ?_)
                      obtain ⟨v30, ev30⟩ : ∃ y : Int32, y = x3 + 1 := ⟨_, rfl⟩
                      have hf := nm_at hf v30 ev30
                      refine lv_iinc (v := v30) (lv' := [(3, .int v30), (2, .int v28), (4, .int v3), (0, .ref (ad 0)), (1, .int x1)]) hx hb dX10_code_171 hl (k := 4) rfl (by rw [ev30]; rfl) (by decide) rfl (fun ls hl => ?_)
                      refine lv_goto (tgt := 51) hx hb dX10_code_174 (by decide) ?_
                      exact ih σ29 x1 v28 v30 _ _ _ hP hS (lv_sub hl [3, 4, 1, 0] rfl) hf
                    · have hf := ite_f hf hc
                      refine lv_iconst (v := 1) hx hb dX10_code_162 (by decide) ?_
                      refine lv_goto (tgt := 167) hx hb dX10_code_163 (by decide) ?_
                      obtain ⟨v31, σ32, hc, hf⟩ := bd_at hf
                      refine callVI (As := [.int 1]) (rest := []) C (mX10_meet hI hc) ⟨gt5_41, gt5_43, gtp51, gt1_11, gt5_44⟩ okX10_meet ⟨Nat.le_of_ble_eq_true rfl, Nat.le_of_ble_eq_true rfl⟩ (rcvOf C hP (show (wM ad cI _)[0]? = some (ad 0, _) from rfl) rfl) rfl hl.1 rfl (Nat.le_of_ble_eq_true rfl) hP hS dX10_code_167 (fun H locs hP hS => ?_)
                      refine lv_istore_n (lv' := [(2, .int v31), (4, .int v3), (0, .ref (ad 0)), (1, .int x1), (3, .int x3)]) hx hb dX10_code_170 rfl hl (by decide) rfl (fun ls hl => ?_)
                      obtain ⟨v33, ev33⟩ : ∃ y : Int32, y = x3 + 1 := ⟨_, rfl⟩
                      have hf := nm_at hf v33 ev33
                      refine lv_iinc (v := v33) (lv' := [(3, .int v33), (2, .int v31), (4, .int v3), (0, .ref (ad 0)), (1, .int x1)]) hx hb dX10_code_171 hl (k := 4) rfl (by rw [ev33]; rfl) (by decide) rfl (fun ls hl => ?_)
                      refine lv_goto (tgt := 51) hx hb dX10_code_174 (by decide) ?_
                      exact ih σ32 x1 v31 v33 _ _ _ hP hS (lv_sub hl [3, 4, 1, 0] rfl) hf
                · have hf := ite_f hf hc
                  refine lv_iconst (v := 0) hx hb dX10_code_129 (by decide) ?_
                  refine lv_istore_n (lv' := [(2, .int 0), (4, .int v3), (0, .ref (ad 0)), (1, .int x1), (3, .int x3)]) hx hb dX10_code_130 rfl hl (by decide) rfl (fun ls hl => ?_)
                  refine lv_goto (tgt := 171) hx hb dX10_code_131 (by decide) ?_
                  obtain ⟨v34, ev34⟩ : ∃ y : Int32, y = x3 + 1 := ⟨_, rfl⟩
                  have hf := nm_at hf v34 ev34
                  refine lv_iinc (v := v34) (lv' := [(3, .int v34), (2, .int 0), (4, .int v3), (0, .ref (ad 0)), (1, .int x1)]) hx hb dX10_code_171 hl (k := 4) rfl (by rw [ev34]; rfl) (by decide) rfl (fun ls hl => ?_)
                  refine lv_goto (tgt := 51) hx hb dX10_code_174 (by decide) ?_
                  exact ih σ4 x1 0 v34 _ _ _ hP hS (lv_sub hl [3, 4, 1, 0] rfl) hf
          · have hf := ite_t hf hc
            refine lv_aload_n hx hb dX10_code_72 rfl (lv_at hl 1 rfl) ?_
            refine lv_aload_n hx hb dX10_code_73 rfl (lv_at hl 1 rfl) ?_
            refine GX10_26 C hP gt4_29 dX10_code_74 ?_
            obtain ⟨v35, σ36, hc, hf⟩ := bd_at hf
            refine callVI (As := [.int (σ4 0 26)]) (rest := []) C (mX10_fits hI hc) ⟨gt5_29, gt5_31, gtp48, gt1_11, gt5_32⟩ okX10_fits ⟨Nat.le_of_ble_eq_true rfl, Nat.le_of_ble_eq_true rfl⟩ (rcvOf C hP (show (wM ad cI _)[0]? = some (ad 0, _) from rfl) rfl) rfl hl.1 rfl (Nat.le_of_ble_eq_true rfl) hP hS dX10_code_77 (fun H locs hP hS => ?_)
            refine lv_if_eq (tgt := 87) hx hb dX10_code_80 (by decide) (fun hc => ?_) (fun hc => ?_)
            · have hf := ite_t hf hc
              refine lv_iconst (v := 1) hx hb dX10_code_87 (by decide) ?_
              refine lv_istore_n (lv' := [(2, .int 1), (4, .int v3), (0, .ref (ad 0)), (1, .int x1), (3, .int x3)]) hx hb dX10_code_88 rfl hl (by decide) rfl (fun ls hl => ?_)
              refine lv_iload_n hx hb dX10_code_89 rfl (lv_at hl 0 rfl) ?_
              refine lv_if_ge (tgt := 171) hx hb dX10_code_90 (by decide) (fun hc => ?_) (fun hc => ?_)
              · obtain ⟨v37, ev37⟩ : ∃ y : Int32, y = x3 + 1 := ⟨_, rfl⟩
                have hf := nm_at hf v37 ev37
                refine lv_iinc (v := v37) (lv' := [(3, .int v37), (2, .int 1), (4, .int v3), (0, .ref (ad 0)), (1, .int x1)]) hx hb dX10_code_171 hl (k := 4) rfl (by rw [ev37]; rfl) (by decide) rfl (fun ls hl => ?_)
                refine lv_goto (tgt := 51) hx hb dX10_code_174 (by decide) ?_
                exact ih σ36 x1 1 v37 _ _ _ hP hS (lv_sub hl [3, 4, 1, 0] rfl) hf
              · exact absurd hc (by decide)
            · have hf := ite_f hf hc
              refine lv_iconst (v := (-1)) hx hb dX10_code_83 (by decide) ?_
              refine lv_goto (tgt := 88) hx hb dX10_code_84 (by decide) ?_
              refine lv_istore_n (lv' := [(2, .int (-1)), (4, .int v3), (0, .ref (ad 0)), (1, .int x1), (3, .int x3)]) hx hb dX10_code_88 rfl hl (by decide) rfl (fun ls hl => ?_)
              refine lv_iload_n hx hb dX10_code_89 rfl (lv_at hl 0 rfl) ?_
              refine lv_if_ge (tgt := 171) hx hb dX10_code_90 (by decide) (fun hc => ?_) (fun hc => ?_)
              · exact absurd hc (by decide)
              · refine lv_aload_n hx hb dX10_code_93 rfl (lv_at hl 2 rfl) ?_
                obtain ⟨v38, σ39, hc, hf⟩ := bd_at hf
                refine callVV (As := []) (rest := []) C (mX10_putOut hI hc) ⟨gt5_33, gt5_35, gtp49, gt1_11, gt5_36⟩ okX10_putOut ⟨Nat.le_of_ble_eq_true rfl, Nat.le_of_ble_eq_true rfl⟩ (rcvOf C hP (show (wM ad cI _)[0]? = some (ad 0, _) from rfl) rfl) rfl hl.1 rfl (Nat.le_of_ble_eq_true rfl) hP hS dX10_code_94 (fun H locs hP hS => ?_)
                refine lv_aload_n hx hb dX10_code_97 rfl (lv_at hl 2 rfl) ?_
                refine lv_aload_n hx hb dX10_code_98 rfl (lv_at hl 2 rfl) ?_
                refine GX10_24 C hP gt4_27 dX10_code_99 ?_
                obtain ⟨v40, σ41, hc, hf⟩ := bd_at hf
                refine callVV (As := [.int (σ39 0 24)]) (rest := []) C (mX10_take hI hc) ⟨gt4_161, gt4_163, gtp28, gt1_11, gt4_164⟩ okX10_take ⟨Nat.le_of_ble_eq_true rfl, Nat.le_of_ble_eq_true rfl⟩ (rcvOf C hP (show (wM ad cI _)[0]? = some (ad 0, _) from rfl) rfl) rfl hl.1 rfl (Nat.le_of_ble_eq_true rfl) hP hS dX10_code_102 (fun H locs hP hS => ?_)
                refine lv_aload_n hx hb dX10_code_105 rfl (lv_at hl 2 rfl) ?_
                obtain ⟨v42, σ43, hc, hf⟩ := bd_at hf
                refine callVV (As := []) (rest := []) C (mX10_become hI hc) ⟨gt5_37, gt5_39, gtp50, gt1_11, gt5_40⟩ okX10_become ⟨Nat.le_of_ble_eq_true rfl, Nat.le_of_ble_eq_true rfl⟩ (rcvOf C hP (show (wM ad cI _)[0]? = some (ad 0, _) from rfl) rfl) rfl hl.1 rfl (Nat.le_of_ble_eq_true rfl) hP hS dX10_code_106 (fun H locs hP hS => ?_)
                refine lv_goto (tgt := 171) hx hb dX10_code_109 (by decide) ?_
                obtain ⟨v44, ev44⟩ : ∃ y : Int32, y = x3 + 1 := ⟨_, rfl⟩
                have hf := nm_at hf v44 ev44
                refine lv_iinc (v := v44) (lv' := [(3, .int v44), (2, .int (-1)), (4, .int v3), (0, .ref (ad 0)), (1, .int x1)]) hx hb dX10_code_171 hl (k := 4) rfl (by rw [ev44]; rfl) (by decide) rfl (fun ls hl => ?_)
                refine lv_goto (tgt := 51) hx hb dX10_code_174 (by decide) ?_
                exact ih σ43 x1 (-1) v44 _ _ _ hP hS (lv_sub hl [3, 4, 1, 0] rfl) hf
  have B39 : ∀ (σ : St) (x1 y0 : Int32) (H : Heap) (locs : List Loc) (ls : Array Slot), va_P D vwCl (wM ad cI σ) H → va_S (inA ad 5) s.heap H locs → lv_has ls 5 [(0, .ref (ad 0)), (1, .int x1)] → fX10_code_b39 σ x1 y0 = some (r, σ0) → W p l e (rmN 4 89) s m args below meth c H locs 0 0 Q (F0 m 39 ls [.int y0, .ref (ad 0)]) := by
    intro σ x1 y0 H locs ls hP hS hl hf
    unfold fX10_code_b39 at hf
    refine PX10_7 hI C hP hS gt4_10 rfl rfl dX10_code_39 (fun σ1 eσ1 H locs hP hS => ?_)
    have hf := nm_at hf σ1 eσ1
    refine lv_aload_n hx hb dX10_code_42 rfl (lv_at hl 0 rfl) ?_
    refine lv_iconst (v := 0) hx hb dX10_code_43 (by decide) ?_
    refine PX10_22 hI C hP hS gt4_25 rfl rfl dX10_code_44 (fun σ2 eσ2 H locs hP hS => ?_)
    have hf := nm_at hf σ2 eσ2
    refine lv_iconst (v := (-1)) hx hb dX10_code_47 (by decide) ?_
    refine lv_istore_n (lv' := [(2, .int (-1)), (0, .ref (ad 0)), (1, .int x1)]) hx hb dX10_code_48 rfl hl (by decide) rfl (fun ls hl => ?_)
    refine lv_iconst (v := 0) hx hb dX10_code_49 (by decide) ?_
    refine lv_istore_n (lv' := [(3, .int 0), (2, .int (-1)), (0, .ref (ad 0)), (1, .int x1)]) hx hb dX10_code_50 rfl hl (by decide) rfl (fun ls hl => ?_)
    exact B51 200 σ2 x1 (-1) 0 _ _ _ hP hS (lv_sub hl [2, 3, 1, 0] rfl) hf
  have B29 : ∀ (σ : St) (x1 : Int32) (H : Heap) (locs : List Loc) (ls : Array Slot), va_P D vwCl (wM ad cI σ) H → va_S (inA ad 5) s.heap H locs → lv_has ls 5 [(0, .ref (ad 0)), (1, .int x1)] → fX10_code_b29 σ x1 = some (r, σ0) → W p l e (rmN 4 89) s m args below meth c H locs 0 0 Q (F0 m 29 ls []) := by
    intro σ x1 H locs ls hP hS hl hf
    unfold fX10_code_b29 at hf
    refine lv_aload_n hx hb dX10_code_29 rfl (lv_at hl 0 rfl) ?_
    refine lv_iload_n hx hb dX10_code_30 rfl (lv_at hl 1 rfl) ?_
    refine lv_if_eq (tgt := 38) hx hb dX10_code_31 (by decide) (fun hc => ?_) (fun hc => ?_)
    · have hf := ite_t hf hc
      refine lv_iconst (v := 1) hx hb dX10_code_38 (by decide) ?_
      exact B39 σ x1 1 _ _ _ hP hS (lv_sub hl [0, 1] rfl) hf
    · have hf := ite_f hf hc
      refine lv_iconst (v := 2) hx hb dX10_code_34 (by decide) ?_
      refine lv_goto (tgt := 39) hx hb dX10_code_35 (by decide) ?_
      exact B39 σ x1 2 _ _ _ hP hS (lv_sub hl [0, 1] rfl) hf
  unfold fX10_code at hf
  refine lv_aload_n hx hb dX10_code_0 rfl (lv_at hl 0 rfl) ?_
  refine GX10_0 C hP gt4_3 dX10_code_1 ?_
  refine lv_if_eq (tgt := 27) hx hb dX10_code_4 (by decide) (fun hc => ?_) (fun hc => ?_)
  · have hf := ite_t hf hc
    refine lv_iconst (v := (-1)) hx hb dX10_code_27 (by decide) ?_
    exact MI.ret (wf := wM ad cI) hQ C hr hlk rfl hf hP hS dX10_code_28
  · have hf := ite_f hf hc
    refine lv_aload_n hx hb dX10_code_7 rfl (lv_at hl 0 rfl) ?_
    refine GX10_7 C hP gt4_10 dX10_code_8 ?_
    refine lv_iconst (v := 3) hx hb dX10_code_11 (by decide) ?_
    refine lv_icmp_eq (tgt := 27) hx hb dX10_code_12 (by decide) (fun hc => ?_) (fun hc => ?_)
    · have hf := ite_t hf hc
      refine lv_iconst (v := (-1)) hx hb dX10_code_27 (by decide) ?_
      exact MI.ret (wf := wM ad cI) hQ C hr hlk rfl hf hP hS dX10_code_28
    · have hf := ite_f hf hc
      refine lv_aload_n hx hb dX10_code_15 rfl (lv_at hl 0 rfl) ?_
      refine GX10_7 C hP gt4_10 dX10_code_16 ?_
      refine lv_iconst (v := 2) hx hb dX10_code_19 (by decide) ?_
      refine lv_icmp_ne (tgt := 29) hx hb dX10_code_20 (by decide) (fun hc => ?_) (fun hc => ?_)
      · have hf := ite_f hf hc
        exact B29 σ p1 _ _ _ hP hS (lv_sub hl [0, 1] rfl) hf
      · have hf := ite_t hf hc
        refine lv_iload_n hx hb dX10_code_23 rfl (lv_at hl 1 rfl) ?_
        refine lv_if_ne (tgt := 29) hx hb dX10_code_24 (by decide) (fun hc => ?_) (fun hc => ?_)
        · have hf := ite_f hf hc
          exact B29 σ p1 _ _ _ hP hS (lv_sub hl [0, 1] rfl) hf
        · have hf := ite_t hf hc
          refine lv_iconst (v := (-1)) hx hb dX10_code_27 (by decide) ?_
          exact MI.ret (wf := wM ad cI) hQ C hr hlk rfl hf hP hS dX10_code_28
def fX10_flush (σ : St) : Option (Int32 × St) := (if (σ 0 0) = 0 then some ((-1), σ) else (if 2 ≤ (σ 0 7) then (if (σ 0 2) = 0 then nm (up σ 0 7 3) (fun σ1 => some (0, σ1)) else (if (σ 0 1) = 5 then (if (σ 0 18) = 0 then nm (up σ 0 7 3) (fun σ3 => some (0, σ3)) else nm (up σ 0 26 0) (fun σ4 => bd (fX10_unshift σ4) (fun _ σ6 => bd (fX10_fits σ6 (σ6 0 26)) (fun v7 σ8 => (if v7 = 0 then some (1, σ8) else bd (fX10_putOut σ8) (fun _ σ10 => nm (up σ10 0 18 0) (fun σ11 => nm (up σ11 0 20 0) (fun σ12 => nm (up σ12 0 21 0) (fun σ13 => nm (up σ13 0 7 3) (fun σ14 => some (0, σ14))))))))))) else nm (up σ 0 7 3) (fun σ2 => some (0, σ2)))) else some ((-1), σ)))
set_option maxHeartbeats 4000000 in
set_option maxRecDepth 100000 in
theorem mX10_flush {l : Launch} {D : va_G} {kS vS : Nat → Nat} {ad : Nat → Nat} {cI cF : ClassId} {σ σ0 : St} {r : Int32} (hI : Inj ad 5) (hf : fX10_flush σ  = some (r, σ0)) : MI l D (tyC cI cF) (inA ad 5) kS vS yX10_flush cX10_flush 1 .int 2 41 [.ref (ad 0)] (wM ad cI σ) (wM ad cI σ0) r := by
  refine MI.of (by decide) (Nat.le_of_ble_eq_true rfl) (fun p e s m args below meth c ls Q hQ C hr hlk hP hS hl => ?_)
  obtain ⟨hx, hb, hml, hown, hts, hK, hKS⟩ := id C
  have hl : lv_has ls 1 [(0, .ref (ad 0))] := hl
  unfold fX10_flush at hf
  refine lv_aload_n hx hb dX10_flush_0 rfl (lv_at hl 0 rfl) ?_
  refine GX10_0 C hP gt4_3 dX10_flush_1 ?_
  refine lv_if_eq (tgt := 15) hx hb dX10_flush_4 (by decide) (fun hc => ?_) (fun hc => ?_)
  · have hf := ite_t hf hc
    refine lv_iconst (v := (-1)) hx hb dX10_flush_15 (by decide) ?_
    exact MI.ret (wf := wM ad cI) hQ C hr hlk rfl hf hP hS dX10_flush_16
  · have hf := ite_f hf hc
    refine lv_aload_n hx hb dX10_flush_7 rfl (lv_at hl 0 rfl) ?_
    refine GX10_7 C hP gt4_10 dX10_flush_8 ?_
    refine lv_iconst (v := 2) hx hb dX10_flush_11 (by decide) ?_
    refine lv_icmp_ge (tgt := 17) hx hb dX10_flush_12 (by decide) (fun hc => ?_) (fun hc => ?_)
    · have hf := ite_t hf hc
      refine lv_aload_n hx hb dX10_flush_17 rfl (lv_at hl 0 rfl) ?_
      refine GX10_2 C hP gt4_5 dX10_flush_18 ?_
      refine lv_if_eq (tgt := 80) hx hb dX10_flush_21 (by decide) (fun hc => ?_) (fun hc => ?_)
      · have hf := ite_t hf hc
        refine lv_aload_n hx hb dX10_flush_80 rfl (lv_at hl 0 rfl) ?_
        refine lv_iconst (v := 3) hx hb dX10_flush_81 (by decide) ?_
        refine PX10_7 hI C hP hS gt4_10 rfl rfl dX10_flush_82 (fun σ1 eσ1 H locs hP hS => ?_)
        have hf := nm_at hf σ1 eσ1
        refine lv_iconst (v := 0) hx hb dX10_flush_85 (by decide) ?_
        exact MI.ret (wf := wM ad cI) hQ C hr hlk rfl hf hP hS dX10_flush_86
      · have hf := ite_f hf hc
        refine lv_aload_n hx hb dX10_flush_24 rfl (lv_at hl 0 rfl) ?_
        refine GX10_1 C hP gt4_4 dX10_flush_25 ?_
        refine lv_iconst (v := 5) hx hb dX10_flush_28 (by decide) ?_
        refine lv_icmp_ne (tgt := 80) hx hb dX10_flush_29 (by decide) (fun hc => ?_) (fun hc => ?_)
        · have hf := ite_f hf hc
          refine lv_aload_n hx hb dX10_flush_80 rfl (lv_at hl 0 rfl) ?_
          refine lv_iconst (v := 3) hx hb dX10_flush_81 (by decide) ?_
          refine PX10_7 hI C hP hS gt4_10 rfl rfl dX10_flush_82 (fun σ2 eσ2 H locs hP hS => ?_)
          have hf := nm_at hf σ2 eσ2
          refine lv_iconst (v := 0) hx hb dX10_flush_85 (by decide) ?_
          exact MI.ret (wf := wM ad cI) hQ C hr hlk rfl hf hP hS dX10_flush_86
        · have hf := ite_t hf hc
          refine lv_aload_n hx hb dX10_flush_32 rfl (lv_at hl 0 rfl) ?_
          refine GX10_18 C hP gt4_21 dX10_flush_33 ?_
          refine lv_if_eq (tgt := 80) hx hb dX10_flush_36 (by decide) (fun hc => ?_) (fun hc => ?_)
          · have hf := ite_t hf hc
            refine lv_aload_n hx hb dX10_flush_80 rfl (lv_at hl 0 rfl) ?_
            refine lv_iconst (v := 3) hx hb dX10_flush_81 (by decide) ?_
            refine PX10_7 hI C hP hS gt4_10 rfl rfl dX10_flush_82 (fun σ3 eσ3 H locs hP hS => ?_)
            have hf := nm_at hf σ3 eσ3
            refine lv_iconst (v := 0) hx hb dX10_flush_85 (by decide) ?_
            exact MI.ret (wf := wM ad cI) hQ C hr hlk rfl hf hP hS dX10_flush_86
          · have hf := ite_f hf hc
            refine lv_aload_n hx hb dX10_flush_39 rfl (lv_at hl 0 rfl) ?_
            refine lv_iconst (v := 0) hx hb dX10_flush_40 (by decide) ?_
            refine PX10_26 hI C hP hS gt4_29 rfl rfl dX10_flush_41 (fun σ4 eσ4 H locs hP hS => ?_)
            have hf := nm_at hf σ4 eσ4
            refine lv_aload_n hx hb dX10_flush_44 rfl (lv_at hl 0 rfl) ?_
            obtain ⟨v5, σ6, hc, hf⟩ := bd_at hf
            refine callVV (As := []) (rest := []) C (mX10_unshift hI hc) ⟨gt5_7, gt5_9, gtp44, gt1_11, gt5_10⟩ okX10_unshift ⟨Nat.le_of_ble_eq_true rfl, Nat.le_of_ble_eq_true rfl⟩ (rcvOf C hP (show (wM ad cI _)[0]? = some (ad 0, _) from rfl) rfl) rfl hl.1 rfl (Nat.le_of_ble_eq_true rfl) hP hS dX10_flush_45 (fun H locs hP hS => ?_)
            refine lv_aload_n hx hb dX10_flush_48 rfl (lv_at hl 0 rfl) ?_
            refine lv_aload_n hx hb dX10_flush_49 rfl (lv_at hl 0 rfl) ?_
            refine GX10_26 C hP gt4_29 dX10_flush_50 ?_
            obtain ⟨v7, σ8, hc, hf⟩ := bd_at hf
            refine callVI (As := [.int (σ6 0 26)]) (rest := []) C (mX10_fits hI hc) ⟨gt5_29, gt5_31, gtp48, gt1_11, gt5_32⟩ okX10_fits ⟨Nat.le_of_ble_eq_true rfl, Nat.le_of_ble_eq_true rfl⟩ (rcvOf C hP (show (wM ad cI _)[0]? = some (ad 0, _) from rfl) rfl) rfl hl.1 rfl (Nat.le_of_ble_eq_true rfl) hP hS dX10_flush_53 (fun H locs hP hS => ?_)
            refine lv_if_ne (tgt := 61) hx hb dX10_flush_56 (by decide) (fun hc => ?_) (fun hc => ?_)
            · have hf := ite_f hf hc
              refine lv_aload_n hx hb dX10_flush_61 rfl (lv_at hl 0 rfl) ?_
              obtain ⟨v9, σ10, hc, hf⟩ := bd_at hf
              refine callVV (As := []) (rest := []) C (mX10_putOut hI hc) ⟨gt5_33, gt5_35, gtp49, gt1_11, gt5_36⟩ okX10_putOut ⟨Nat.le_of_ble_eq_true rfl, Nat.le_of_ble_eq_true rfl⟩ (rcvOf C hP (show (wM ad cI _)[0]? = some (ad 0, _) from rfl) rfl) rfl hl.1 rfl (Nat.le_of_ble_eq_true rfl) hP hS dX10_flush_62 (fun H locs hP hS => ?_)
              refine lv_aload_n hx hb dX10_flush_65 rfl (lv_at hl 0 rfl) ?_
              refine lv_iconst (v := 0) hx hb dX10_flush_66 (by decide) ?_
              refine PX10_18 hI C hP hS gt4_21 rfl rfl dX10_flush_67 (fun σ11 eσ11 H locs hP hS => ?_)
              have hf := nm_at hf σ11 eσ11
              refine lv_aload_n hx hb dX10_flush_70 rfl (lv_at hl 0 rfl) ?_
              refine lv_iconst (v := 0) hx hb dX10_flush_71 (by decide) ?_
              refine PX10_20 hI C hP hS gt4_23 rfl rfl dX10_flush_72 (fun σ12 eσ12 H locs hP hS => ?_)
              have hf := nm_at hf σ12 eσ12
              refine lv_aload_n hx hb dX10_flush_75 rfl (lv_at hl 0 rfl) ?_
              refine lv_iconst (v := 0) hx hb dX10_flush_76 (by decide) ?_
              refine PX10_21 hI C hP hS gt4_24 rfl rfl dX10_flush_77 (fun σ13 eσ13 H locs hP hS => ?_)
              have hf := nm_at hf σ13 eσ13
              refine lv_aload_n hx hb dX10_flush_80 rfl (lv_at hl 0 rfl) ?_
              refine lv_iconst (v := 3) hx hb dX10_flush_81 (by decide) ?_
              refine PX10_7 hI C hP hS gt4_10 rfl rfl dX10_flush_82 (fun σ14 eσ14 H locs hP hS => ?_)
              have hf := nm_at hf σ14 eσ14
              refine lv_iconst (v := 0) hx hb dX10_flush_85 (by decide) ?_
              exact MI.ret (wf := wM ad cI) hQ C hr hlk rfl hf hP hS dX10_flush_86
            · have hf := ite_t hf hc
              refine lv_iconst (v := 1) hx hb dX10_flush_59 (by decide) ?_
              exact MI.ret (wf := wM ad cI) hQ C hr hlk rfl hf hP hS dX10_flush_60
    · have hf := ite_f hf hc
      refine lv_iconst (v := (-1)) hx hb dX10_flush_15 (by decide) ?_
      exact MI.ret (wf := wM ad cI) hQ C hr hlk rfl hf hP hS dX10_flush_16
