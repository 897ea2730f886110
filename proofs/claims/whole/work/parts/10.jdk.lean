def fJ0_isLatin1_aae02 (i : Nat) (σ : St) : Option (Int32 × St) := some (1, σ)
set_option maxHeartbeats 4000000 in
set_option maxRecDepth 100000 in
theorem mJ0_isLatin1_aae02 {l : Launch} {D : va_G} {kS vS : Nat → Nat} {cI cF : ClassId} {i : Nat} {σ σ0 : St} {r : Int32} {wf : St → va_W} {A : Nat → Prop} (hi : iS i) (hf : fJ0_isLatin1_aae02 i σ  = some (r, σ0)) : MI l D (tyC cI cF) (A) kS vS yJ0_isLatin1_aae02 cJ0_isLatin1_aae02 1 .boolean 0 0 [.ref (kS i)] (wf σ) (wf σ0) r := by
  refine MI.of (by decide) (Nat.le_of_ble_eq_true rfl) (fun p e s m args below meth c ls Q hQ C hr hlk hP hS hl => ?_)
  obtain ⟨hx, hb, hml, hown, hts, hK, hKS⟩ := id C
  have hl : lv_has ls 1 [(0, .ref (kS i))] := hl
  unfold fJ0_isLatin1_aae02 at hf
  refine va_gets hx hb hKS.2.2.1 hS hown (hts _ gt2_124) (fun _ h9 => h9) dJ0_isLatin1_aae02_0 ?_
  refine lv_if_eq (tgt := 17) hx hb dJ0_isLatin1_aae02_3 (by decide) (fun hc => ?_) (fun hc => ?_)
  · exact absurd hc (by decide)
  · refine lv_aload_n hx hb dJ0_isLatin1_aae02_6 rfl (lv_at hl 0 rfl) ?_
    refine vk_getf hx hb (hKS.1.1 i hi).2.1 hS hown (hts _ gt5_58) (fun _ h9 => h9) dJ0_isLatin1_aae02_7 ?_
    refine lv_if_ne (tgt := 17) hx hb dJ0_isLatin1_aae02_10 (by decide) (fun hc => ?_) (fun hc => ?_)
    · exact absurd hc (by decide)
    · refine lv_iconst (v := 1) hx hb dJ0_isLatin1_aae02_13 (by decide) ?_
      refine lv_goto (tgt := 18) hx hb dJ0_isLatin1_aae02_14 (by decide) ?_
      exact MI.ret (wf := wf) hQ C hr hlk rfl hf hP hS dJ0_isLatin1_aae02_18
def fJ0_coder_7d493 (i : Nat) (σ : St) : Option (Int32 × St) := some (0, σ)
set_option maxHeartbeats 4000000 in
set_option maxRecDepth 100000 in
theorem mJ0_coder_7d493 {l : Launch} {D : va_G} {kS vS : Nat → Nat} {cI cF : ClassId} {i : Nat} {σ σ0 : St} {r : Int32} {wf : St → va_W} {A : Nat → Prop} (hi : iS i) (hf : fJ0_coder_7d493 i σ  = some (r, σ0)) : MI l D (tyC cI cF) (A) kS vS yJ0_coder_7d493 cJ0_coder_7d493 1 .byte 0 0 [.ref (kS i)] (wf σ) (wf σ0) r := by
  refine MI.of (by decide) (Nat.le_of_ble_eq_true rfl) (fun p e s m args below meth c ls Q hQ C hr hlk hP hS hl => ?_)
  obtain ⟨hx, hb, hml, hown, hts, hK, hKS⟩ := id C
  have hl : lv_has ls 1 [(0, .ref (kS i))] := hl
  unfold fJ0_coder_7d493 at hf
  refine va_gets hx hb hKS.2.2.1 hS hown (hts _ gt2_124) (fun _ h9 => h9) dJ0_coder_7d493_0 ?_
  refine lv_if_eq (tgt := 13) hx hb dJ0_coder_7d493_3 (by decide) (fun hc => ?_) (fun hc => ?_)
  · exact absurd hc (by decide)
  · refine lv_aload_n hx hb dJ0_coder_7d493_6 rfl (lv_at hl 0 rfl) ?_
    refine vk_getf hx hb (hKS.1.1 i hi).2.1 hS hown (hts _ gt5_58) (fun _ h9 => h9) dJ0_coder_7d493_7 ?_
    refine lv_goto (tgt := 14) hx hb dJ0_coder_7d493_10 (by decide) ?_
    exact MI.ret (wf := wf) hQ C hr hlk rfl hf hP hS dJ0_coder_7d493_14
def fJ0_length_8abf5 (i : Nat) (σ : St) : Option (Int32 × St) := bd (fJ0_coder_7d493 i σ) (fun v1 σ2 => some ((Int32.ofNat (ksL.getD i 0)) >>> (v1 &&& 31), σ2))
set_option maxHeartbeats 4000000 in
set_option maxRecDepth 100000 in
theorem mJ0_length_8abf5 {l : Launch} {D : va_G} {kS vS : Nat → Nat} {cI cF : ClassId} {i : Nat} {σ σ0 : St} {r : Int32} {wf : St → va_W} {A : Nat → Prop} (hi : iS i) (hf : fJ0_length_8abf5 i σ  = some (r, σ0)) : MI l D (tyC cI cF) (A) kS vS yJ0_length_8abf5 cJ0_length_8abf5 1 .int 1 20 [.ref (kS i)] (wf σ) (wf σ0) r := by
  refine MI.of (by decide) (Nat.le_of_ble_eq_true rfl) (fun p e s m args below meth c ls Q hQ C hr hlk hP hS hl => ?_)
  obtain ⟨hx, hb, hml, hown, hts, hK, hKS⟩ := id C
  have hl : lv_has ls 1 [(0, .ref (kS i))] := hl
  unfold fJ0_length_8abf5 at hf
  refine lv_aload_n hx hb dJ0_length_8abf5_0 rfl (lv_at hl 0 rfl) ?_
  refine vk_getf hx hb (hKS.1.1 i hi).2.2.1 hS hown (hts _ gt5_59) (fun _ h9 => h9) dJ0_length_8abf5_1 ?_
  refine va_tlen (v := Int32.ofNat (ksL.getD i 0)) hx hb (hKS.1.1 i hi).2.2.2 hS rfl dJ0_length_8abf5_4 ?_
  refine lv_aload_n hx hb dJ0_length_8abf5_5 rfl (lv_at hl 0 rfl) ?_
  obtain ⟨v1, σ2, hc, hf⟩ := bd_at hf
  refine callVI (As := []) (rest := [.int (Int32.ofNat (ksL.getD i 0))]) C (mJ0_coder_7d493 (i := i) (wf := wf) hi hc) ⟨gt2_130, gt2_131, gt2_132, gt1_13, gt2_133⟩ okJ0_coder_7d493 ⟨Nat.le_of_ble_eq_true rfl, Nat.le_of_ble_eq_true rfl⟩ (vk_recv hKS.1 hi hS) rfl hl.1 rfl (Nat.le_of_ble_eq_true rfl) hP hS dJ0_length_8abf5_6 (fun H locs hP hS => ?_)
  refine lv_ishr hx hb dJ0_length_8abf5_9 ?_
  exact MI.ret (wf := wf) hQ C hr hlk rfl hf hP hS dJ0_length_8abf5_10
def fJ1_canEncode_9a6ad (σ : St) (p0 : Int32) : Option (Int32 × St) := (if p0 < 0 then some (0, σ) else (if 255 < p0 then some (0, σ) else some (1, σ)))
set_option maxHeartbeats 4000000 in
set_option maxRecDepth 100000 in
theorem mJ1_canEncode_9a6ad {l : Launch} {D : va_G} {kS vS : Nat → Nat} {cI cF : ClassId} {σ σ0 : St} {p0 : Int32} {r : Int32} {wf : St → va_W} {A : Nat → Prop} (hf : fJ1_canEncode_9a6ad σ p0 = some (r, σ0)) : MI l D (tyC cI cF) (A) kS vS yJ1_canEncode_9a6ad cJ1_canEncode_9a6ad 1 .boolean 0 0 [.int p0] (wf σ) (wf σ0) r := by
  refine MI.of (by decide) (Nat.le_of_ble_eq_true rfl) (fun p e s m args below meth c ls Q hQ C hr hlk hP hS hl => ?_)
  obtain ⟨hx, hb, hml, hown, hts, hK, hKS⟩ := id C
  have hl : lv_has ls 1 [(0, .int p0)] := hl
  unfold fJ1_canEncode_9a6ad at hf
  refine lv_iload_n hx hb dJ1_canEncode_9a6ad_0 rfl (lv_at hl 0 rfl) ?_
  refine lv_if_lt (tgt := 15) hx hb dJ1_canEncode_9a6ad_1 (by decide) (fun hc => ?_) (fun hc => ?_)
  · have hf := ite_t hf hc
    refine lv_iconst (v := 0) hx hb dJ1_canEncode_9a6ad_15 (by decide) ?_
    exact MI.ret (wf := wf) hQ C hr hlk rfl hf hP hS dJ1_canEncode_9a6ad_16
  · have hf := ite_f hf hc
    refine lv_iload_n hx hb dJ1_canEncode_9a6ad_4 rfl (lv_at hl 0 rfl) ?_
    refine lv_sipush (v := 255) hx hb dJ1_canEncode_9a6ad_5 (by decide) ?_
    refine lv_icmp_gt (tgt := 15) hx hb dJ1_canEncode_9a6ad_8 (by decide) (fun hc => ?_) (fun hc => ?_)
    · have hf := ite_t hf hc
      refine lv_iconst (v := 0) hx hb dJ1_canEncode_9a6ad_15 (by decide) ?_
      exact MI.ret (wf := wf) hQ C hr hlk rfl hf hP hS dJ1_canEncode_9a6ad_16
    · have hf := ite_f hf hc
      refine lv_iconst (v := 1) hx hb dJ1_canEncode_9a6ad_11 (by decide) ?_
      refine lv_goto (tgt := 16) hx hb dJ1_canEncode_9a6ad_12 (by decide) ?_
      exact MI.ret (wf := wf) hQ C hr hlk rfl hf hP hS dJ1_canEncode_9a6ad_16
def fJ1_indexOfChar_4cfef_b7 (i : Nat) : Nat → St → Int32 → Int32 → Int32 → Option (Int32 × St)
  | 0, _, _, _, _ => none
  | n + 1, σ, x3, x4, x5 => (if x3 ≤ x5 then some ((-1), σ) else ld (bB i) (ksL.getD i 0) x5 (fun v2 => (if v2 = x4 then some (x5, σ) else nm (x5 + 1) (fun v3 => fJ1_indexOfChar_4cfef_b7 i n σ x3 x4 v3))))
def fJ1_indexOfChar_4cfef (i : Nat) (σ : St) (p1 p2 p3 : Int32) : Option (Int32 × St) := nm ((p1).toInt8.toInt32) (fun v1 => fJ1_indexOfChar_4cfef_b7 i 200 σ p3 v1 p2)
set_option maxHeartbeats 4000000 in
set_option maxRecDepth 100000 in
theorem mJ1_indexOfChar_4cfef {l : Launch} {D : va_G} {kS vS : Nat → Nat} {cI cF : ClassId} {i : Nat} {σ σ0 : St} {p1 p2 p3 : Int32} {r : Int32} {wf : St → va_W} {A : Nat → Prop} (hi : iS i) (hf : fJ1_indexOfChar_4cfef i σ p1 p2 p3 = some (r, σ0)) : MI l D (tyC cI cF) (A) kS vS yJ1_indexOfChar_4cfef cJ1_indexOfChar_4cfef 6 .int 0 0 [.ref (vS i), .int p1, .int p2, .int p3] (wf σ) (wf σ0) r := by
  refine MI.of (by decide) (Nat.le_of_ble_eq_true rfl) (fun p e s m args below meth c ls Q hQ C hr hlk hP hS hl => ?_)
  obtain ⟨hx, hb, hml, hown, hts, hK, hKS⟩ := id C
  have hl : lv_has ls 6 [(0, .ref (vS i)), (1, .int p1), (2, .int p2), (3, .int p3)] := hl
  have B7 : ∀ n : Nat, ∀ (σ : St) (x3 x4 x5 : Int32) (H : Heap) (locs : List Loc) (ls : Array Slot), va_P D vwCl (wf σ) H → va_S (A) s.heap H locs → lv_has ls 6 [(0, .ref (vS i)), (3, .int x3), (4, .int x4), (5, .int x5)] → fJ1_indexOfChar_4cfef_b7 i n σ x3 x4 x5 = some (r, σ0) → W p l e (rmN 0 0) s m args below meth c H locs 0 0 Q (F0 m 7 ls []) := by
    intro n
    induction n with
    | zero =>
      intro σ x3 x4 x5 H locs ls hP hS hl hf
      exact nomatch (show (none : Option (Int32 × St)) = some (r, σ0) from hf)
    | succ n ih =>
      intro σ x3 x4 x5 H locs ls hP hS hl hf
      rw [fJ1_indexOfChar_4cfef_b7] at hf
      refine lv_iload hx hb dJ1_indexOfChar_4cfef_7 (lv_at hl 3 rfl) ?_
      refine lv_iload_n hx hb dJ1_indexOfChar_4cfef_9 rfl (lv_at hl 1 rfl) ?_
      refine lv_icmp_ge (tgt := 31) hx hb dJ1_indexOfChar_4cfef_10 (by decide) (fun hc => ?_) (fun hc => ?_)
      · have hf := ite_t hf hc
        refine lv_iconst (v := (-1)) hx hb dJ1_indexOfChar_4cfef_31 (by decide) ?_
        exact MI.ret (wf := wf) hQ C hr hlk rfl hf hP hS dJ1_indexOfChar_4cfef_32
      · have hf := ite_f hf hc
        refine lv_aload_n hx hb dJ1_indexOfChar_4cfef_13 rfl (lv_at hl 0 rfl) ?_
        refine lv_iload hx hb dJ1_indexOfChar_4cfef_14 (lv_at hl 3 rfl) ?_
        obtain ⟨hin, hf⟩ := ld_at hf
        refine va_tb hx hb (hKS.1.1 i hi).2.2.2 hS hin rfl dJ1_indexOfChar_4cfef_16 ?_
        refine lv_topi (fun v2 ev2 => ?_)
        have hf := hf v2 ev2
        refine lv_iload hx hb dJ1_indexOfChar_4cfef_17 (lv_at hl 2 rfl) ?_
        refine lv_icmp_ne (tgt := 25) hx hb dJ1_indexOfChar_4cfef_19 (by decide) (fun hc => ?_) (fun hc => ?_)
        · have hf := ite_f hf hc
          obtain ⟨v3, ev3⟩ : ∃ y : Int32, y = x5 + 1 := ⟨_, rfl⟩
          have hf := nm_at hf v3 ev3
          refine lv_iinc (v := v3) (lv' := [(5, .int v3), (0, .ref (vS i)), (3, .int x3), (4, .int x4)]) hx hb dJ1_indexOfChar_4cfef_25 hl (k := 3) rfl (by rw [ev3]; rfl) (by decide) rfl (fun ls hl => ?_)
          refine lv_goto (tgt := 7) hx hb dJ1_indexOfChar_4cfef_28 (by decide) ?_
          exact ih σ x3 x4 v3 _ _ _ hP hS (lv_sub hl [1, 2, 3, 0] rfl) hf
        · have hf := ite_t hf hc
          refine lv_iload hx hb dJ1_indexOfChar_4cfef_22 (lv_at hl 3 rfl) ?_
          exact MI.ret (wf := wf) hQ C hr hlk rfl hf hP hS dJ1_indexOfChar_4cfef_24
  unfold fJ1_indexOfChar_4cfef at hf
  refine lv_iload_n hx hb dJ1_indexOfChar_4cfef_0 rfl (lv_at hl 1 rfl) ?_
  refine lv_i2b (v := (p1).toInt8.toInt32) hx hb dJ1_indexOfChar_4cfef_1 rfl ?_
  refine lv_topi (fun v1 ev1 => ?_)
  have hf := nm_at hf v1 ev1
  refine lv_istore (lv' := [(4, .int v1), (0, .ref (vS i)), (1, .int p1), (2, .int p2), (3, .int p3)]) hx hb dJ1_indexOfChar_4cfef_2 hl (by decide) rfl (fun ls hl => ?_)
  refine lv_iload_n hx hb dJ1_indexOfChar_4cfef_4 rfl (lv_at hl 3 rfl) ?_
  refine lv_istore (lv' := [(5, .int p2), (4, .int v1), (0, .ref (vS i)), (1, .int p1), (2, .int p2), (3, .int p3)]) hx hb dJ1_indexOfChar_4cfef_5 hl (by decide) rfl (fun ls hl => ?_)
  exact B7 200 σ p3 v1 p2 _ _ _ hP hS (lv_sub hl [2, 5, 1, 0] rfl) hf
def fJ1_indexOf_4cfef (i : Nat) (σ : St) (p1 p2 p3 : Int32) : Option (Int32 × St) := bd (fJ1_canEncode_9a6ad σ p1) (fun v1 σ2 => (if v1 = 0 then some ((-1), σ2) else nm (if p2 < 0 then 0 else p2) (fun v3 => nm (if (Int32.ofNat (ksL.getD i 0)) < p3 then (Int32.ofNat (ksL.getD i 0)) else p3) (fun v4 => (if v3 < v4 then bd (fJ1_indexOfChar_4cfef i σ2 p1 v3 v4) (fun v5 σ6 => some (v5, σ6)) else some ((-1), σ2))))))
set_option maxHeartbeats 4000000 in
set_option maxRecDepth 100000 in
theorem mJ1_indexOf_4cfef {l : Launch} {D : va_G} {kS vS : Nat → Nat} {cI cF : ClassId} {i : Nat} {σ σ0 : St} {p1 p2 p3 : Int32} {r : Int32} {wf : St → va_W} {A : Nat → Prop} (hi : iS i) (hf : fJ1_indexOf_4cfef i σ p1 p2 p3 = some (r, σ0)) : MI l D (tyC cI cF) (A) kS vS yJ1_indexOf_4cfef cJ1_indexOf_4cfef 4 .int 1 25 [.ref (vS i), .int p1, .int p2, .int p3] (wf σ) (wf σ0) r := by
  refine MI.of (by decide) (Nat.le_of_ble_eq_true rfl) (fun p e s m args below meth c ls Q hQ C hr hlk hP hS hl => ?_)
  obtain ⟨hx, hb, hml, hown, hts, hK, hKS⟩ := id C
  have hl : lv_has ls 4 [(0, .ref (vS i)), (1, .int p1), (2, .int p2), (3, .int p3)] := hl
  unfold fJ1_indexOf_4cfef at hf
  refine lv_iload_n hx hb dJ1_indexOf_4cfef_0 rfl (lv_at hl 1 rfl) ?_
  obtain ⟨v1, σ2, hc, hf⟩ := bd_at hf
  refine callSI (As := [.int p1]) (rest := []) C (mJ1_canEncode_9a6ad (wf := wf) hc) ⟨gt2_137, gt2_138, gt1_14, gt2_139⟩ okJ1_canEncode_9a6ad ⟨Nat.le_of_ble_eq_true rfl, Nat.le_of_ble_eq_true rfl⟩ rfl hl.1 rfl (Nat.le_of_ble_eq_true rfl) hP hS dJ1_indexOf_4cfef_1 (fun H locs hP hS => ?_)
  refine lv_if_ne (tgt := 9) hx hb dJ1_indexOf_4cfef_4 (by decide) (fun hc => ?_) (fun hc => ?_)
  · have hf := ite_f hf hc
    refine lv_iload_n hx hb dJ1_indexOf_4cfef_9 rfl (lv_at hl 2 rfl) ?_
    refine lv_iconst (v := 0) hx hb dJ1_indexOf_4cfef_10 (by decide) ?_
    refine va_mmax hx hb (hml.trans hl.1.symm) hown (hts _ gt2_140) (hts _ gt2_141) (hts _ gt1_15) (hts _ gt2_142) (Nat.le_of_ble_eq_true rfl) (Nat.le_of_ble_eq_true rfl) (Nat.zero_le _) (Nat.zero_le _) dJ1_indexOf_4cfef_11 ?_
    refine lv_topi (fun v3 ev3 => ?_)
    have hf := nm_at hf v3 ev3
    refine lv_istore_n (lv' := [(2, .int v3), (0, .ref (vS i)), (1, .int p1), (3, .int p3)]) hx hb dJ1_indexOf_4cfef_14 rfl hl (by decide) rfl (fun ls hl => ?_)
    refine lv_iload_n hx hb dJ1_indexOf_4cfef_15 rfl (lv_at hl 3 rfl) ?_
    refine lv_aload_n hx hb dJ1_indexOf_4cfef_16 rfl (lv_at hl 1 rfl) ?_
    refine va_tlen (v := Int32.ofNat (ksL.getD i 0)) hx hb (hKS.1.1 i hi).2.2.2 hS rfl dJ1_indexOf_4cfef_17 ?_
    refine va_mmin hx hb (hml.trans hl.1.symm) hown (hts _ gt2_143) (hts _ gt2_144) (hts _ gt1_15) (hts _ gt2_145) (Nat.le_of_ble_eq_true rfl) (Nat.le_of_ble_eq_true rfl) (Nat.zero_le _) (Nat.zero_le _) dJ1_indexOf_4cfef_18 ?_
    refine lv_topi (fun v4 ev4 => ?_)
    have hf := nm_at hf v4 ev4
    refine lv_istore_n (lv' := [(3, .int v4), (2, .int v3), (0, .ref (vS i)), (1, .int p1)]) hx hb dJ1_indexOf_4cfef_21 rfl hl (by decide) rfl (fun ls hl => ?_)
    refine lv_iload_n hx hb dJ1_indexOf_4cfef_22 rfl (lv_at hl 1 rfl) ?_
    refine lv_iload_n hx hb dJ1_indexOf_4cfef_23 rfl (lv_at hl 0 rfl) ?_
    refine lv_icmp_lt (tgt := 29) hx hb dJ1_indexOf_4cfef_24 (by decide) (fun hc => ?_) (fun hc => ?_)
    · have hf := ite_t hf hc
      refine lv_aload_n hx hb dJ1_indexOf_4cfef_29 rfl (lv_at hl 2 rfl) ?_
      refine lv_iload_n hx hb dJ1_indexOf_4cfef_30 rfl (lv_at hl 3 rfl) ?_
      refine lv_iload_n hx hb dJ1_indexOf_4cfef_31 rfl (lv_at hl 1 rfl) ?_
      refine lv_iload_n hx hb dJ1_indexOf_4cfef_32 rfl (lv_at hl 0 rfl) ?_
      obtain ⟨v5, σ6, hc, hf⟩ := bd_at hf
      refine callSI (As := [.ref (vS i), .int p1, .int v3, .int v4]) (rest := []) C (mJ1_indexOfChar_4cfef (i := i) (wf := wf) hi hc) ⟨gt2_146, gt2_147, gt1_14, gt2_148⟩ okJ1_indexOfChar_4cfef ⟨Nat.le_of_ble_eq_true rfl, Nat.le_of_ble_eq_true rfl⟩ rfl hl.1 rfl (Nat.le_of_ble_eq_true rfl) hP hS dJ1_indexOf_4cfef_33 (fun H locs hP hS => ?_)
      exact MI.ret (wf := wf) hQ C hr hlk rfl hf hP hS dJ1_indexOf_4cfef_36
    · have hf := ite_f hf hc
      refine lv_iconst (v := (-1)) hx hb dJ1_indexOf_4cfef_27 (by decide) ?_
      exact MI.ret (wf := wf) hQ C hr hlk rfl hf hP hS dJ1_indexOf_4cfef_28
  · have hf := ite_t hf hc
    refine lv_iconst (v := (-1)) hx hb dJ1_indexOf_4cfef_7 (by decide) ?_
    exact MI.ret (wf := wf) hQ C hr hlk rfl hf hP hS dJ1_indexOf_4cfef_8
def fJ0_indexOf_7cf53 (i : Nat) (σ : St) (p1 p2 : Int32) : Option (Int32 × St) := bd (fJ0_isLatin1_aae02 i σ) (fun v1 σ2 => (if v1 = 0 then none else bd (fJ0_length_8abf5 i σ2) (fun v3 σ4 => bd (fJ1_indexOf_4cfef i σ4 p1 p2 v3) (fun v5 σ6 => some (v5, σ6)))))
set_option maxHeartbeats 4000000 in
set_option maxRecDepth 100000 in
theorem mJ0_indexOf_7cf53 {l : Launch} {D : va_G} {kS vS : Nat → Nat} {cI cF : ClassId} {i : Nat} {σ σ0 : St} {p1 p2 : Int32} {r : Int32} {wf : St → va_W} {A : Nat → Prop} (hi : iS i) (hf : fJ0_indexOf_7cf53 i σ p1 p2 = some (r, σ0)) : MI l D (tyC cI cF) (A) kS vS yJ0_indexOf_7cf53 cJ0_indexOf_7cf53 3 .int 2 48 [.ref (kS i), .int p1, .int p2] (wf σ) (wf σ0) r := by
  refine MI.of (by decide) (Nat.le_of_ble_eq_true rfl) (fun p e s m args below meth c ls Q hQ C hr hlk hP hS hl => ?_)
  obtain ⟨hx, hb, hml, hown, hts, hK, hKS⟩ := id C
  have hl : lv_has ls 3 [(0, .ref (kS i)), (1, .int p1), (2, .int p2)] := hl
  unfold fJ0_indexOf_7cf53 at hf
  refine lv_aload_n hx hb dJ0_indexOf_7cf53_0 rfl (lv_at hl 0 rfl) ?_
  obtain ⟨v1, σ2, hc, hf⟩ := bd_at hf
  refine callVI (As := []) (rest := []) C (mJ0_isLatin1_aae02 (i := i) (wf := wf) hi hc) ⟨gt2_120, gt2_121, gt2_122, gt1_13, gt2_123⟩ okJ0_isLatin1_aae02 ⟨Nat.le_of_ble_eq_true rfl, Nat.le_of_ble_eq_true rfl⟩ (vk_recv hKS.1 hi hS) rfl hl.1 rfl (Nat.le_of_ble_eq_true rfl) hP hS dJ0_indexOf_7cf53_1 (fun H locs hP hS => ?_)
  refine lv_if_eq (tgt := 23) hx hb dJ0_indexOf_7cf53_4 (by decide) (fun hc => ?_) (fun hc => ?_)
  · have hf := ite_t hf hc
    exact nomatch (show (none : Option (Int32 × St)) = some (r, σ0) from hf)
  · have hf := ite_f hf hc
    refine lv_aload_n hx hb dJ0_indexOf_7cf53_7 rfl (lv_at hl 0 rfl) ?_
    refine vk_getf hx hb (hKS.1.1 i hi).2.2.1 hS hown (hts _ gt5_59) (fun _ h9 => h9) dJ0_indexOf_7cf53_8 ?_
    refine lv_iload_n hx hb dJ0_indexOf_7cf53_11 rfl (lv_at hl 1 rfl) ?_
    refine lv_iload_n hx hb dJ0_indexOf_7cf53_12 rfl (lv_at hl 2 rfl) ?_
    refine lv_aload_n hx hb dJ0_indexOf_7cf53_13 rfl (lv_at hl 0 rfl) ?_
    obtain ⟨v3, σ4, hc, hf⟩ := bd_at hf
    refine callVI (As := []) (rest := [.int p2, .int p1, .ref (vS i)]) C (mJ0_length_8abf5 (i := i) (wf := wf) hi hc) ⟨gt2_126, gt2_127, gt2_128, gt1_13, gt2_129⟩ okJ0_length_8abf5 ⟨Nat.le_of_ble_eq_true rfl, Nat.le_of_ble_eq_true rfl⟩ (vk_recv hKS.1 hi hS) rfl hl.1 rfl (Nat.le_of_ble_eq_true rfl) hP hS dJ0_indexOf_7cf53_14 (fun H locs hP hS => ?_)
    obtain ⟨v5, σ6, hc, hf⟩ := bd_at hf
    refine callSI (As := [.ref (vS i), .int p1, .int p2, .int v3]) (rest := []) C (mJ1_indexOf_4cfef (i := i) (wf := wf) hi hc) ⟨gt2_134, gt2_135, gt1_14, gt2_136⟩ okJ1_indexOf_4cfef ⟨Nat.le_of_ble_eq_true rfl, Nat.le_of_ble_eq_true rfl⟩ rfl hl.1 rfl (Nat.le_of_ble_eq_true rfl) hP hS dJ0_indexOf_7cf53_17 (fun H locs hP hS => ?_)
    refine lv_goto (tgt := 36) hx hb dJ0_indexOf_7cf53_20 (by decide) ?_
    exact MI.ret (wf := wf) hQ C hr hlk rfl hf hP hS dJ0_indexOf_7cf53_36
def fJ0_indexOf_0f7a4 (i : Nat) (σ : St) (p1 : Int32) : Option (Int32 × St) := bd (fJ0_indexOf_7cf53 i σ p1 0) (fun v1 σ2 => some (v1, σ2))
set_option maxHeartbeats 4000000 in
set_option maxRecDepth 100000 in
theorem mJ0_indexOf_0f7a4 {l : Launch} {D : va_G} {kS vS : Nat → Nat} {cI cF : ClassId} {i : Nat} {σ σ0 : St} {p1 : Int32} {r : Int32} {wf : St → va_W} {A : Nat → Prop} (hi : iS i) (hf : fJ0_indexOf_0f7a4 i σ p1 = some (r, σ0)) : MI l D (tyC cI cF) (A) kS vS yJ0_indexOf_0f7a4 cJ0_indexOf_0f7a4 2 .int 3 70 [.ref (kS i), .int p1] (wf σ) (wf σ0) r := by
  refine MI.of (by decide) (Nat.le_of_ble_eq_true rfl) (fun p e s m args below meth c ls Q hQ C hr hlk hP hS hl => ?_)
  obtain ⟨hx, hb, hml, hown, hts, hK, hKS⟩ := id C
  have hl : lv_has ls 2 [(0, .ref (kS i)), (1, .int p1)] := hl
  unfold fJ0_indexOf_0f7a4 at hf
  refine lv_aload_n hx hb dJ0_indexOf_0f7a4_0 rfl (lv_at hl 0 rfl) ?_
  refine lv_iload_n hx hb dJ0_indexOf_0f7a4_1 rfl (lv_at hl 1 rfl) ?_
  refine lv_iconst (v := 0) hx hb dJ0_indexOf_0f7a4_2 (by decide) ?_
  obtain ⟨v1, σ2, hc, hf⟩ := bd_at hf
  refine callVI (As := [.int p1, .int 0]) (rest := []) C (mJ0_indexOf_7cf53 (i := i) (wf := wf) hi hc) ⟨gt2_116, gt2_117, gt2_118, gt1_13, gt2_119⟩ okJ0_indexOf_7cf53 ⟨Nat.le_of_ble_eq_true rfl, Nat.le_of_ble_eq_true rfl⟩ (vk_recv hKS.1 hi hS) rfl hl.1 rfl (Nat.le_of_ble_eq_true rfl) hP hS dJ0_indexOf_0f7a4_3 (fun H locs hP hS => ?_)
  exact MI.ret (wf := wf) hQ C hr hlk rfl hf hP hS dJ0_indexOf_0f7a4_6
def fJ3_checkIndex_8e157 (σ : St) (p0 p1 : Int32) : Option (Int32 × St) := (if p0 < 0 then none else (if p0 < p1 then some (p0, σ) else none))
set_option maxHeartbeats 4000000 in
set_option maxRecDepth 100000 in
theorem mJ3_checkIndex_8e157 {l : Launch} {D : va_G} {kS vS : Nat → Nat} {cI cF : ClassId} {σ σ0 : St} {p0 p1 : Int32} {r : Int32} {wf : St → va_W} {A : Nat → Prop} {v : Value} (hv : v = .null ∨ ∃ t, v = .ref t) (hf : fJ3_checkIndex_8e157 σ p0 p1 = some (r, σ0)) : MI l D (tyC cI cF) (A) kS vS yJ3_checkIndex_8e157 cJ3_checkIndex_8e157 3 .int 0 0 [.int p0, .int p1, v] (wf σ) (wf σ0) r := by
  refine MI.of (by decide) (by rcases hv with rfl | ⟨t, rfl⟩ <;> exact Nat.le_of_ble_eq_true rfl) (fun p e s m args below meth c ls Q hQ C hr hlk hP hS hl => ?_)
  obtain ⟨hx, hb, hml, hown, hts, hK, hKS⟩ := id C
  have hl : lv_has ls 3 [(0, .int p0), (1, .int p1), (2, v)] := hl
  unfold fJ3_checkIndex_8e157 at hf
  refine lv_iload_n hx hb dJ3_checkIndex_8e157_0 rfl (lv_at hl 0 rfl) ?_
  refine lv_if_lt (tgt := 9) hx hb dJ3_checkIndex_8e157_1 (by decide) (fun hc => ?_) (fun hc => ?_)
  · have hf := ite_t hf hc
    exact nomatch (show (none : Option (Int32 × St)) = some (r, σ0) from hf)
  · have hf := ite_f hf hc
    refine lv_iload_n hx hb dJ3_checkIndex_8e157_4 rfl (lv_at hl 0 rfl) ?_
    refine lv_iload_n hx hb dJ3_checkIndex_8e157_5 rfl (lv_at hl 1 rfl) ?_
    refine lv_icmp_lt (tgt := 16) hx hb dJ3_checkIndex_8e157_6 (by decide) (fun hc => ?_) (fun hc => ?_)
    · have hf := ite_t hf hc
      refine lv_iload_n hx hb dJ3_checkIndex_8e157_16 rfl (lv_at hl 0 rfl) ?_
      exact MI.ret (wf := wf) hQ C hr hlk rfl hf hP hS dJ3_checkIndex_8e157_17
    · have hf := ite_f hf hc
      exact nomatch (show (none : Option (Int32 × St)) = some (r, σ0) from hf)
def fJ0_checkIndex_df160 (σ : St) (p0 p1 : Int32) : Option (Int32 × St) := bd (fJ3_checkIndex_8e157 σ p0 p1) (fun v1 σ2 => some (0, σ2))
set_option maxHeartbeats 4000000 in
set_option maxRecDepth 100000 in
theorem mJ0_checkIndex_df160 {l : Launch} {D : va_G} {kS vS : Nat → Nat} {cI cF : ClassId} {σ σ0 : St} {p0 p1 : Int32} {r : Int32} {wf : St → va_W} {A : Nat → Prop} (hf : fJ0_checkIndex_df160 σ p0 p1 = some (r, σ0)) : MV l D (tyC cI cF) (A) kS vS yJ0_checkIndex_df160 cJ0_checkIndex_df160 2 1 22 [.int p0, .int p1] (wf σ) (wf σ0) := by
  refine MV.of (by decide) (Nat.le_of_ble_eq_true rfl) (fun p e s m args below meth c ls Q hQ C hr hlk hP hS hl => ?_)
  obtain ⟨hx, hb, hml, hown, hts, hK, hKS⟩ := id C
  have hl : lv_has ls 2 [(0, .int p0), (1, .int p1)] := hl
  unfold fJ0_checkIndex_df160 at hf
  refine lv_iload_n hx hb dJ0_checkIndex_df160_0 rfl (lv_at hl 0 rfl) ?_
  refine lv_iload_n hx hb dJ0_checkIndex_df160_1 rfl (lv_at hl 1 rfl) ?_
  obtain ⟨v, hv, hz⟩ := zq_at hKS.2.2.2.1
  refine va_gets hx hb hz hS hown (hts _ gt2_167) (fun _ h9 => h9) dJ0_checkIndex_df160_2 ?_
  obtain ⟨v1, σ2, hc, hf⟩ := bd_at hf
  refine callSI (As := [.int p0, .int p1, v]) (rest := []) C (mJ3_checkIndex_8e157 (wf := wf) hv hc) ⟨gt2_213, gt2_214, gt1_17, gt2_215⟩ okJ3_checkIndex_8e157 ⟨Nat.le_of_ble_eq_true rfl, Nat.le_of_ble_eq_true rfl⟩ rfl hl.1 rfl (Nat.le_of_ble_eq_true rfl) hP hS dJ0_checkIndex_df160_5 (fun H locs hP hS => ?_)
  refine lv_pop hx hb dJ0_checkIndex_df160_8 rfl ?_
  exact MV.ret (wf := wf) hQ C hr hlk hf hP hS dJ0_checkIndex_df160_9
def fJ1_charAt_3b067 (i : Nat) (σ : St) (p1 : Int32) : Option (Int32 × St) := bd (fJ0_checkIndex_df160 σ p1 (Int32.ofNat (ksL.getD i 0))) (fun _ σ2 => ld (bB i) (ksL.getD i 0) p1 (fun v3 => nkc (((v3 &&& 255).toUInt32 % 65536).toInt32) (some (((v3 &&& 255).toUInt32 % 65536).toInt32, σ2))))
set_option maxHeartbeats 4000000 in
set_option maxRecDepth 100000 in
theorem mJ1_charAt_3b067 {l : Launch} {D : va_G} {kS vS : Nat → Nat} {cI cF : ClassId} {i : Nat} {σ σ0 : St} {p1 : Int32} {r : Int32} {wf : St → va_W} {A : Nat → Prop} (hi : iS i) (hf : fJ1_charAt_3b067 i σ p1 = some (r, σ0)) : MI l D (tyC cI cF) (A) kS vS yJ1_charAt_3b067 cJ1_charAt_3b067 2 .char 2 43 [.ref (vS i), .int p1] (wf σ) (wf σ0) r := by
  refine MI.of (by decide) (Nat.le_of_ble_eq_true rfl) (fun p e s m args below meth c ls Q hQ C hr hlk hP hS hl => ?_)
  obtain ⟨hx, hb, hml, hown, hts, hK, hKS⟩ := id C
  have hl : lv_has ls 2 [(0, .ref (vS i)), (1, .int p1)] := hl
  unfold fJ1_charAt_3b067 at hf
  refine lv_iload_n hx hb dJ1_charAt_3b067_0 rfl (lv_at hl 1 rfl) ?_
  refine lv_aload_n hx hb dJ1_charAt_3b067_1 rfl (lv_at hl 0 rfl) ?_
  refine va_tlen (v := Int32.ofNat (ksL.getD i 0)) hx hb (hKS.1.1 i hi).2.2.2 hS rfl dJ1_charAt_3b067_2 ?_
  obtain ⟨v1, σ2, hc, hf⟩ := bd_at hf
  refine callSV (As := [.int p1, .int (Int32.ofNat (ksL.getD i 0))]) (rest := []) C (mJ0_checkIndex_df160 (wf := wf) hc) ⟨gt2_210, gt2_211, gt1_13, gt2_212⟩ okJ0_checkIndex_df160 ⟨Nat.le_of_ble_eq_true rfl, Nat.le_of_ble_eq_true rfl⟩ rfl hl.1 rfl (Nat.le_of_ble_eq_true rfl) hP hS dJ1_charAt_3b067_3 (fun H locs hP hS => ?_)
  refine lv_aload_n hx hb dJ1_charAt_3b067_6 rfl (lv_at hl 0 rfl) ?_
  refine lv_iload_n hx hb dJ1_charAt_3b067_7 rfl (lv_at hl 1 rfl) ?_
  obtain ⟨hin, hf⟩ := ld_at hf
  refine va_tb hx hb (hKS.1.1 i hi).2.2.2 hS hin rfl dJ1_charAt_3b067_8 ?_
  refine lv_topi (fun v3 ev3 => ?_)
  have hf := hf v3 ev3
  refine lv_sipush (v := 255) hx hb dJ1_charAt_3b067_9 (by decide) ?_
  refine lv_iand hx hb dJ1_charAt_3b067_12 ?_
  refine lv_i2c (v := ((v3 &&& 255).toUInt32 % 65536).toInt32) hx hb dJ1_charAt_3b067_13 rfl ?_
  obtain ⟨hz, hf⟩ := nkc_at hf
  exact MI.ret (wf := wf) hQ C hr hlk hz hf hP hS dJ1_charAt_3b067_14
def fJ0_charAt_5068e (i : Nat) (σ : St) (p1 : Int32) : Option (Int32 × St) := bd (fJ0_isLatin1_aae02 i σ) (fun v1 σ2 => (if v1 = 0 then none else bd (fJ1_charAt_3b067 i σ2 p1) (fun v3 σ4 => nkc v3 (some (v3, σ4)))))
set_option maxHeartbeats 4000000 in
set_option maxRecDepth 100000 in
theorem mJ0_charAt_5068e {l : Launch} {D : va_G} {kS vS : Nat → Nat} {cI cF : ClassId} {i : Nat} {σ σ0 : St} {p1 : Int32} {r : Int32} {wf : St → va_W} {A : Nat → Prop} (hi : iS i) (hf : fJ0_charAt_5068e i σ p1 = some (r, σ0)) : MI l D (tyC cI cF) (A) kS vS yJ0_charAt_5068e cJ0_charAt_5068e 2 .char 3 64 [.ref (kS i), .int p1] (wf σ) (wf σ0) r := by
  refine MI.of (by decide) (Nat.le_of_ble_eq_true rfl) (fun p e s m args below meth c ls Q hQ C hr hlk hP hS hl => ?_)
  obtain ⟨hx, hb, hml, hown, hts, hK, hKS⟩ := id C
  have hl : lv_has ls 2 [(0, .ref (kS i)), (1, .int p1)] := hl
  unfold fJ0_charAt_5068e at hf
  refine lv_aload_n hx hb dJ0_charAt_5068e_0 rfl (lv_at hl 0 rfl) ?_
  obtain ⟨v1, σ2, hc, hf⟩ := bd_at hf
  refine callVI (As := []) (rest := []) C (mJ0_isLatin1_aae02 (i := i) (wf := wf) hi hc) ⟨gt2_120, gt2_121, gt2_122, gt1_13, gt2_123⟩ okJ0_isLatin1_aae02 ⟨Nat.le_of_ble_eq_true rfl, Nat.le_of_ble_eq_true rfl⟩ (vk_recv hKS.1 hi hS) rfl hl.1 rfl (Nat.le_of_ble_eq_true rfl) hP hS dJ0_charAt_5068e_1 (fun H locs hP hS => ?_)
  refine lv_if_eq (tgt := 16) hx hb dJ0_charAt_5068e_4 (by decide) (fun hc => ?_) (fun hc => ?_)
  · have hf := ite_t hf hc
    exact nomatch (show (none : Option (Int32 × St)) = some (r, σ0) from hf)
  · have hf := ite_f hf hc
    refine lv_aload_n hx hb dJ0_charAt_5068e_7 rfl (lv_at hl 0 rfl) ?_
    refine vk_getf hx hb (hKS.1.1 i hi).2.2.1 hS hown (hts _ gt5_59) (fun _ h9 => h9) dJ0_charAt_5068e_8 ?_
    refine lv_iload_n hx hb dJ0_charAt_5068e_11 rfl (lv_at hl 1 rfl) ?_
    obtain ⟨v3, σ4, hc, hf⟩ := bd_at hf
    refine callSI (As := [.ref (vS i), .int p1]) (rest := []) C (mJ1_charAt_3b067 (i := i) (wf := wf) hi hc) ⟨gt2_207, gt2_208, gt1_14, gt2_209⟩ okJ1_charAt_3b067 ⟨Nat.le_of_ble_eq_true rfl, Nat.le_of_ble_eq_true rfl⟩ rfl hl.1 rfl (Nat.le_of_ble_eq_true rfl) hP hS dJ0_charAt_5068e_12 (fun H locs hP hS => ?_)
    obtain ⟨hz, hf⟩ := nkc_at hf
    exact MI.ret (wf := wf) hQ C hr hlk hz hf hP hS dJ0_charAt_5068e_15
