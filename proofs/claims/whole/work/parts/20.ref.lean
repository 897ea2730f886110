def fX10_renew (σ : St) : Option (Int32 × St) := nm (up σ 0 7 0) (fun σ1 => nm (up σ1 0 15 0) (fun σ2 => nm (up σ2 0 16 0) (fun σ3 => nm (up σ3 0 17 0) (fun σ4 => nm (up σ4 0 18 0) (fun σ5 => nm (up σ5 0 19 0) (fun σ6 => nm (up σ6 0 20 0) (fun σ7 => nm (up σ7 0 21 0) (fun σ8 => nm (up σ8 0 22 0) (fun σ9 => some (0, σ9))))))))))
set_option maxHeartbeats 4000000 in
set_option maxRecDepth 100000 in
theorem mX10_renew {l : Launch} {D : va_G} {kS vS : Nat → Nat} {ad : Nat → Nat} {cI cF : ClassId} {σ σ0 : St} {r : Int32} (hI : Inj ad 5) (hf : fX10_renew σ  = some (r, σ0)) : MV l D (tyC cI cF) (inA ad 5) kS vS yX10_renew cX10_renew 1 0 0 [.ref (ad 0)] (wM ad cI σ) (wM ad cI σ0) := by
  refine MV.of (by decide) (Nat.le_of_ble_eq_true rfl) (fun p e s m args below meth c ls Q hQ C hr hlk hP hS hl => ?_)
  obtain ⟨hx, hb, hml, hown, hts, hK, hKS⟩ := id C
  have hl : lv_has ls 1 [(0, .ref (ad 0))] := hl
  unfold fX10_renew at hf
  refine lv_aload_n hx hb dX10_renew_0 rfl (lv_at hl 0 rfl) ?_
  refine lv_iconst (v := 0) hx hb dX10_renew_1 (by decide) ?_
  refine PX10_7 hI C hP hS gt4_10 rfl rfl dX10_renew_2 (fun σ1 eσ1 H locs hP hS => ?_)
  have hf := nm_at hf σ1 eσ1
  refine lv_aload_n hx hb dX10_renew_5 rfl (lv_at hl 0 rfl) ?_
  refine lv_iconst (v := 0) hx hb dX10_renew_6 (by decide) ?_
  refine PX10_15 hI C hP hS gt4_18 rfl rfl dX10_renew_7 (fun σ2 eσ2 H locs hP hS => ?_)
  have hf := nm_at hf σ2 eσ2
  refine lv_aload_n hx hb dX10_renew_10 rfl (lv_at hl 0 rfl) ?_
  refine lv_iconst (v := 0) hx hb dX10_renew_11 (by decide) ?_
  refine PX10_16 hI C hP hS gt4_19 rfl rfl dX10_renew_12 (fun σ3 eσ3 H locs hP hS => ?_)
  have hf := nm_at hf σ3 eσ3
  refine lv_aload_n hx hb dX10_renew_15 rfl (lv_at hl 0 rfl) ?_
  refine lv_iconst (v := 0) hx hb dX10_renew_16 (by decide) ?_
  refine PX10_17 hI C hP hS gt4_20 rfl rfl dX10_renew_17 (fun σ4 eσ4 H locs hP hS => ?_)
  have hf := nm_at hf σ4 eσ4
  refine lv_aload_n hx hb dX10_renew_20 rfl (lv_at hl 0 rfl) ?_
  refine lv_iconst (v := 0) hx hb dX10_renew_21 (by decide) ?_
  refine PX10_18 hI C hP hS gt4_21 rfl rfl dX10_renew_22 (fun σ5 eσ5 H locs hP hS => ?_)
  have hf := nm_at hf σ5 eσ5
  refine lv_aload_n hx hb dX10_renew_25 rfl (lv_at hl 0 rfl) ?_
  refine lv_iconst (v := 0) hx hb dX10_renew_26 (by decide) ?_
  refine PX10_19 hI C hP hS gt4_22 rfl rfl dX10_renew_27 (fun σ6 eσ6 H locs hP hS => ?_)
  have hf := nm_at hf σ6 eσ6
  refine lv_aload_n hx hb dX10_renew_30 rfl (lv_at hl 0 rfl) ?_
  refine lv_iconst (v := 0) hx hb dX10_renew_31 (by decide) ?_
  refine PX10_20 hI C hP hS gt4_23 rfl rfl dX10_renew_32 (fun σ7 eσ7 H locs hP hS => ?_)
  have hf := nm_at hf σ7 eσ7
  refine lv_aload_n hx hb dX10_renew_35 rfl (lv_at hl 0 rfl) ?_
  refine lv_iconst (v := 0) hx hb dX10_renew_36 (by decide) ?_
  refine PX10_21 hI C hP hS gt4_24 rfl rfl dX10_renew_37 (fun σ8 eσ8 H locs hP hS => ?_)
  have hf := nm_at hf σ8 eσ8
  refine lv_aload_n hx hb dX10_renew_40 rfl (lv_at hl 0 rfl) ?_
  refine lv_iconst (v := 0) hx hb dX10_renew_41 (by decide) ?_
  refine PX10_22 hI C hP hS gt4_25 rfl rfl dX10_renew_42 (fun σ9 eσ9 H locs hP hS => ?_)
  have hf := nm_at hf σ9 eσ9
  exact MV.ret (wf := wM ad cI) hQ C hr hlk hf hP hS dX10_renew_45
def fX10_open (σ : St) (p1 p2 p3 p4 : Int32) : Option (Int32 × St) := (if p1 < 0 then some (0, σ) else (if 6 < p1 then some (0, σ) else (if p3 < 0 then some (0, σ) else (if 2 < p3 then some (0, σ) else (if p4 < 0 then some (0, σ) else (if p4 ≤ 2 then nm (up σ 0 0 1) (fun σ1 => nm (up σ1 0 1 p1) (fun σ2 => zk p2 (nm (up σ2 0 2 p2) (fun σ3 => nm (up σ3 0 3 p3) (fun σ4 => nm (up σ4 0 4 p4) (fun σ5 => nm (up σ5 0 9 0) (fun σ6 => nm (up σ6 0 11 0) (fun σ7 => nm (up σ7 0 12 0) (fun σ8 => nm (up σ8 0 13 0) (fun σ9 => nm (up σ9 0 14 0) (fun σ10 => bd (fX10_renew σ10) (fun _ σ12 => some (1, σ12))))))))))))) else some (0, σ)))))))
set_option maxHeartbeats 4000000 in
set_option maxRecDepth 100000 in
theorem mX10_open {l : Launch} {D : va_G} {kS vS : Nat → Nat} {ad : Nat → Nat} {cI cF : ClassId} {σ σ0 : St} {p1 p2 p3 p4 : Int32} {r : Int32} (hI : Inj ad 5) (hf : fX10_open σ p1 p2 p3 p4 = some (r, σ0)) : MI l D (tyC cI cF) (inA ad 5) kS vS yX10_open cX10_open 5 .boolean 1 20 [.ref (ad 0), .int p1, .int p2, .int p3, .int p4] (wM ad cI σ) (wM ad cI σ0) r := by
  refine MI.of (by decide) (Nat.le_of_ble_eq_true rfl) (fun p e s m args below meth c ls Q hQ C hr hlk hP hS hl => ?_)
  obtain ⟨hx, hb, hml, hown, hts, hK, hKS⟩ := id C
  have hl : lv_has ls 5 [(0, .ref (ad 0)), (1, .int p1), (2, .int p2), (3, .int p3), (4, .int p4)] := hl
  unfold fX10_open at hf
  refine lv_iload_n hx hb dX10_open_0 rfl (lv_at hl 1 rfl) ?_
  refine lv_if_lt (tgt := 30) hx hb dX10_open_1 (by decide) (fun hc => ?_) (fun hc => ?_)
  · have hf := ite_t hf hc
    refine lv_iconst (v := 0) hx hb dX10_open_30 (by decide) ?_
    exact MI.ret (wf := wM ad cI) hQ C hr hlk rfl hf hP hS dX10_open_31
  · have hf := ite_f hf hc
    refine lv_iload_n hx hb dX10_open_4 rfl (lv_at hl 1 rfl) ?_
    refine lv_bipush (v := 6) hx hb dX10_open_5 (by decide) ?_
    refine lv_icmp_gt (tgt := 30) hx hb dX10_open_7 (by decide) (fun hc => ?_) (fun hc => ?_)
    · have hf := ite_t hf hc
      refine lv_iconst (v := 0) hx hb dX10_open_30 (by decide) ?_
      exact MI.ret (wf := wM ad cI) hQ C hr hlk rfl hf hP hS dX10_open_31
    · have hf := ite_f hf hc
      refine lv_iload_n hx hb dX10_open_10 rfl (lv_at hl 3 rfl) ?_
      refine lv_if_lt (tgt := 30) hx hb dX10_open_11 (by decide) (fun hc => ?_) (fun hc => ?_)
      · have hf := ite_t hf hc
        refine lv_iconst (v := 0) hx hb dX10_open_30 (by decide) ?_
        exact MI.ret (wf := wM ad cI) hQ C hr hlk rfl hf hP hS dX10_open_31
      · have hf := ite_f hf hc
        refine lv_iload_n hx hb dX10_open_14 rfl (lv_at hl 3 rfl) ?_
        refine lv_iconst (v := 2) hx hb dX10_open_15 (by decide) ?_
        refine lv_icmp_gt (tgt := 30) hx hb dX10_open_16 (by decide) (fun hc => ?_) (fun hc => ?_)
        · have hf := ite_t hf hc
          refine lv_iconst (v := 0) hx hb dX10_open_30 (by decide) ?_
          exact MI.ret (wf := wM ad cI) hQ C hr hlk rfl hf hP hS dX10_open_31
        · have hf := ite_f hf hc
          refine lv_iload hx hb dX10_open_19 (lv_at hl 4 rfl) ?_
          refine lv_if_lt (tgt := 30) hx hb dX10_open_21 (by decide) (fun hc => ?_) (fun hc => ?_)
          · have hf := ite_t hf hc
            refine lv_iconst (v := 0) hx hb dX10_open_30 (by decide) ?_
            exact MI.ret (wf := wM ad cI) hQ C hr hlk rfl hf hP hS dX10_open_31
          · have hf := ite_f hf hc
            refine lv_iload hx hb dX10_open_24 (lv_at hl 4 rfl) ?_
            refine lv_iconst (v := 2) hx hb dX10_open_26 (by decide) ?_
            refine lv_icmp_le (tgt := 32) hx hb dX10_open_27 (by decide) (fun hc => ?_) (fun hc => ?_)
            · have hf := ite_t hf hc
              refine lv_aload_n hx hb dX10_open_32 rfl (lv_at hl 0 rfl) ?_
              refine lv_iconst (v := 1) hx hb dX10_open_33 (by decide) ?_
              refine PX10_0 hI C hP hS gt4_3 rfl rfl dX10_open_34 (fun σ1 eσ1 H locs hP hS => ?_)
              have hf := nm_at hf σ1 eσ1
              refine lv_aload_n hx hb dX10_open_37 rfl (lv_at hl 0 rfl) ?_
              refine lv_iload_n hx hb dX10_open_38 rfl (lv_at hl 1 rfl) ?_
              refine PX10_1 hI C hP hS gt4_4 rfl rfl dX10_open_39 (fun σ2 eσ2 H locs hP hS => ?_)
              have hf := nm_at hf σ2 eσ2
              refine lv_aload_n hx hb dX10_open_42 rfl (lv_at hl 0 rfl) ?_
              refine lv_iload_n hx hb dX10_open_43 rfl (lv_at hl 2 rfl) ?_
              obtain ⟨hz, hf⟩ := zk_at hf
              refine PX10_2 hI C hP hS gt4_5 (zn hz) (zf hz) dX10_open_44 (fun σ3 eσ3 H locs hP hS => ?_)
              have hf := nm_at hf σ3 eσ3
              refine lv_aload_n hx hb dX10_open_47 rfl (lv_at hl 0 rfl) ?_
              refine lv_iload_n hx hb dX10_open_48 rfl (lv_at hl 3 rfl) ?_
              refine PX10_3 hI C hP hS gt4_6 rfl rfl dX10_open_49 (fun σ4 eσ4 H locs hP hS => ?_)
              have hf := nm_at hf σ4 eσ4
              refine lv_aload_n hx hb dX10_open_52 rfl (lv_at hl 0 rfl) ?_
              refine lv_iload hx hb dX10_open_53 (lv_at hl 4 rfl) ?_
              refine PX10_4 hI C hP hS gt4_7 rfl rfl dX10_open_55 (fun σ5 eσ5 H locs hP hS => ?_)
              have hf := nm_at hf σ5 eσ5
              refine lv_aload_n hx hb dX10_open_58 rfl (lv_at hl 0 rfl) ?_
              refine lv_iconst (v := 0) hx hb dX10_open_59 (by decide) ?_
              refine PX10_9 hI C hP hS gt4_12 rfl rfl dX10_open_60 (fun σ6 eσ6 H locs hP hS => ?_)
              have hf := nm_at hf σ6 eσ6
              refine lv_aload_n hx hb dX10_open_63 rfl (lv_at hl 0 rfl) ?_
              refine lv_iconst (v := 0) hx hb dX10_open_64 (by decide) ?_
              refine PX10_11 hI C hP hS gt4_14 rfl rfl dX10_open_65 (fun σ7 eσ7 H locs hP hS => ?_)
              have hf := nm_at hf σ7 eσ7
              refine lv_aload_n hx hb dX10_open_68 rfl (lv_at hl 0 rfl) ?_
              refine lv_iconst (v := 0) hx hb dX10_open_69 (by decide) ?_
              refine PX10_12 hI C hP hS gt4_15 rfl rfl dX10_open_70 (fun σ8 eσ8 H locs hP hS => ?_)
              have hf := nm_at hf σ8 eσ8
              refine lv_aload_n hx hb dX10_open_73 rfl (lv_at hl 0 rfl) ?_
              refine lv_iconst (v := 0) hx hb dX10_open_74 (by decide) ?_
              refine PX10_13 hI C hP hS gt4_16 rfl rfl dX10_open_75 (fun σ9 eσ9 H locs hP hS => ?_)
              have hf := nm_at hf σ9 eσ9
              refine lv_aload_n hx hb dX10_open_78 rfl (lv_at hl 0 rfl) ?_
              refine lv_iconst (v := 0) hx hb dX10_open_79 (by decide) ?_
              refine PX10_14 hI C hP hS gt4_17 rfl rfl dX10_open_80 (fun σ10 eσ10 H locs hP hS => ?_)
              have hf := nm_at hf σ10 eσ10
              refine lv_aload_n hx hb dX10_open_83 rfl (lv_at hl 0 rfl) ?_
              obtain ⟨v11, σ12, hc, hf⟩ := bd_at hf
              refine callVV (As := []) (rest := []) C (mX10_renew hI hc) ⟨gt4_104, gt4_106, gtp26, gt1_11, gt4_107⟩ okX10_renew ⟨Nat.le_of_ble_eq_true rfl, Nat.le_of_ble_eq_true rfl⟩ (rcvOf C hP (show (wM ad cI _)[0]? = some (ad 0, _) from rfl) rfl) rfl hl.1 rfl (Nat.le_of_ble_eq_true rfl) hP hS dX10_open_84 (fun H locs hP hS => ?_)
              refine lv_iconst (v := 1) hx hb dX10_open_87 (by decide) ?_
              exact MI.ret (wf := wM ad cI) hQ C hr hlk rfl hf hP hS dX10_open_88
            · have hf := ite_f hf hc
              refine lv_iconst (v := 0) hx hb dX10_open_30 (by decide) ?_
              exact MI.ret (wf := wM ad cI) hQ C hr hlk rfl hf hP hS dX10_open_31
def fX10_map (σ : St) (p1 p2 : Int32) : Option (Int32 × St) := (if p1 < 128 then some (0, σ) else (if 255 < p1 then some (0, σ) else (if p2 < (-1) then some (0, σ) else (if p2 ≤ 65535 then sv σ 1 128 (p1 - 128) p2 (fun σ1 => nm (up σ1 0 22 0) (fun σ2 => some (1, σ2))) else some (0, σ)))))
set_option maxHeartbeats 4000000 in
set_option maxRecDepth 100000 in
theorem mX10_map {l : Launch} {D : va_G} {kS vS : Nat → Nat} {ad : Nat → Nat} {cI cF : ClassId} {σ σ0 : St} {p1 p2 : Int32} {r : Int32} (hI : Inj ad 5) (hf : fX10_map σ p1 p2 = some (r, σ0)) : MI l D (tyC cI cF) (inA ad 5) kS vS yX10_map cX10_map 3 .boolean 0 0 [.ref (ad 0), .int p1, .int p2] (wM ad cI σ) (wM ad cI σ0) r := by
  refine MI.of (by decide) (Nat.le_of_ble_eq_true rfl) (fun p e s m args below meth c ls Q hQ C hr hlk hP hS hl => ?_)
  obtain ⟨hx, hb, hml, hown, hts, hK, hKS⟩ := id C
  have hl : lv_has ls 3 [(0, .ref (ad 0)), (1, .int p1), (2, .int p2)] := hl
  unfold fX10_map at hf
  refine lv_iload_n hx hb dX10_map_0 rfl (lv_at hl 1 rfl) ?_
  refine lv_sipush (v := 128) hx hb dX10_map_1 (by decide) ?_
  refine lv_icmp_lt (tgt := 25) hx hb dX10_map_4 (by decide) (fun hc => ?_) (fun hc => ?_)
  · have hf := ite_t hf hc
    refine lv_iconst (v := 0) hx hb dX10_map_25 (by decide) ?_
    exact MI.ret (wf := wM ad cI) hQ C hr hlk rfl hf hP hS dX10_map_26
  · have hf := ite_f hf hc
    refine lv_iload_n hx hb dX10_map_7 rfl (lv_at hl 1 rfl) ?_
    refine lv_sipush (v := 255) hx hb dX10_map_8 (by decide) ?_
    refine lv_icmp_gt (tgt := 25) hx hb dX10_map_11 (by decide) (fun hc => ?_) (fun hc => ?_)
    · have hf := ite_t hf hc
      refine lv_iconst (v := 0) hx hb dX10_map_25 (by decide) ?_
      exact MI.ret (wf := wM ad cI) hQ C hr hlk rfl hf hP hS dX10_map_26
    · have hf := ite_f hf hc
      refine lv_iload_n hx hb dX10_map_14 rfl (lv_at hl 2 rfl) ?_
      refine lv_iconst (v := (-1)) hx hb dX10_map_15 (by decide) ?_
      refine lv_icmp_lt (tgt := 25) hx hb dX10_map_16 (by decide) (fun hc => ?_) (fun hc => ?_)
      · have hf := ite_t hf hc
        refine lv_iconst (v := 0) hx hb dX10_map_25 (by decide) ?_
        exact MI.ret (wf := wM ad cI) hQ C hr hlk rfl hf hP hS dX10_map_26
      · have hf := ite_f hf hc
        refine lv_iload_n hx hb dX10_map_19 rfl (lv_at hl 2 rfl) ?_
        refine lv_ldc hx hb (v := 65535) hown (hts _ gt4_112) dX10_map_20 ?_
        refine lv_icmp_le (tgt := 27) hx hb dX10_map_22 (by decide) (fun hc => ?_) (fun hc => ?_)
        · have hf := ite_t hf hc
          refine lv_aload_n hx hb dX10_map_27 rfl (lv_at hl 0 rfl) ?_
          refine GX10_5 C hP gt4_8 dX10_map_28 ?_
          refine lv_iload_n hx hb dX10_map_31 rfl (lv_at hl 1 rfl) ?_
          refine lv_sipush (v := 128) hx hb dX10_map_32 (by decide) ?_
          refine lv_isub hx hb dX10_map_35 ?_
          refine lv_iload_n hx hb dX10_map_36 rfl (lv_at hl 2 rfl) ?_
          obtain ⟨hin, hf⟩ := sv_at hf
          refine astor (wf := wM ad cI) C hP (dM hI _) hS 1 rfl rfl hin (fun _ => rfl) dX10_map_37 (fun σ1 eσ1 H locs hP hS => ?_)
          have hf := hf σ1 eσ1
          refine lv_aload_n hx hb dX10_map_38 rfl (lv_at hl 0 rfl) ?_
          refine lv_iconst (v := 0) hx hb dX10_map_39 (by decide) ?_
          refine PX10_22 hI C hP hS gt4_25 rfl rfl dX10_map_40 (fun σ2 eσ2 H locs hP hS => ?_)
          have hf := nm_at hf σ2 eσ2
          refine lv_iconst (v := 1) hx hb dX10_map_43 (by decide) ?_
          exact MI.ret (wf := wM ad cI) hQ C hr hlk rfl hf hP hS dX10_map_44
        · have hf := ite_f hf hc
          refine lv_iconst (v := 0) hx hb dX10_map_25 (by decide) ?_
          exact MI.ret (wf := wM ad cI) hQ C hr hlk rfl hf hP hS dX10_map_26
def fX10_give_b36 (σ : St) (x1 y0 y1 : Int32) : Option (Int32 × St) := (if y1 ≤ y0 then sv σ 2 24 (σ 0 9) x1 (fun σ1 => nm (up σ1 0 9 ((σ1 0 9) + 1)) (fun σ2 => nm (up σ2 0 22 0) (fun σ3 => some (1, σ3)))) else some (0, σ))
def fX10_give (σ : St) (p1 : Int32) : Option (Int32 × St) := (if (σ 0 0) = 0 then some (0, σ) else (if (σ 0 9) = 24 then some (0, σ) else (if p1 < 0 then some (0, σ) else (if (σ 0 2) = 0 then fX10_give_b36 σ p1 255 p1 else fX10_give_b36 σ p1 65535 p1))))
set_option maxHeartbeats 4000000 in
set_option maxRecDepth 100000 in
theorem mX10_give {l : Launch} {D : va_G} {kS vS : Nat → Nat} {ad : Nat → Nat} {cI cF : ClassId} {σ σ0 : St} {p1 : Int32} {r : Int32} (hI : Inj ad 5) (hf : fX10_give σ p1 = some (r, σ0)) : MI l D (tyC cI cF) (inA ad 5) kS vS yX10_give cX10_give 2 .boolean 0 0 [.ref (ad 0), .int p1] (wM ad cI σ) (wM ad cI σ0) r := by
  refine MI.of (by decide) (Nat.le_of_ble_eq_true rfl) (fun p e s m args below meth c ls Q hQ C hr hlk hP hS hl => ?_)
  obtain ⟨hx, hb, hml, hown, hts, hK, hKS⟩ := id C
  have hl : lv_has ls 2 [(0, .ref (ad 0)), (1, .int p1)] := hl
  have B36 : ∀ (σ : St) (x1 y0 y1 : Int32) (H : Heap) (locs : List Loc) (ls : Array Slot), va_P D vwCl (wM ad cI σ) H → va_S (inA ad 5) s.heap H locs → lv_has ls 2 [(0, .ref (ad 0)), (1, .int x1)] → fX10_give_b36 σ x1 y0 y1 = some (r, σ0) → W p l e (rmN 0 0) s m args below meth c H locs 0 0 Q (F0 m 36 ls [.int y0, .int y1]) := by
    intro σ x1 y0 y1 H locs ls hP hS hl hf
    unfold fX10_give_b36 at hf
    refine lv_icmp_le (tgt := 41) hx hb dX10_give_36 (by decide) (fun hc => ?_) (fun hc => ?_)
    · have hf := ite_t hf hc
      refine lv_aload_n hx hb dX10_give_41 rfl (lv_at hl 0 rfl) ?_
      refine GX10_8 C hP gt4_11 dX10_give_42 ?_
      refine lv_aload_n hx hb dX10_give_45 rfl (lv_at hl 0 rfl) ?_
      refine GX10_9 C hP gt4_12 dX10_give_46 ?_
      refine lv_iload_n hx hb dX10_give_49 rfl (lv_at hl 1 rfl) ?_
      obtain ⟨hin, hf⟩ := sv_at hf
      refine astor (wf := wM ad cI) C hP (dM hI _) hS 2 rfl rfl hin (fun _ => rfl) dX10_give_50 (fun σ1 eσ1 H locs hP hS => ?_)
      have hf := hf σ1 eσ1
      refine lv_aload_n hx hb dX10_give_51 rfl (lv_at hl 0 rfl) ?_
      refine lv_dup hx hb dX10_give_52 rfl ?_
      refine GX10_9 C hP gt4_12 dX10_give_53 ?_
      refine lv_iconst (v := 1) hx hb dX10_give_56 (by decide) ?_
      refine lv_iadd hx hb dX10_give_57 ?_
      refine PX10_9 hI C hP hS gt4_12 rfl rfl dX10_give_58 (fun σ2 eσ2 H locs hP hS => ?_)
      have hf := nm_at hf σ2 eσ2
      refine lv_aload_n hx hb dX10_give_61 rfl (lv_at hl 0 rfl) ?_
      refine lv_iconst (v := 0) hx hb dX10_give_62 (by decide) ?_
      refine PX10_22 hI C hP hS gt4_25 rfl rfl dX10_give_63 (fun σ3 eσ3 H locs hP hS => ?_)
      have hf := nm_at hf σ3 eσ3
      refine lv_iconst (v := 1) hx hb dX10_give_66 (by decide) ?_
      exact MI.ret (wf := wM ad cI) hQ C hr hlk rfl hf hP hS dX10_give_67
    · have hf := ite_f hf hc
      refine lv_iconst (v := 0) hx hb dX10_give_39 (by decide) ?_
      exact MI.ret (wf := wM ad cI) hQ C hr hlk rfl hf hP hS dX10_give_40
  unfold fX10_give at hf
  refine lv_aload_n hx hb dX10_give_0 rfl (lv_at hl 0 rfl) ?_
  refine GX10_0 C hP gt4_3 dX10_give_1 ?_
  refine lv_if_eq (tgt := 39) hx hb dX10_give_4 (by decide) (fun hc => ?_) (fun hc => ?_)
  · have hf := ite_t hf hc
    refine lv_iconst (v := 0) hx hb dX10_give_39 (by decide) ?_
    exact MI.ret (wf := wM ad cI) hQ C hr hlk rfl hf hP hS dX10_give_40
  · have hf := ite_f hf hc
    refine lv_aload_n hx hb dX10_give_7 rfl (lv_at hl 0 rfl) ?_
    refine GX10_9 C hP gt4_12 dX10_give_8 ?_
    refine lv_bipush (v := 24) hx hb dX10_give_11 (by decide) ?_
    refine lv_icmp_eq (tgt := 39) hx hb dX10_give_13 (by decide) (fun hc => ?_) (fun hc => ?_)
    · have hf := ite_t hf hc
      refine lv_iconst (v := 0) hx hb dX10_give_39 (by decide) ?_
      exact MI.ret (wf := wM ad cI) hQ C hr hlk rfl hf hP hS dX10_give_40
    · have hf := ite_f hf hc
      refine lv_iload_n hx hb dX10_give_16 rfl (lv_at hl 1 rfl) ?_
      refine lv_if_lt (tgt := 39) hx hb dX10_give_17 (by decide) (fun hc => ?_) (fun hc => ?_)
      · have hf := ite_t hf hc
        refine lv_iconst (v := 0) hx hb dX10_give_39 (by decide) ?_
        exact MI.ret (wf := wM ad cI) hQ C hr hlk rfl hf hP hS dX10_give_40
      · have hf := ite_f hf hc
        refine lv_iload_n hx hb dX10_give_20 rfl (lv_at hl 1 rfl) ?_
        refine lv_aload_n hx hb dX10_give_21 rfl (lv_at hl 0 rfl) ?_
        refine GX10_2 C hP gt4_5 dX10_give_22 ?_
        refine lv_if_eq (tgt := 33) hx hb dX10_give_25 (by decide) (fun hc => ?_) (fun hc => ?_)
        · have hf := ite_t hf hc
          refine lv_sipush (v := 255) hx hb dX10_give_33 (by decide) ?_
          exact B36 σ p1 255 p1 _ _ _ hP hS (lv_sub hl [0, 1] rfl) hf
        · have hf := ite_f hf hc
          refine lv_ldc hx hb (v := 65535) hown (hts _ gt4_112) dX10_give_28 ?_
          refine lv_goto (tgt := 36) hx hb dX10_give_30 (by decide) ?_
          exact B36 σ p1 65535 p1 _ _ _ hP hS (lv_sub hl [0, 1] rfl) hf
def fX10_room (σ : St) (p1 : Int32) : Option (Int32 × St) := (if p1 < 0 then some (0, σ) else (if p1 ≤ 16 then nm (up σ 0 6 p1) (fun σ1 => some (1, σ1)) else some (0, σ)))
set_option maxHeartbeats 4000000 in
set_option maxRecDepth 100000 in
theorem mX10_room {l : Launch} {D : va_G} {kS vS : Nat → Nat} {ad : Nat → Nat} {cI cF : ClassId} {σ σ0 : St} {p1 : Int32} {r : Int32} (hI : Inj ad 5) (hf : fX10_room σ p1 = some (r, σ0)) : MI l D (tyC cI cF) (inA ad 5) kS vS yX10_room cX10_room 2 .boolean 0 0 [.ref (ad 0), .int p1] (wM ad cI σ) (wM ad cI σ0) r := by
  refine MI.of (by decide) (Nat.le_of_ble_eq_true rfl) (fun p e s m args below meth c ls Q hQ C hr hlk hP hS hl => ?_)
  obtain ⟨hx, hb, hml, hown, hts, hK, hKS⟩ := id C
  have hl : lv_has ls 2 [(0, .ref (ad 0)), (1, .int p1)] := hl
  unfold fX10_room at hf
  refine lv_iload_n hx hb dX10_room_0 rfl (lv_at hl 1 rfl) ?_
  refine lv_if_lt (tgt := 10) hx hb dX10_room_1 (by decide) (fun hc => ?_) (fun hc => ?_)
  · have hf := ite_t hf hc
    refine lv_iconst (v := 0) hx hb dX10_room_10 (by decide) ?_
    exact MI.ret (wf := wM ad cI) hQ C hr hlk rfl hf hP hS dX10_room_11
  · have hf := ite_f hf hc
    refine lv_iload_n hx hb dX10_room_4 rfl (lv_at hl 1 rfl) ?_
    refine lv_bipush (v := 16) hx hb dX10_room_5 (by decide) ?_
    refine lv_icmp_le (tgt := 12) hx hb dX10_room_7 (by decide) (fun hc => ?_) (fun hc => ?_)
    · have hf := ite_t hf hc
      refine lv_aload_n hx hb dX10_room_12 rfl (lv_at hl 0 rfl) ?_
      refine lv_iload_n hx hb dX10_room_13 rfl (lv_at hl 1 rfl) ?_
      refine PX10_6 hI C hP hS gt4_9 rfl rfl dX10_room_14 (fun σ1 eσ1 H locs hP hS => ?_)
      have hf := nm_at hf σ1 eσ1
      refine lv_iconst (v := 1) hx hb dX10_room_17 (by decide) ?_
      exact MI.ret (wf := wM ad cI) hQ C hr hlk rfl hf hP hS dX10_room_18
    · have hf := ite_f hf hc
      refine lv_iconst (v := 0) hx hb dX10_room_10 (by decide) ?_
      exact MI.ret (wf := wM ad cI) hQ C hr hlk rfl hf hP hS dX10_room_11
def fX10_reset (σ : St) : Option (Int32 × St) := (if (σ 0 0) = 0 then some (0, σ) else bd (fX10_renew σ) (fun _ σ2 => some (1, σ2)))
set_option maxHeartbeats 4000000 in
set_option maxRecDepth 100000 in
theorem mX10_reset {l : Launch} {D : va_G} {kS vS : Nat → Nat} {ad : Nat → Nat} {cI cF : ClassId} {σ σ0 : St} {r : Int32} (hI : Inj ad 5) (hf : fX10_reset σ  = some (r, σ0)) : MI l D (tyC cI cF) (inA ad 5) kS vS yX10_reset cX10_reset 1 .boolean 1 20 [.ref (ad 0)] (wM ad cI σ) (wM ad cI σ0) r := by
  refine MI.of (by decide) (Nat.le_of_ble_eq_true rfl) (fun p e s m args below meth c ls Q hQ C hr hlk hP hS hl => ?_)
  obtain ⟨hx, hb, hml, hown, hts, hK, hKS⟩ := id C
  have hl : lv_has ls 1 [(0, .ref (ad 0))] := hl
  unfold fX10_reset at hf
  refine lv_aload_n hx hb dX10_reset_0 rfl (lv_at hl 0 rfl) ?_
  refine GX10_0 C hP gt4_3 dX10_reset_1 ?_
  refine lv_if_ne (tgt := 9) hx hb dX10_reset_4 (by decide) (fun hc => ?_) (fun hc => ?_)
  · have hf := ite_f hf hc
    refine lv_aload_n hx hb dX10_reset_9 rfl (lv_at hl 0 rfl) ?_
    obtain ⟨v1, σ2, hc, hf⟩ := bd_at hf
    refine callVV (As := []) (rest := []) C (mX10_renew hI hc) ⟨gt4_104, gt4_106, gtp26, gt1_11, gt4_107⟩ okX10_renew ⟨Nat.le_of_ble_eq_true rfl, Nat.le_of_ble_eq_true rfl⟩ (rcvOf C hP (show (wM ad cI _)[0]? = some (ad 0, _) from rfl) rfl) rfl hl.1 rfl (Nat.le_of_ble_eq_true rfl) hP hS dX10_reset_10 (fun H locs hP hS => ?_)
    refine lv_iconst (v := 1) hx hb dX10_reset_13 (by decide) ?_
    exact MI.ret (wf := wM ad cI) hQ C hr hlk rfl hf hP hS dX10_reset_14
  · have hf := ite_t hf hc
    refine lv_iconst (v := 0) hx hb dX10_reset_7 (by decide) ?_
    exact MI.ret (wf := wM ad cI) hQ C hr hlk rfl hf hP hS dX10_reset_8
def fX10_fetch_b28 : Nat → St → Int32 → Int32 → Option (Int32 × St)
  | 0, _, _, _ => none
  | n + 1, σ, x1, x2 => (if (σ 0 11) ≤ x2 then some (x1, σ) else ld (σ 3) 16 (x2 + 1) (fun v3 => sv σ 3 16 x2 v3 (fun σ4 => nm (x2 + 1) (fun v5 => fX10_fetch_b28 n σ4 x1 v5))))
def fX10_fetch (σ : St) : Option (Int32 × St) := (if (σ 0 11) = 0 then some ((-1), σ) else ld (σ 3) 16 0 (fun v1 => nm (up σ 0 11 ((σ 0 11) - 1)) (fun σ2 => fX10_fetch_b28 200 σ2 v1 0)))
set_option maxHeartbeats 4000000 in
set_option maxRecDepth 100000 in
theorem mX10_fetch {l : Launch} {D : va_G} {kS vS : Nat → Nat} {ad : Nat → Nat} {cI cF : ClassId} {σ σ0 : St} {r : Int32} (hI : Inj ad 5) (hf : fX10_fetch σ  = some (r, σ0)) : MI l D (tyC cI cF) (inA ad 5) kS vS yX10_fetch cX10_fetch 3 .int 0 0 [.ref (ad 0)] (wM ad cI σ) (wM ad cI σ0) r := by
  refine MI.of (by decide) (Nat.le_of_ble_eq_true rfl) (fun p e s m args below meth c ls Q hQ C hr hlk hP hS hl => ?_)
  obtain ⟨hx, hb, hml, hown, hts, hK, hKS⟩ := id C
  have hl : lv_has ls 3 [(0, .ref (ad 0))] := hl
  have B28 : ∀ n : Nat, ∀ (σ : St) (x1 x2 : Int32) (H : Heap) (locs : List Loc) (ls : Array Slot), va_P D vwCl (wM ad cI σ) H → va_S (inA ad 5) s.heap H locs → lv_has ls 3 [(0, .ref (ad 0)), (1, .int x1), (2, .int x2)] → fX10_fetch_b28 n σ x1 x2 = some (r, σ0) → W p l e (rmN 0 0) s m args below meth c H locs 0 0 Q (F0 m 28 ls []) := by
    intro n
    induction n with
    | zero =>
      intro σ x1 x2 H locs ls hP hS hl hf
      exact nomatch (show (none : Option (Int32 × St)) = some (r, σ0) from hf)
    | succ n ih =>
      intro σ x1 x2 H locs ls hP hS hl hf
      rw [fX10_fetch_b28] at hf
      refine lv_iload_n hx hb dX10_fetch_28 rfl (lv_at hl 2 rfl) ?_
      refine lv_aload_n hx hb dX10_fetch_29 rfl (lv_at hl 0 rfl) ?_
      refine GX10_11 C hP gt4_14 dX10_fetch_30 ?_
      refine lv_icmp_ge (tgt := 56) hx hb dX10_fetch_33 (by decide) (fun hc => ?_) (fun hc => ?_)
      · have hf := ite_t hf hc
        refine lv_iload_n hx hb dX10_fetch_56 rfl (lv_at hl 1 rfl) ?_
        exact MI.ret (wf := wM ad cI) hQ C hr hlk rfl hf hP hS dX10_fetch_57
      · have hf := ite_f hf hc
        refine lv_aload_n hx hb dX10_fetch_36 rfl (lv_at hl 0 rfl) ?_
        refine GX10_10 C hP gt4_13 dX10_fetch_37 ?_
        refine lv_iload_n hx hb dX10_fetch_40 rfl (lv_at hl 2 rfl) ?_
        refine lv_aload_n hx hb dX10_fetch_41 rfl (lv_at hl 0 rfl) ?_
        refine GX10_10 C hP gt4_13 dX10_fetch_42 ?_
        refine lv_iload_n hx hb dX10_fetch_45 rfl (lv_at hl 2 rfl) ?_
        refine lv_iconst (v := 1) hx hb dX10_fetch_46 (by decide) ?_
        refine lv_iadd hx hb dX10_fetch_47 ?_
        obtain ⟨hin, hf⟩ := ld_at hf
        refine aload C hP 3 rfl rfl hin dX10_fetch_48 (fun v3 ev3 => ?_)
        have hf := hf v3 ev3
        obtain ⟨hin, hf⟩ := sv_at hf
        refine astor (wf := wM ad cI) C hP (dM hI _) hS 3 rfl rfl hin (fun _ => rfl) dX10_fetch_49 (fun σ4 eσ4 H locs hP hS => ?_)
        have hf := hf σ4 eσ4
        obtain ⟨v5, ev5⟩ : ∃ y : Int32, y = x2 + 1 := ⟨_, rfl⟩
        have hf := nm_at hf v5 ev5
        refine lv_iinc (v := v5) (lv' := [(2, .int v5), (0, .ref (ad 0)), (1, .int x1)]) hx hb dX10_fetch_50 hl (k := 2) rfl (by rw [ev5]; rfl) (by decide) rfl (fun ls hl => ?_)
        refine lv_goto (tgt := 28) hx hb dX10_fetch_53 (by decide) ?_
        exact ih σ4 x1 v5 _ _ _ hP hS (lv_sub hl [1, 2, 0] rfl) hf
  unfold fX10_fetch at hf
  refine lv_aload_n hx hb dX10_fetch_0 rfl (lv_at hl 0 rfl) ?_
  refine GX10_11 C hP gt4_14 dX10_fetch_1 ?_
  refine lv_if_ne (tgt := 9) hx hb dX10_fetch_4 (by decide) (fun hc => ?_) (fun hc => ?_)
  · have hf := ite_f hf hc
    refine lv_aload_n hx hb dX10_fetch_9 rfl (lv_at hl 0 rfl) ?_
    refine GX10_10 C hP gt4_13 dX10_fetch_10 ?_
    refine lv_iconst (v := 0) hx hb dX10_fetch_13 (by decide) ?_
    obtain ⟨hin, hf⟩ := ld_at hf
    refine aload C hP 3 rfl rfl hin dX10_fetch_14 (fun v1 ev1 => ?_)
    have hf := hf v1 ev1
    refine lv_istore_n (lv' := [(1, .int v1), (0, .ref (ad 0))]) hx hb dX10_fetch_15 rfl hl (by decide) rfl (fun ls hl => ?_)
    refine lv_aload_n hx hb dX10_fetch_16 rfl (lv_at hl 1 rfl) ?_
    refine lv_dup hx hb dX10_fetch_17 rfl ?_
    refine GX10_11 C hP gt4_14 dX10_fetch_18 ?_
    refine lv_iconst (v := 1) hx hb dX10_fetch_21 (by decide) ?_
    refine lv_isub hx hb dX10_fetch_22 ?_
    refine PX10_11 hI C hP hS gt4_14 rfl rfl dX10_fetch_23 (fun σ2 eσ2 H locs hP hS => ?_)
    have hf := nm_at hf σ2 eσ2
    refine lv_iconst (v := 0) hx hb dX10_fetch_26 (by decide) ?_
    refine lv_istore_n (lv' := [(2, .int 0), (1, .int v1), (0, .ref (ad 0))]) hx hb dX10_fetch_27 rfl hl (by decide) rfl (fun ls hl => ?_)
    exact B28 200 σ2 v1 0 _ _ _ hP hS (lv_sub hl [2, 1, 0] rfl) hf
  · have hf := ite_t hf hc
    refine lv_iconst (v := (-1)) hx hb dX10_fetch_7 (by decide) ?_
    exact MI.ret (wf := wM ad cI) hQ C hr hlk rfl hf hP hS dX10_fetch_8
def fX10_state (σ : St) : Option (Int32 × St) := (if (σ 0 0) = 0 then some ((-1), σ) else some (σ 0 7, σ))
set_option maxHeartbeats 4000000 in
set_option maxRecDepth 100000 in
theorem mX10_state {l : Launch} {D : va_G} {kS vS : Nat → Nat} {ad : Nat → Nat} {cI cF : ClassId} {σ σ0 : St} {r : Int32} (hI : Inj ad 5) (hf : fX10_state σ  = some (r, σ0)) : MI l D (tyC cI cF) (inA ad 5) kS vS yX10_state cX10_state 1 .int 0 0 [.ref (ad 0)] (wM ad cI σ) (wM ad cI σ0) r := by
  refine MI.of (by decide) (Nat.le_of_ble_eq_true rfl) (fun p e s m args below meth c ls Q hQ C hr hlk hP hS hl => ?_)
  obtain ⟨hx, hb, hml, hown, hts, hK, hKS⟩ := id C
  have hl : lv_has ls 1 [(0, .ref (ad 0))] := hl
  unfold fX10_state at hf
  refine lv_aload_n hx hb dX10_state_0 rfl (lv_at hl 0 rfl) ?_
  refine GX10_0 C hP gt4_3 dX10_state_1 ?_
  refine lv_if_eq (tgt := 14) hx hb dX10_state_4 (by decide) (fun hc => ?_) (fun hc => ?_)
  · have hf := ite_t hf hc
    refine lv_iconst (v := (-1)) hx hb dX10_state_14 (by decide) ?_
    exact MI.ret (wf := wM ad cI) hQ C hr hlk rfl hf hP hS dX10_state_15
  · have hf := ite_f hf hc
    refine lv_aload_n hx hb dX10_state_7 rfl (lv_at hl 0 rfl) ?_
    refine GX10_7 C hP gt4_10 dX10_state_8 ?_
    refine lv_goto (tgt := 15) hx hb dX10_state_11 (by decide) ?_
    exact MI.ret (wf := wM ad cI) hQ C hr hlk rfl hf hP hS dX10_state_15
def fX10_waiting (σ : St) : Option (Int32 × St) := some (σ 0 9, σ)
set_option maxHeartbeats 4000000 in
set_option maxRecDepth 100000 in
theorem mX10_waiting {l : Launch} {D : va_G} {kS vS : Nat → Nat} {ad : Nat → Nat} {cI cF : ClassId} {σ σ0 : St} {r : Int32} (hI : Inj ad 5) (hf : fX10_waiting σ  = some (r, σ0)) : MI l D (tyC cI cF) (inA ad 5) kS vS yX10_waiting cX10_waiting 1 .int 0 0 [.ref (ad 0)] (wM ad cI σ) (wM ad cI σ0) r := by
  refine MI.of (by decide) (Nat.le_of_ble_eq_true rfl) (fun p e s m args below meth c ls Q hQ C hr hlk hP hS hl => ?_)
  obtain ⟨hx, hb, hml, hown, hts, hK, hKS⟩ := id C
  have hl : lv_has ls 1 [(0, .ref (ad 0))] := hl
  unfold fX10_waiting at hf
  refine lv_aload_n hx hb dX10_waiting_0 rfl (lv_at hl 0 rfl) ?_
  refine GX10_9 C hP gt4_12 dX10_waiting_1 ?_
  exact MI.ret (wf := wM ad cI) hQ C hr hlk rfl hf hP hS dX10_waiting_4
def fX10_ready (σ : St) : Option (Int32 × St) := some (σ 0 11, σ)
set_option maxHeartbeats 4000000 in
set_option maxRecDepth 100000 in
theorem mX10_ready {l : Launch} {D : va_G} {kS vS : Nat → Nat} {ad : Nat → Nat} {cI cF : ClassId} {σ σ0 : St} {r : Int32} (hI : Inj ad 5) (hf : fX10_ready σ  = some (r, σ0)) : MI l D (tyC cI cF) (inA ad 5) kS vS yX10_ready cX10_ready 1 .int 0 0 [.ref (ad 0)] (wM ad cI σ) (wM ad cI σ0) r := by
  refine MI.of (by decide) (Nat.le_of_ble_eq_true rfl) (fun p e s m args below meth c ls Q hQ C hr hlk hP hS hl => ?_)
  obtain ⟨hx, hb, hml, hown, hts, hK, hKS⟩ := id C
  have hl : lv_has ls 1 [(0, .ref (ad 0))] := hl
  unfold fX10_ready at hf
  refine lv_aload_n hx hb dX10_ready_0 rfl (lv_at hl 0 rfl) ?_
  refine GX10_11 C hP gt4_14 dX10_ready_1 ?_
  exact MI.ret (wf := wM ad cI) hQ C hr hlk rfl hf hP hS dX10_ready_4
def fX10_taken (σ : St) : Option (Int32 × St) := some (σ 0 12, σ)
set_option maxHeartbeats 4000000 in
set_option maxRecDepth 100000 in
theorem mX10_taken {l : Launch} {D : va_G} {kS vS : Nat → Nat} {ad : Nat → Nat} {cI cF : ClassId} {σ σ0 : St} {r : Int32} (hI : Inj ad 5) (hf : fX10_taken σ  = some (r, σ0)) : MI l D (tyC cI cF) (inA ad 5) kS vS yX10_taken cX10_taken 1 .int 0 0 [.ref (ad 0)] (wM ad cI σ) (wM ad cI σ0) r := by
  refine MI.of (by decide) (Nat.le_of_ble_eq_true rfl) (fun p e s m args below meth c ls Q hQ C hr hlk hP hS hl => ?_)
  obtain ⟨hx, hb, hml, hown, hts, hK, hKS⟩ := id C
  have hl : lv_has ls 1 [(0, .ref (ad 0))] := hl
  unfold fX10_taken at hf
  refine lv_aload_n hx hb dX10_taken_0 rfl (lv_at hl 0 rfl) ?_
  refine GX10_12 C hP gt4_15 dX10_taken_1 ?_
  exact MI.ret (wf := wM ad cI) hQ C hr hlk rfl hf hP hS dX10_taken_4
def fX10_put (σ : St) : Option (Int32 × St) := some (σ 0 13, σ)
set_option maxHeartbeats 4000000 in
set_option maxRecDepth 100000 in
theorem mX10_put {l : Launch} {D : va_G} {kS vS : Nat → Nat} {ad : Nat → Nat} {cI cF : ClassId} {σ σ0 : St} {r : Int32} (hI : Inj ad 5) (hf : fX10_put σ  = some (r, σ0)) : MI l D (tyC cI cF) (inA ad 5) kS vS yX10_put cX10_put 1 .int 0 0 [.ref (ad 0)] (wM ad cI σ) (wM ad cI σ0) r := by
  refine MI.of (by decide) (Nat.le_of_ble_eq_true rfl) (fun p e s m args below meth c ls Q hQ C hr hlk hP hS hl => ?_)
  obtain ⟨hx, hb, hml, hown, hts, hK, hKS⟩ := id C
  have hl : lv_has ls 1 [(0, .ref (ad 0))] := hl
  unfold fX10_put at hf
  refine lv_aload_n hx hb dX10_put_0 rfl (lv_at hl 0 rfl) ?_
  refine GX10_13 C hP gt4_16 dX10_put_1 ?_
  exact MI.ret (wf := wM ad cI) hQ C hr hlk rfl hf hP hS dX10_put_4
def fX10_faults (σ : St) : Option (Int32 × St) := some (σ 0 14, σ)
set_option maxHeartbeats 4000000 in
set_option maxRecDepth 100000 in
theorem mX10_faults {l : Launch} {D : va_G} {kS vS : Nat → Nat} {ad : Nat → Nat} {cI cF : ClassId} {σ σ0 : St} {r : Int32} (hI : Inj ad 5) (hf : fX10_faults σ  = some (r, σ0)) : MI l D (tyC cI cF) (inA ad 5) kS vS yX10_faults cX10_faults 1 .int 0 0 [.ref (ad 0)] (wM ad cI σ) (wM ad cI σ0) r := by
  refine MI.of (by decide) (Nat.le_of_ble_eq_true rfl) (fun p e s m args below meth c ls Q hQ C hr hlk hP hS hl => ?_)
  obtain ⟨hx, hb, hml, hown, hts, hK, hKS⟩ := id C
  have hl : lv_has ls 1 [(0, .ref (ad 0))] := hl
  unfold fX10_faults at hf
  refine lv_aload_n hx hb dX10_faults_0 rfl (lv_at hl 0 rfl) ?_
  refine GX10_14 C hP gt4_17 dX10_faults_1 ?_
  exact MI.ret (wf := wM ad cI) hQ C hr hlk rfl hf hP hS dX10_faults_4
def fX10_high (σ : St) (p0 : Int32) : Option (Int32 × St) := (if p0 < 55296 then some (0, σ) else (if 56319 < p0 then some (0, σ) else some (1, σ)))
set_option maxHeartbeats 4000000 in
set_option maxRecDepth 100000 in
theorem mX10_high {l : Launch} {D : va_G} {kS vS : Nat → Nat} {ad : Nat → Nat} {cI cF : ClassId} {σ σ0 : St} {p0 : Int32} {r : Int32} (hI : Inj ad 5) (hf : fX10_high σ p0 = some (r, σ0)) : MI l D (tyC cI cF) (inA ad 5) kS vS yX10_high cX10_high 1 .boolean 0 0 [.int p0] (wM ad cI σ) (wM ad cI σ0) r := by
  refine MI.of (by decide) (Nat.le_of_ble_eq_true rfl) (fun p e s m args below meth c ls Q hQ C hr hlk hP hS hl => ?_)
  obtain ⟨hx, hb, hml, hown, hts, hK, hKS⟩ := id C
  have hl : lv_has ls 1 [(0, .int p0)] := hl
  unfold fX10_high at hf
  refine lv_iload_n hx hb dX10_high_0 rfl (lv_at hl 0 rfl) ?_
  refine lv_ldc hx hb (v := 55296) hown (hts _ gt4_180) dX10_high_1 ?_
  refine lv_icmp_lt (tgt := 16) hx hb dX10_high_3 (by decide) (fun hc => ?_) (fun hc => ?_)
  · have hf := ite_t hf hc
    refine lv_iconst (v := 0) hx hb dX10_high_16 (by decide) ?_
    exact MI.ret (wf := wM ad cI) hQ C hr hlk rfl hf hP hS dX10_high_17
  · have hf := ite_f hf hc
    refine lv_iload_n hx hb dX10_high_6 rfl (lv_at hl 0 rfl) ?_
    refine lv_ldc hx hb (v := 56319) hown (hts _ gt4_181) dX10_high_7 ?_
    refine lv_icmp_gt (tgt := 16) hx hb dX10_high_9 (by decide) (fun hc => ?_) (fun hc => ?_)
    · have hf := ite_t hf hc
      refine lv_iconst (v := 0) hx hb dX10_high_16 (by decide) ?_
      exact MI.ret (wf := wM ad cI) hQ C hr hlk rfl hf hP hS dX10_high_17
    · have hf := ite_f hf hc
      refine lv_iconst (v := 1) hx hb dX10_high_12 (by decide) ?_
      refine lv_goto (tgt := 17) hx hb dX10_high_13 (by decide) ?_
      exact MI.ret (wf := wM ad cI) hQ C hr hlk rfl hf hP hS dX10_high_17
def fX10_low (σ : St) (p0 : Int32) : Option (Int32 × St) := (if p0 < 56320 then some (0, σ) else (if 57343 < p0 then some (0, σ) else some (1, σ)))
set_option maxHeartbeats 4000000 in
set_option maxRecDepth 100000 in
theorem mX10_low {l : Launch} {D : va_G} {kS vS : Nat → Nat} {ad : Nat → Nat} {cI cF : ClassId} {σ σ0 : St} {p0 : Int32} {r : Int32} (hI : Inj ad 5) (hf : fX10_low σ p0 = some (r, σ0)) : MI l D (tyC cI cF) (inA ad 5) kS vS yX10_low cX10_low 1 .boolean 0 0 [.int p0] (wM ad cI σ) (wM ad cI σ0) r := by
  refine MI.of (by decide) (Nat.le_of_ble_eq_true rfl) (fun p e s m args below meth c ls Q hQ C hr hlk hP hS hl => ?_)
  obtain ⟨hx, hb, hml, hown, hts, hK, hKS⟩ := id C
  have hl : lv_has ls 1 [(0, .int p0)] := hl
  unfold fX10_low at hf
  refine lv_iload_n hx hb dX10_low_0 rfl (lv_at hl 0 rfl) ?_
  refine lv_ldc hx hb (v := 56320) hown (hts _ gt4_185) dX10_low_1 ?_
  refine lv_icmp_lt (tgt := 16) hx hb dX10_low_3 (by decide) (fun hc => ?_) (fun hc => ?_)
  · have hf := ite_t hf hc
    refine lv_iconst (v := 0) hx hb dX10_low_16 (by decide) ?_
    exact MI.ret (wf := wM ad cI) hQ C hr hlk rfl hf hP hS dX10_low_17
  · have hf := ite_f hf hc
    refine lv_iload_n hx hb dX10_low_6 rfl (lv_at hl 0 rfl) ?_
    refine lv_ldc hx hb (v := 57343) hown (hts _ gt4_186) dX10_low_7 ?_
    refine lv_icmp_gt (tgt := 16) hx hb dX10_low_9 (by decide) (fun hc => ?_) (fun hc => ?_)
    · have hf := ite_t hf hc
      refine lv_iconst (v := 0) hx hb dX10_low_16 (by decide) ?_
      exact MI.ret (wf := wM ad cI) hQ C hr hlk rfl hf hP hS dX10_low_17
    · have hf := ite_f hf hc
      refine lv_iconst (v := 1) hx hb dX10_low_12 (by decide) ?_
      refine lv_goto (tgt := 17) hx hb dX10_low_13 (by decide) ?_
      exact MI.ret (wf := wM ad cI) hQ C hr hlk rfl hf hP hS dX10_low_17
def fX10_result (σ : St) (p1 : Int32) : Option (Int32 × St) := sv σ 4 8 (σ 0 26) p1 (fun σ1 => nm (up σ1 0 26 ((σ1 0 26) + 1)) (fun σ2 => some (0, σ2)))
set_option maxHeartbeats 4000000 in
set_option maxRecDepth 100000 in
theorem mX10_result {l : Launch} {D : va_G} {kS vS : Nat → Nat} {ad : Nat → Nat} {cI cF : ClassId} {σ σ0 : St} {p1 : Int32} {r : Int32} (hI : Inj ad 5) (hf : fX10_result σ p1 = some (r, σ0)) : MV l D (tyC cI cF) (inA ad 5) kS vS yX10_result cX10_result 2 0 0 [.ref (ad 0), .int p1] (wM ad cI σ) (wM ad cI σ0) := by
  refine MV.of (by decide) (Nat.le_of_ble_eq_true rfl) (fun p e s m args below meth c ls Q hQ C hr hlk hP hS hl => ?_)
  obtain ⟨hx, hb, hml, hown, hts, hK, hKS⟩ := id C
  have hl : lv_has ls 2 [(0, .ref (ad 0)), (1, .int p1)] := hl
  unfold fX10_result at hf
  refine lv_aload_n hx hb dX10_result_0 rfl (lv_at hl 0 rfl) ?_
  refine GX10_25 C hP gt4_28 dX10_result_1 ?_
  refine lv_aload_n hx hb dX10_result_4 rfl (lv_at hl 0 rfl) ?_
  refine GX10_26 C hP gt4_29 dX10_result_5 ?_
  refine lv_iload_n hx hb dX10_result_8 rfl (lv_at hl 1 rfl) ?_
  obtain ⟨hin, hf⟩ := sv_at hf
  refine astor (wf := wM ad cI) C hP (dM hI _) hS 4 rfl rfl hin (fun _ => rfl) dX10_result_9 (fun σ1 eσ1 H locs hP hS => ?_)
  have hf := hf σ1 eσ1
  refine lv_aload_n hx hb dX10_result_10 rfl (lv_at hl 0 rfl) ?_
  refine lv_dup hx hb dX10_result_11 rfl ?_
  refine GX10_26 C hP gt4_29 dX10_result_12 ?_
  refine lv_iconst (v := 1) hx hb dX10_result_15 (by decide) ?_
  refine lv_iadd hx hb dX10_result_16 ?_
  refine PX10_26 hI C hP hS gt4_29 rfl rfl dX10_result_17 (fun σ2 eσ2 H locs hP hS => ?_)
  have hf := nm_at hf σ2 eσ2
  exact MV.ret (wf := wM ad cI) hQ C hr hlk hf hP hS dX10_result_20
def fX10_fault (σ : St) (p1 p2 : Int32) : Option (Int32 × St) := nm (up σ 0 24 p2) (fun σ1 => some (p1, σ1))
set_option maxHeartbeats 4000000 in
set_option maxRecDepth 100000 in
theorem mX10_fault {l : Launch} {D : va_G} {kS vS : Nat → Nat} {ad : Nat → Nat} {cI cF : ClassId} {σ σ0 : St} {p1 p2 : Int32} {r : Int32} (hI : Inj ad 5) (hf : fX10_fault σ p1 p2 = some (r, σ0)) : MI l D (tyC cI cF) (inA ad 5) kS vS yX10_fault cX10_fault 3 .int 0 0 [.ref (ad 0), .int p1, .int p2] (wM ad cI σ) (wM ad cI σ0) r := by
  refine MI.of (by decide) (Nat.le_of_ble_eq_true rfl) (fun p e s m args below meth c ls Q hQ C hr hlk hP hS hl => ?_)
  obtain ⟨hx, hb, hml, hown, hts, hK, hKS⟩ := id C
  have hl : lv_has ls 3 [(0, .ref (ad 0)), (1, .int p1), (2, .int p2)] := hl
  unfold fX10_fault at hf
  refine lv_aload_n hx hb dX10_fault_0 rfl (lv_at hl 0 rfl) ?_
  refine lv_iload_n hx hb dX10_fault_1 rfl (lv_at hl 2 rfl) ?_
  refine PX10_24 hI C hP hS gt4_27 rfl rfl dX10_fault_2 (fun σ1 eσ1 H locs hP hS => ?_)
  have hf := nm_at hf σ1 eσ1
  refine lv_iload_n hx hb dX10_fault_5 rfl (lv_at hl 1 rfl) ?_
  exact MI.ret (wf := wM ad cI) hQ C hr hlk rfl hf hP hS dX10_fault_6
def fX10_step (σ : St) (p1 : Int32) : Option (Int32 × St) := nm (up σ 0 24 p1) (fun σ1 => some (0, σ1))
set_option maxHeartbeats 4000000 in
set_option maxRecDepth 100000 in
theorem mX10_step {l : Launch} {D : va_G} {kS vS : Nat → Nat} {ad : Nat → Nat} {cI cF : ClassId} {σ σ0 : St} {p1 : Int32} {r : Int32} (hI : Inj ad 5) (hf : fX10_step σ p1 = some (r, σ0)) : MI l D (tyC cI cF) (inA ad 5) kS vS yX10_step cX10_step 2 .int 0 0 [.ref (ad 0), .int p1] (wM ad cI σ) (wM ad cI σ0) r := by
  refine MI.of (by decide) (Nat.le_of_ble_eq_true rfl) (fun p e s m args below meth c ls Q hQ C hr hlk hP hS hl => ?_)
  obtain ⟨hx, hb, hml, hown, hts, hK, hKS⟩ := id C
  have hl : lv_has ls 2 [(0, .ref (ad 0)), (1, .int p1)] := hl
  unfold fX10_step at hf
  refine lv_aload_n hx hb dX10_step_0 rfl (lv_at hl 0 rfl) ?_
  refine lv_iload_n hx hb dX10_step_1 rfl (lv_at hl 1 rfl) ?_
  refine PX10_24 hI C hP hS gt4_27 rfl rfl dX10_step_2 (fun σ1 eσ1 H locs hP hS => ?_)
  have hf := nm_at hf σ1 eσ1
  refine lv_iconst (v := 0) hx hb dX10_step_5 (by decide) ?_
  exact MI.ret (wf := wM ad cI) hQ C hr hlk rfl hf hP hS dX10_step_6
def fX10_decodePage_b28 (σ : St) (y0 : Int32) : Option (Int32 × St) := (if 0 ≤ y0 then bd (fX10_result σ y0) (fun _ σ4 => bd (fX10_step σ4 1) (fun v5 σ6 => some (v5, σ6))) else bd (fX10_fault σ 3 1) (fun v7 σ8 => some (v7, σ8)))
def fX10_decodePage (σ : St) : Option (Int32 × St) := ld (σ 2) 24 0 (fun v1 => (if 128 ≤ v1 then ld (σ 1) 128 (v1 - 128) (fun v2 => fX10_decodePage_b28 σ v2) else fX10_decodePage_b28 σ v1))
set_option maxHeartbeats 4000000 in
set_option maxRecDepth 100000 in
theorem mX10_decodePage {l : Launch} {D : va_G} {kS vS : Nat → Nat} {ad : Nat → Nat} {cI cF : ClassId} {σ σ0 : St} {r : Int32} (hI : Inj ad 5) (hf : fX10_decodePage σ  = some (r, σ0)) : MI l D (tyC cI cF) (inA ad 5) kS vS yX10_decodePage cX10_decodePage 3 .int 1 22 [.ref (ad 0)] (wM ad cI σ) (wM ad cI σ0) r := by
  refine MI.of (by decide) (Nat.le_of_ble_eq_true rfl) (fun p e s m args below meth c ls Q hQ C hr hlk hP hS hl => ?_)
  obtain ⟨hx, hb, hml, hown, hts, hK, hKS⟩ := id C
  have hl : lv_has ls 3 [(0, .ref (ad 0))] := hl
  have B28 : ∀ (σ : St) (y0 : Int32) (H : Heap) (locs : List Loc) (ls : Array Slot), va_P D vwCl (wM ad cI σ) H → va_S (inA ad 5) s.heap H locs → lv_has ls 3 [(0, .ref (ad 0))] → fX10_decodePage_b28 σ y0 = some (r, σ0) → W p l e (rmN 1 22) s m args below meth c H locs 0 0 Q (F0 m 28 ls [.int y0]) := by
    intro σ y0 H locs ls hP hS hl hf
    unfold fX10_decodePage_b28 at hf
    refine lv_istore_n (lv' := [(2, .int y0), (0, .ref (ad 0))]) hx hb dX10_decodePage_28 rfl hl (by decide) rfl (fun ls hl => ?_)
    refine lv_iload_n hx hb dX10_decodePage_29 rfl (lv_at hl 0 rfl) ?_
    refine lv_if_ge (tgt := 40) hx hb dX10_decodePage_30 (by decide) (fun hc => ?_) (fun hc => ?_)
    · have hf := ite_t hf hc
      refine lv_aload_n hx hb dX10_decodePage_40 rfl (lv_at hl 1 rfl) ?_
      refine lv_iload_n hx hb dX10_decodePage_41 rfl (lv_at hl 0 rfl) ?_
      obtain ⟨v3, σ4, hc, hf⟩ := bd_at hf
      refine callVV (As := [.int y0]) (rest := []) C (mX10_result hI hc) ⟨gt4_192, gt4_194, gtp32, gt1_11, gt4_195⟩ okX10_result ⟨Nat.le_of_ble_eq_true rfl, Nat.le_of_ble_eq_true rfl⟩ (rcvOf C hP (show (wM ad cI _)[0]? = some (ad 0, _) from rfl) rfl) rfl hl.1 rfl (Nat.le_of_ble_eq_true rfl) hP hS dX10_decodePage_42 (fun H locs hP hS => ?_)
      refine lv_aload_n hx hb dX10_decodePage_45 rfl (lv_at hl 1 rfl) ?_
      refine lv_iconst (v := 1) hx hb dX10_decodePage_46 (by decide) ?_
      obtain ⟨v5, σ6, hc, hf⟩ := bd_at hf
      refine callVI (As := [.int 1]) (rest := []) C (mX10_step hI hc) ⟨gt4_196, gt4_198, gtp33, gt1_11, gt4_199⟩ okX10_step ⟨Nat.le_of_ble_eq_true rfl, Nat.le_of_ble_eq_true rfl⟩ (rcvOf C hP (show (wM ad cI _)[0]? = some (ad 0, _) from rfl) rfl) rfl hl.1 rfl (Nat.le_of_ble_eq_true rfl) hP hS dX10_decodePage_47 (fun H locs hP hS => ?_)
      exact MI.ret (wf := wM ad cI) hQ C hr hlk rfl hf hP hS dX10_decodePage_50
    · have hf := ite_f hf hc
      refine lv_aload_n hx hb dX10_decodePage_33 rfl (lv_at hl 1 rfl) ?_
      refine lv_iconst (v := 3) hx hb dX10_decodePage_34 (by decide) ?_
      refine lv_iconst (v := 1) hx hb dX10_decodePage_35 (by decide) ?_
      obtain ⟨v7, σ8, hc, hf⟩ := bd_at hf
      refine callVI (As := [.int 3, .int 1]) (rest := []) C (mX10_fault hI hc) ⟨gt4_200, gt4_202, gtp34, gt1_11, gt4_203⟩ okX10_fault ⟨Nat.le_of_ble_eq_true rfl, Nat.le_of_ble_eq_true rfl⟩ (rcvOf C hP (show (wM ad cI _)[0]? = some (ad 0, _) from rfl) rfl) rfl hl.1 rfl (Nat.le_of_ble_eq_true rfl) hP hS dX10_decodePage_36 (fun H locs hP hS => ?_)
      exact MI.ret (wf := wM ad cI) hQ C hr hlk rfl hf hP hS dX10_decodePage_39
  unfold fX10_decodePage at hf
  refine lv_aload_n hx hb dX10_decodePage_0 rfl (lv_at hl 0 rfl) ?_
  refine GX10_8 C hP gt4_11 dX10_decodePage_1 ?_
  refine lv_iconst (v := 0) hx hb dX10_decodePage_4 (by decide) ?_
  obtain ⟨hin, hf⟩ := ld_at hf
  refine aload C hP 2 rfl rfl hin dX10_decodePage_5 (fun v1 ev1 => ?_)
  have hf := hf v1 ev1
  refine lv_istore_n (lv' := [(1, .int v1), (0, .ref (ad 0))]) hx hb dX10_decodePage_6 rfl hl (by decide) rfl (fun ls hl => ?_)
  refine lv_iload_n hx hb dX10_decodePage_7 rfl (lv_at hl 0 rfl) ?_
  refine lv_sipush (v := 128) hx hb dX10_decodePage_8 (by decide) ?_
  refine lv_icmp_ge (tgt := 18) hx hb dX10_decodePage_11 (by decide) (fun hc => ?_) (fun hc => ?_)
  · have hf := ite_t hf hc
    refine lv_aload_n hx hb dX10_decodePage_18 rfl (lv_at hl 1 rfl) ?_
    refine GX10_5 C hP gt4_8 dX10_decodePage_19 ?_
    refine lv_iload_n hx hb dX10_decodePage_22 rfl (lv_at hl 0 rfl) ?_
    refine lv_sipush (v := 128) hx hb dX10_decodePage_23 (by decide) ?_
    refine lv_isub hx hb dX10_decodePage_26 ?_
    obtain ⟨hin, hf⟩ := ld_at hf
    refine aload C hP 1 rfl rfl hin dX10_decodePage_27 (fun v2 ev2 => ?_)
    have hf := hf v2 ev2
    exact B28 σ v2 _ _ _ hP hS (lv_sub hl [1] rfl) hf
  · have hf := ite_f hf hc
    refine lv_iload_n hx hb dX10_decodePage_14 rfl (lv_at hl 0 rfl) ?_
    refine lv_goto (tgt := 28) hx hb dX10_decodePage_15 (by decide) ?_
    exact B28 σ v1 _ _ _ hP hS (lv_sub hl [1] rfl) hf
def fX10_encodePage_b23 : Nat → St → Int32 → Int32 → Int32 → Option (Int32 × St)
  | 0, _, _, _, _ => none
  | n + 1, σ, x1, x2, x3 => (if x3 < 0 then (if x2 < 0 then bd (fX10_high σ x1) (fun v2 σ3 => (if v2 = 0 then bd (fX10_low σ3 x1) (fun v4 σ5 => (if v4 = 0 then bd (fX10_fault σ5 3 1) (fun v6 σ7 => some (v6, σ7)) else bd (fX10_fault σ5 2 1) (fun v8 σ9 => some (v8, σ9)))) else (if (σ3 0 9) = 1 then some (1, σ3) else ld (σ3 2) 24 1 (fun v10 => bd (fX10_low σ3 v10) (fun v11 σ12 => (if v11 = 0 then bd (fX10_fault σ12 2 1) (fun v13 σ14 => some (v13, σ14)) else bd (fX10_fault σ12 3 2) (fun v15 σ16 => some (v15, σ16)))))))) else bd (fX10_result σ x2) (fun _ σ18 => bd (fX10_step σ18 1) (fun v19 σ20 => some (v19, σ20)))) else (if x1 < 128 then nm (x3 + (-1)) (fun v21 => fX10_encodePage_b23 n σ x1 x2 v21) else ld (σ 1) 128 x3 (fun v22 => (if v22 = x1 then nm (128 + x3) (fun v24 => nm (x3 + (-1)) (fun v25 => fX10_encodePage_b23 n σ x1 v24 v25)) else nm (x3 + (-1)) (fun v23 => fX10_encodePage_b23 n σ x1 x2 v23)))))
def fX10_encodePage_b19 (σ : St) (x1 y0 : Int32) : Option (Int32 × St) := fX10_encodePage_b23 200 σ x1 y0 127
def fX10_encodePage (σ : St) : Option (Int32 × St) := ld (σ 2) 24 0 (fun v1 => (if 128 ≤ v1 then fX10_encodePage_b19 σ v1 (-1) else fX10_encodePage_b19 σ v1 v1))
set_option maxHeartbeats 4000000 in
set_option maxRecDepth 100000 in
theorem mX10_encodePage {l : Launch} {D : va_G} {kS vS : Nat → Nat} {ad : Nat → Nat} {cI cF : ClassId} {σ σ0 : St} {r : Int32} (hI : Inj ad 5) (hf : fX10_encodePage σ  = some (r, σ0)) : MI l D (tyC cI cF) (inA ad 5) kS vS yX10_encodePage cX10_encodePage 4 .int 1 22 [.ref (ad 0)] (wM ad cI σ) (wM ad cI σ0) r := by
  refine MI.of (by decide) (Nat.le_of_ble_eq_true rfl) (fun p e s m args below meth c ls Q hQ C hr hlk hP hS hl => ?_)
  obtain ⟨hx, hb, hml, hown, hts, hK, hKS⟩ := id C
  have hl : lv_has ls 4 [(0, .ref (ad 0))] := hl
  have B23 : ∀ n : Nat, ∀ (σ : St) (x1 x2 x3 : Int32) (H : Heap) (locs : List Loc) (ls : Array Slot), va_P D vwCl (wM ad cI σ) H → va_S (inA ad 5) s.heap H locs → lv_has ls 4 [(0, .ref (ad 0)), (1, .int x1), (2, .int x2), (3, .int x3)] → fX10_encodePage_b23 n σ x1 x2 x3 = some (r, σ0) → W p l e (rmN 1 22) s m args below meth c H locs 0 0 Q (F0 m 23 ls []) := by
    intro n
    induction n with
    | zero =>
      intro σ x1 x2 x3 H locs ls hP hS hl hf
      exact nomatch (show (none : Option (Int32 × St)) = some (r, σ0) from hf)
    | succ n ih =>
      intro σ x1 x2 x3 H locs ls hP hS hl hf
      rw [fX10_encodePage_b23] at hf
      refine lv_iload_n hx hb dX10_encodePage_23 rfl (lv_at hl 3 rfl) ?_
      refine lv_if_lt (tgt := 60) hx hb dX10_encodePage_24 (by decide) (fun hc => ?_) (fun hc => ?_)
      · have hf := ite_t hf hc
        refine lv_iload_n hx hb dX10_encodePage_60 rfl (lv_at hl 2 rfl) ?_
        refine lv_if_lt (tgt := 75) hx hb dX10_encodePage_61 (by decide) (fun hc => ?_) (fun hc => ?_)
        · have hf := ite_t hf hc
          refine lv_iload_n hx hb dX10_encodePage_75 rfl (lv_at hl 1 rfl) ?_
          obtain ⟨v2, σ3, hc, hf⟩ := bd_at hf
          refine callSI (As := [.int x1]) (rest := []) C (mX10_high hI hc) ⟨gt4_177, gt4_178, gt1_11, gt4_179⟩ okX10_high ⟨Nat.le_of_ble_eq_true rfl, Nat.le_of_ble_eq_true rfl⟩ rfl hl.1 rfl (Nat.le_of_ble_eq_true rfl) hP hS dX10_encodePage_76 (fun H locs hP hS => ?_)
          refine lv_if_eq (tgt := 122) hx hb dX10_encodePage_79 (by decide) (fun hc => ?_) (fun hc => ?_)
          · have hf := ite_t hf hc
            refine lv_iload_n hx hb dX10_encodePage_122 rfl (lv_at hl 1 rfl) ?_
            obtain ⟨v4, σ5, hc, hf⟩ := bd_at hf
            refine callSI (As := [.int x1]) (rest := []) C (mX10_low hI hc) ⟨gt4_182, gt4_183, gt1_11, gt4_184⟩ okX10_low ⟨Nat.le_of_ble_eq_true rfl, Nat.le_of_ble_eq_true rfl⟩ rfl hl.1 rfl (Nat.le_of_ble_eq_true rfl) hP hS dX10_encodePage_123 (fun H locs hP hS => ?_)
            refine lv_if_eq (tgt := 138) hx hb dX10_encodePage_126 (by decide) (fun hc => ?_) (fun hc => ?_)
            · have hf := ite_t hf hc
              refine lv_aload_n hx hb dX10_encodePage_138 rfl (lv_at hl 0 rfl) ?_
              refine lv_iconst (v := 3) hx hb dX10_encodePage_139 (by decide) ?_
              refine lv_iconst (v := 1) hx hb dX10_encodePage_140 (by decide) ?_
              obtain ⟨v6, σ7, hc, hf⟩ := bd_at hf
              refine callVI (As := [.int 3, .int 1]) (rest := []) C (mX10_fault hI hc) ⟨gt4_200, gt4_202, gtp34, gt1_11, gt4_203⟩ okX10_fault ⟨Nat.le_of_ble_eq_true rfl, Nat.le_of_ble_eq_true rfl⟩ (rcvOf C hP (show (wM ad cI _)[0]? = some (ad 0, _) from rfl) rfl) rfl hl.1 rfl (Nat.le_of_ble_eq_true rfl) hP hS dX10_encodePage_141 (fun H locs hP hS => ?_)
              exact MI.ret (wf := wM ad cI) hQ C hr hlk rfl hf hP hS dX10_encodePage_144
            · have hf := ite_f hf hc
              refine lv_aload_n hx hb dX10_encodePage_129 rfl (lv_at hl 0 rfl) ?_
              refine lv_iconst (v := 2) hx hb dX10_encodePage_130 (by decide) ?_
              refine lv_iconst (v := 1) hx hb dX10_encodePage_131 (by decide) ?_
              obtain ⟨v8, σ9, hc, hf⟩ := bd_at hf
              refine callVI (As := [.int 2, .int 1]) (rest := []) C (mX10_fault hI hc) ⟨gt4_200, gt4_202, gtp34, gt1_11, gt4_203⟩ okX10_fault ⟨Nat.le_of_ble_eq_true rfl, Nat.le_of_ble_eq_true rfl⟩ (rcvOf C hP (show (wM ad cI _)[0]? = some (ad 0, _) from rfl) rfl) rfl hl.1 rfl (Nat.le_of_ble_eq_true rfl) hP hS dX10_encodePage_132 (fun H locs hP hS => ?_)
              refine lv_goto (tgt := 144) hx hb dX10_encodePage_135 (by decide) ?_
              exact MI.ret (wf := wM ad cI) hQ C hr hlk rfl hf hP hS dX10_encodePage_144
          · have hf := ite_f hf hc
            refine lv_aload_n hx hb dX10_encodePage_82 rfl (lv_at hl 0 rfl) ?_
            refine GX10_9 C hP gt4_12 dX10_encodePage_83 ?_
            refine lv_iconst (v := 1) hx hb dX10_encodePage_86 (by decide) ?_
            refine lv_icmp_ne (tgt := 94) hx hb dX10_encodePage_87 (by decide) (fun hc => ?_) (fun hc => ?_)
            · have hf := ite_f hf hc
              refine lv_aload_n hx hb dX10_encodePage_94 rfl (lv_at hl 0 rfl) ?_
              refine GX10_8 C hP gt4_11 dX10_encodePage_95 ?_
              refine lv_iconst (v := 1) hx hb dX10_encodePage_98 (by decide) ?_
              obtain ⟨hin, hf⟩ := ld_at hf
              refine aload C hP 2 rfl rfl hin dX10_encodePage_99 (fun v10 ev10 => ?_)
              have hf := hf v10 ev10
              obtain ⟨v11, σ12, hc, hf⟩ := bd_at hf
              refine callSI (As := [.int v10]) (rest := []) C (mX10_low hI hc) ⟨gt4_182, gt4_183, gt1_11, gt4_184⟩ okX10_low ⟨Nat.le_of_ble_eq_true rfl, Nat.le_of_ble_eq_true rfl⟩ rfl hl.1 rfl (Nat.le_of_ble_eq_true rfl) hP hS dX10_encodePage_100 (fun H locs hP hS => ?_)
              refine lv_if_eq (tgt := 115) hx hb dX10_encodePage_103 (by decide) (fun hc => ?_) (fun hc => ?_)
              · have hf := ite_t hf hc
                refine lv_aload_n hx hb dX10_encodePage_115 rfl (lv_at hl 0 rfl) ?_
                refine lv_iconst (v := 2) hx hb dX10_encodePage_116 (by decide) ?_
                refine lv_iconst (v := 1) hx hb dX10_encodePage_117 (by decide) ?_
                obtain ⟨v13, σ14, hc, hf⟩ := bd_at hf
                refine callVI (As := [.int 2, .int 1]) (rest := []) C (mX10_fault hI hc) ⟨gt4_200, gt4_202, gtp34, gt1_11, gt4_203⟩ okX10_fault ⟨Nat.le_of_ble_eq_true rfl, Nat.le_of_ble_eq_true rfl⟩ (rcvOf C hP (show (wM ad cI _)[0]? = some (ad 0, _) from rfl) rfl) rfl hl.1 rfl (Nat.le_of_ble_eq_true rfl) hP hS dX10_encodePage_118 (fun H locs hP hS => ?_)
                exact MI.ret (wf := wM ad cI) hQ C hr hlk rfl hf hP hS dX10_encodePage_121
              · have hf := ite_f hf hc
                refine lv_aload_n hx hb dX10_encodePage_106 rfl (lv_at hl 0 rfl) ?_
                refine lv_iconst (v := 3) hx hb dX10_encodePage_107 (by decide) ?_
                refine lv_iconst (v := 2) hx hb dX10_encodePage_108 (by decide) ?_
                obtain ⟨v15, σ16, hc, hf⟩ := bd_at hf
                refine callVI (As := [.int 3, .int 2]) (rest := []) C (mX10_fault hI hc) ⟨gt4_200, gt4_202, gtp34, gt1_11, gt4_203⟩ okX10_fault ⟨Nat.le_of_ble_eq_true rfl, Nat.le_of_ble_eq_true rfl⟩ (rcvOf C hP (show (wM ad cI _)[0]? = some (ad 0, _) from rfl) rfl) rfl hl.1 rfl (Nat.le_of_ble_eq_true rfl) hP hS dX10_encodePage_109 (fun H locs hP hS => ?_)
                refine lv_goto (tgt := 121) hx hb dX10_encodePage_112 (by decide) ?_
                exact MI.ret (wf := wM ad cI) hQ C hr hlk rfl hf hP hS dX10_encodePage_121
            · have hf := ite_t hf hc
              refine lv_iconst (v := 1) hx hb dX10_encodePage_90 (by decide) ?_
              refine lv_goto (tgt := 121) hx hb dX10_encodePage_91 (by decide) ?_
              exact MI.ret (wf := wM ad cI) hQ C hr hlk rfl hf hP hS dX10_encodePage_121
        · have hf := ite_f hf hc
          refine lv_aload_n hx hb dX10_encodePage_64 rfl (lv_at hl 0 rfl) ?_
          refine lv_iload_n hx hb dX10_encodePage_65 rfl (lv_at hl 2 rfl) ?_
          obtain ⟨v17, σ18, hc, hf⟩ := bd_at hf
          refine callVV (As := [.int x2]) (rest := []) C (mX10_result hI hc) ⟨gt4_192, gt4_194, gtp32, gt1_11, gt4_195⟩ okX10_result ⟨Nat.le_of_ble_eq_true rfl, Nat.le_of_ble_eq_true rfl⟩ (rcvOf C hP (show (wM ad cI _)[0]? = some (ad 0, _) from rfl) rfl) rfl hl.1 rfl (Nat.le_of_ble_eq_true rfl) hP hS dX10_encodePage_66 (fun H locs hP hS => ?_)
          refine lv_aload_n hx hb dX10_encodePage_69 rfl (lv_at hl 0 rfl) ?_
          refine lv_iconst (v := 1) hx hb dX10_encodePage_70 (by decide) ?_
          obtain ⟨v19, σ20, hc, hf⟩ := bd_at hf
          refine callVI (As := [.int 1]) (rest := []) C (mX10_step hI hc) ⟨gt4_196, gt4_198, gtp33, gt1_11, gt4_199⟩ okX10_step ⟨Nat.le_of_ble_eq_true rfl, Nat.le_of_ble_eq_true rfl⟩ (rcvOf C hP (show (wM ad cI _)[0]? = some (ad 0, _) from rfl) rfl) rfl hl.1 rfl (Nat.le_of_ble_eq_true rfl) hP hS dX10_encodePage_71 (fun H locs hP hS => ?_)
          exact MI.ret (wf := wM ad cI) hQ C hr hlk rfl hf hP hS dX10_encodePage_74
      · have hf := ite_f hf hc
        refine lv_iload_n hx hb dX10_encodePage_27 rfl (lv_at hl 1 rfl) ?_
        refine lv_sipush (v := 128) hx hb dX10_encodePage_28 (by decide) ?_
        refine lv_icmp_lt (tgt := 52) hx hb dX10_encodePage_31 (by decide) (fun hc => ?_) (fun hc => ?_)
        · have hf := ite_t hf hc
          refine lv_iload_n hx hb dX10_encodePage_52 rfl (lv_at hl 2 rfl) ?_
          refine lv_istore_n (lv' := [(2, .int x2), (0, .ref (ad 0)), (1, .int x1), (3, .int x3)]) hx hb dX10_encodePage_53 rfl hl (by decide) rfl (fun ls hl => ?_)
          obtain ⟨v21, ev21⟩ : ∃ y : Int32, y = x3 + (-1) := ⟨_, rfl⟩
          have hf := nm_at hf v21 ev21
          refine lv_iinc (v := v21) (lv' := [(3, .int v21), (2, .int x2), (0, .ref (ad 0)), (1, .int x1)]) hx hb dX10_encodePage_54 hl (k := 3) rfl (by rw [ev21]; rfl) (by decide) rfl (fun ls hl => ?_)
          refine lv_goto (tgt := 23) hx hb dX10_encodePage_57 (by decide) ?_
          exact ih σ x1 x2 v21 _ _ _ hP hS (lv_sub hl [2, 3, 1, 0] rfl) hf
        · have hf := ite_f hf hc
          refine lv_aload_n hx hb dX10_encodePage_34 rfl (lv_at hl 0 rfl) ?_
          refine GX10_5 C hP gt4_8 dX10_encodePage_35 ?_
          refine lv_iload_n hx hb dX10_encodePage_38 rfl (lv_at hl 3 rfl) ?_
          obtain ⟨hin, hf⟩ := ld_at hf
          refine aload C hP 1 rfl rfl hin dX10_encodePage_39 (fun v22 ev22 => ?_)
          have hf := hf v22 ev22
          refine lv_iload_n hx hb dX10_encodePage_40 rfl (lv_at hl 1 rfl) ?_
          refine lv_icmp_ne (tgt := 52) hx hb dX10_encodePage_41 (by decide) (fun hc => ?_) (fun hc => ?_)
          · have hf := ite_f hf hc
            refine lv_iload_n hx hb dX10_encodePage_52 rfl (lv_at hl 2 rfl) ?_
            refine lv_istore_n (lv' := [(2, .int x2), (0, .ref (ad 0)), (1, .int x1), (3, .int x3)]) hx hb dX10_encodePage_53 rfl hl (by decide) rfl (fun ls hl => ?_)
            obtain ⟨v23, ev23⟩ : ∃ y : Int32, y = x3 + (-1) := ⟨_, rfl⟩
            have hf := nm_at hf v23 ev23
            refine lv_iinc (v := v23) (lv' := [(3, .int v23), (2, .int x2), (0, .ref (ad 0)), (1, .int x1)]) hx hb dX10_encodePage_54 hl (k := 3) rfl (by rw [ev23]; rfl) (by decide) rfl (fun ls hl => ?_)
            refine lv_goto (tgt := 23) hx hb dX10_encodePage_57 (by decide) ?_
            exact ih σ x1 x2 v23 _ _ _ hP hS (lv_sub hl [2, 3, 1, 0] rfl) hf
          · have hf := ite_t hf hc
            refine lv_sipush (v := 128) hx hb dX10_encodePage_44 (by decide) ?_
            refine lv_iload_n hx hb dX10_encodePage_47 rfl (lv_at hl 3 rfl) ?_
            refine lv_iadd hx hb dX10_encodePage_48 ?_
            refine lv_goto (tgt := 53) hx hb dX10_encodePage_49 (by decide) ?_
            refine lv_topi (fun v24 ev24 => ?_)
            have hf := nm_at hf v24 ev24
            refine lv_istore_n (lv' := [(2, .int v24), (0, .ref (ad 0)), (1, .int x1), (3, .int x3)]) hx hb dX10_encodePage_53 rfl hl (by decide) rfl (fun ls hl => ?_)
            obtain ⟨v25, ev25⟩ : ∃ y : Int32, y = x3 + (-1) := ⟨_, rfl⟩
            have hf := nm_at hf v25 ev25
            refine lv_iinc (v := v25) (lv' := [(3, .int v25), (2, .int v24), (0, .ref (ad 0)), (1, .int x1)]) hx hb dX10_encodePage_54 hl (k := 3) rfl (by rw [ev25]; rfl) (by decide) rfl (fun ls hl => ?_)
            refine lv_goto (tgt := 23) hx hb dX10_encodePage_57 (by decide) ?_
            exact ih σ x1 v24 v25 _ _ _ hP hS (lv_sub hl [2, 3, 1, 0] rfl) hf
  have B19 : ∀ (σ : St) (x1 y0 : Int32) (H : Heap) (locs : List Loc) (ls : Array Slot), va_P D vwCl (wM ad cI σ) H → va_S (inA ad 5) s.heap H locs → lv_has ls 4 [(0, .ref (ad 0)), (1, .int x1)] → fX10_encodePage_b19 σ x1 y0 = some (r, σ0) → W p l e (rmN 1 22) s m args below meth c H locs 0 0 Q (F0 m 19 ls [.int y0]) := by
    intro σ x1 y0 H locs ls hP hS hl hf
    unfold fX10_encodePage_b19 at hf
    refine lv_istore_n (lv' := [(2, .int y0), (0, .ref (ad 0)), (1, .int x1)]) hx hb dX10_encodePage_19 rfl hl (by decide) rfl (fun ls hl => ?_)
    refine lv_bipush (v := 127) hx hb dX10_encodePage_20 (by decide) ?_
    refine lv_istore_n (lv' := [(3, .int 127), (2, .int y0), (0, .ref (ad 0)), (1, .int x1)]) hx hb dX10_encodePage_22 rfl hl (by decide) rfl (fun ls hl => ?_)
    exact B23 200 σ x1 y0 127 _ _ _ hP hS (lv_sub hl [2, 3, 1, 0] rfl) hf
  unfold fX10_encodePage at hf
  refine lv_aload_n hx hb dX10_encodePage_0 rfl (lv_at hl 0 rfl) ?_
  refine GX10_8 C hP gt4_11 dX10_encodePage_1 ?_
  refine lv_iconst (v := 0) hx hb dX10_encodePage_4 (by decide) ?_
  obtain ⟨hin, hf⟩ := ld_at hf
  refine aload C hP 2 rfl rfl hin dX10_encodePage_5 (fun v1 ev1 => ?_)
  have hf := hf v1 ev1
  refine lv_istore_n (lv' := [(1, .int v1), (0, .ref (ad 0))]) hx hb dX10_encodePage_6 rfl hl (by decide) rfl (fun ls hl => ?_)
  refine lv_iload_n hx hb dX10_encodePage_7 rfl (lv_at hl 0 rfl) ?_
  refine lv_sipush (v := 128) hx hb dX10_encodePage_8 (by decide) ?_
  refine lv_icmp_ge (tgt := 18) hx hb dX10_encodePage_11 (by decide) (fun hc => ?_) (fun hc => ?_)
  · have hf := ite_t hf hc
    refine lv_iconst (v := (-1)) hx hb dX10_encodePage_18 (by decide) ?_
    exact B19 σ v1 (-1) _ _ _ hP hS (lv_sub hl [1, 0] rfl) hf
  · have hf := ite_f hf hc
    refine lv_iload_n hx hb dX10_encodePage_14 rfl (lv_at hl 0 rfl) ?_
    refine lv_goto (tgt := 19) hx hb dX10_encodePage_15 (by decide) ?_
    exact B19 σ v1 v1 _ _ _ hP hS (lv_sub hl [1, 0] rfl) hf
def fX10_sign (σ : St) (p0 : Int32) : Option (Int32 × St) := (if 26 ≤ p0 then (if 52 ≤ p0 then (if 62 ≤ p0 then (if p0 = 62 then some (43, σ) else some (47, σ)) else some (p0 - 4, σ)) else some (71 + p0, σ)) else some (65 + p0, σ))
set_option maxHeartbeats 4000000 in
set_option maxRecDepth 100000 in
theorem mX10_sign {l : Launch} {D : va_G} {kS vS : Nat → Nat} {ad : Nat → Nat} {cI cF : ClassId} {σ σ0 : St} {p0 : Int32} {r : Int32} (hI : Inj ad 5) (hf : fX10_sign σ p0 = some (r, σ0)) : MI l D (tyC cI cF) (inA ad 5) kS vS yX10_sign cX10_sign 1 .int 0 0 [.int p0] (wM ad cI σ) (wM ad cI σ0) r := by
  refine MI.of (by decide) (Nat.le_of_ble_eq_true rfl) (fun p e s m args below meth c ls Q hQ C hr hlk hP hS hl => ?_)
  obtain ⟨hx, hb, hml, hown, hts, hK, hKS⟩ := id C
  have hl : lv_has ls 1 [(0, .int p0)] := hl
  unfold fX10_sign at hf
  refine lv_iload_n hx hb dX10_sign_0 rfl (lv_at hl 0 rfl) ?_
  refine lv_bipush (v := 26) hx hb dX10_sign_1 (by decide) ?_
  refine lv_icmp_ge (tgt := 13) hx hb dX10_sign_3 (by decide) (fun hc => ?_) (fun hc => ?_)
  · have hf := ite_t hf hc
    refine lv_iload_n hx hb dX10_sign_13 rfl (lv_at hl 0 rfl) ?_
    refine lv_bipush (v := 52) hx hb dX10_sign_14 (by decide) ?_
    refine lv_icmp_ge (tgt := 26) hx hb dX10_sign_16 (by decide) (fun hc => ?_) (fun hc => ?_)
    · have hf := ite_t hf hc
      refine lv_iload_n hx hb dX10_sign_26 rfl (lv_at hl 0 rfl) ?_
      refine lv_bipush (v := 62) hx hb dX10_sign_27 (by decide) ?_
      refine lv_icmp_ge (tgt := 38) hx hb dX10_sign_29 (by decide) (fun hc => ?_) (fun hc => ?_)
      · have hf := ite_t hf hc
        refine lv_iload_n hx hb dX10_sign_38 rfl (lv_at hl 0 rfl) ?_
        refine lv_bipush (v := 62) hx hb dX10_sign_39 (by decide) ?_
        refine lv_icmp_ne (tgt := 49) hx hb dX10_sign_41 (by decide) (fun hc => ?_) (fun hc => ?_)
        · have hf := ite_f hf hc
          refine lv_bipush (v := 47) hx hb dX10_sign_49 (by decide) ?_
          exact MI.ret (wf := wM ad cI) hQ C hr hlk rfl hf hP hS dX10_sign_51
        · have hf := ite_t hf hc
          refine lv_bipush (v := 43) hx hb dX10_sign_44 (by decide) ?_
          refine lv_goto (tgt := 51) hx hb dX10_sign_46 (by decide) ?_
          exact MI.ret (wf := wM ad cI) hQ C hr hlk rfl hf hP hS dX10_sign_51
      · have hf := ite_f hf hc
        refine lv_iload_n hx hb dX10_sign_32 rfl (lv_at hl 0 rfl) ?_
        refine lv_iconst (v := 4) hx hb dX10_sign_33 (by decide) ?_
        refine lv_isub hx hb dX10_sign_34 ?_
        refine lv_goto (tgt := 51) hx hb dX10_sign_35 (by decide) ?_
        exact MI.ret (wf := wM ad cI) hQ C hr hlk rfl hf hP hS dX10_sign_51
    · have hf := ite_f hf hc
      refine lv_bipush (v := 71) hx hb dX10_sign_19 (by decide) ?_
      refine lv_iload_n hx hb dX10_sign_21 rfl (lv_at hl 0 rfl) ?_
      refine lv_iadd hx hb dX10_sign_22 ?_
      refine lv_goto (tgt := 51) hx hb dX10_sign_23 (by decide) ?_
      exact MI.ret (wf := wM ad cI) hQ C hr hlk rfl hf hP hS dX10_sign_51
  · have hf := ite_f hf hc
    refine lv_bipush (v := 65) hx hb dX10_sign_6 (by decide) ?_
    refine lv_iload_n hx hb dX10_sign_8 rfl (lv_at hl 0 rfl) ?_
    refine lv_iadd hx hb dX10_sign_9 ?_
    refine lv_goto (tgt := 51) hx hb dX10_sign_10 (by decide) ?_
    exact MI.ret (wf := wM ad cI) hQ C hr hlk rfl hf hP hS dX10_sign_51
def fX10_six_b4 : Nat → St → Int32 → Int32 → Int32 → Option (Int32 × St)
  | 0, _, _, _, _ => none
  | n + 1, σ, x0, x1, x2 => (if 64 ≤ x2 then some (x1, σ) else bd (fX10_sign σ x2) (fun v1 σ2 => (if v1 = x0 then nm (x2 + 1) (fun v4 => fX10_six_b4 n σ2 x0 x2 v4) else nm (x2 + 1) (fun v3 => fX10_six_b4 n σ2 x0 x1 v3))))
def fX10_six (σ : St) (p0 : Int32) : Option (Int32 × St) := fX10_six_b4 200 σ p0 (-1) 0
set_option maxHeartbeats 4000000 in
set_option maxRecDepth 100000 in
theorem mX10_six {l : Launch} {D : va_G} {kS vS : Nat → Nat} {ad : Nat → Nat} {cI cF : ClassId} {σ σ0 : St} {p0 : Int32} {r : Int32} (hI : Inj ad 5) (hf : fX10_six σ p0 = some (r, σ0)) : MI l D (tyC cI cF) (inA ad 5) kS vS yX10_six cX10_six 3 .int 1 20 [.int p0] (wM ad cI σ) (wM ad cI σ0) r := by
  refine MI.of (by decide) (Nat.le_of_ble_eq_true rfl) (fun p e s m args below meth c ls Q hQ C hr hlk hP hS hl => ?_)
  obtain ⟨hx, hb, hml, hown, hts, hK, hKS⟩ := id C
  have hl : lv_has ls 3 [(0, .int p0)] := hl
  have B4 : ∀ n : Nat, ∀ (σ : St) (x0 x1 x2 : Int32) (H : Heap) (locs : List Loc) (ls : Array Slot), va_P D vwCl (wM ad cI σ) H → va_S (inA ad 5) s.heap H locs → lv_has ls 3 [(0, .int x0), (1, .int x1), (2, .int x2)] → fX10_six_b4 n σ x0 x1 x2 = some (r, σ0) → W p l e (rmN 1 20) s m args below meth c H locs 0 0 Q (F0 m 4 ls []) := by
    intro n
    induction n with
    | zero =>
      intro σ x0 x1 x2 H locs ls hP hS hl hf
      exact nomatch (show (none : Option (Int32 × St)) = some (r, σ0) from hf)
    | succ n ih =>
      intro σ x0 x1 x2 H locs ls hP hS hl hf
      rw [fX10_six_b4] at hf
      refine lv_iload_n hx hb dX10_six_4 rfl (lv_at hl 2 rfl) ?_
      refine lv_bipush (v := 64) hx hb dX10_six_5 (by decide) ?_
      refine lv_icmp_ge (tgt := 30) hx hb dX10_six_7 (by decide) (fun hc => ?_) (fun hc => ?_)
      · have hf := ite_t hf hc
        refine lv_iload_n hx hb dX10_six_30 rfl (lv_at hl 1 rfl) ?_
        exact MI.ret (wf := wM ad cI) hQ C hr hlk rfl hf hP hS dX10_six_31
      · have hf := ite_f hf hc
        refine lv_iload_n hx hb dX10_six_10 rfl (lv_at hl 2 rfl) ?_
        obtain ⟨v1, σ2, hc, hf⟩ := bd_at hf
        refine callSI (As := [.int x2]) (rest := []) C (mX10_sign hI hc) ⟨gt5_11, gt5_12, gt1_11, gt5_13⟩ okX10_sign ⟨Nat.le_of_ble_eq_true rfl, Nat.le_of_ble_eq_true rfl⟩ rfl hl.1 rfl (Nat.le_of_ble_eq_true rfl) hP hS dX10_six_11 (fun H locs hP hS => ?_)
        refine lv_iload_n hx hb dX10_six_14 rfl (lv_at hl 0 rfl) ?_
        refine lv_icmp_ne (tgt := 22) hx hb dX10_six_15 (by decide) (fun hc => ?_) (fun hc => ?_)
        · have hf := ite_f hf hc
          refine lv_iload_n hx hb dX10_six_22 rfl (lv_at hl 1 rfl) ?_
          refine lv_istore_n (lv' := [(1, .int x1), (0, .int x0), (2, .int x2)]) hx hb dX10_six_23 rfl hl (by decide) rfl (fun ls hl => ?_)
          obtain ⟨v3, ev3⟩ : ∃ y : Int32, y = x2 + 1 := ⟨_, rfl⟩
          have hf := nm_at hf v3 ev3
          refine lv_iinc (v := v3) (lv' := [(2, .int v3), (1, .int x1), (0, .int x0)]) hx hb dX10_six_24 hl (k := 2) rfl (by rw [ev3]; rfl) (by decide) rfl (fun ls hl => ?_)
          refine lv_goto (tgt := 4) hx hb dX10_six_27 (by decide) ?_
          exact ih σ2 x0 x1 v3 _ _ _ hP hS (lv_sub hl [2, 1, 0] rfl) hf
        · have hf := ite_t hf hc
          refine lv_iload_n hx hb dX10_six_18 rfl (lv_at hl 2 rfl) ?_
          refine lv_goto (tgt := 23) hx hb dX10_six_19 (by decide) ?_
          refine lv_istore_n (lv' := [(1, .int x2), (0, .int x0), (2, .int x2)]) hx hb dX10_six_23 rfl hl (by decide) rfl (fun ls hl => ?_)
          obtain ⟨v4, ev4⟩ : ∃ y : Int32, y = x2 + 1 := ⟨_, rfl⟩
          have hf := nm_at hf v4 ev4
          refine lv_iinc (v := v4) (lv' := [(2, .int v4), (1, .int x2), (0, .int x0)]) hx hb dX10_six_24 hl (k := 2) rfl (by rw [ev4]; rfl) (by decide) rfl (fun ls hl => ?_)
          refine lv_goto (tgt := 4) hx hb dX10_six_27 (by decide) ?_
          exact ih σ2 x0 x2 v4 _ _ _ hP hS (lv_sub hl [2, 1, 0] rfl) hf
  unfold fX10_six at hf
  refine lv_iconst (v := (-1)) hx hb dX10_six_0 (by decide) ?_
  refine lv_istore_n (lv' := [(1, .int (-1)), (0, .int p0)]) hx hb dX10_six_1 rfl hl (by decide) rfl (fun ls hl => ?_)
  refine lv_iconst (v := 0) hx hb dX10_six_2 (by decide) ?_
  refine lv_istore_n (lv' := [(2, .int 0), (1, .int (-1)), (0, .int p0)]) hx hb dX10_six_3 rfl hl (by decide) rfl (fun ls hl => ?_)
  exact B4 200 σ p0 (-1) 0 _ _ _ hP hS (lv_sub hl [2, 1, 0] rfl) hf
