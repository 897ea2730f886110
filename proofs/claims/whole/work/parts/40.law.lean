/-! THE CLAIM OUT OF ONE WALK OF THE LAW'S BODY. Your part is whole_start (and what it stands on); all else here is the same for every law, but numbers. -/
def R_law : String := "ResumableCoderLaw"
def lw_P (b : Addr) (xs : List Int32) (args : Array Value) (s : State) : Prop := args = #[.ref b] ∧ s.IntsAt b xs ∧ xs.length ≤ 320 ∧ (Jvm.Cond.and given_1 narrow_1).before args s = true
def lw_Q (_ : Array Value) (s : State) (o : Outcome) (t : State) : Prop := o = .returned (some (.int 1)) ∧ Framed s o t [] 600000 7302250
def lw_Z (below : List Frame) (a : Array Value) (s : State) : State → Prop := fun t => ∃ o, t.status = .running ∧ Ended t below o ∧ lw_Q a s o t
/-- the law's own end, with 1 on the stack, nothing written that was there before, its room as the claim has it -/
theorem lw_ret {p : Program} {l : Launch} {e : Env} {s : State} {m : MethodId} {below : List Frame} {meth : Method} {c : Code} {b : Nat} (hx : p.tables.exec = Jvm.exec) (hb : c.code = code) (hr : meth.sig.returnType = ret) (hlocks : meth.locks = false) {pc : Nat} {H : Heap} {ls : Array Slot} (hdg : decode code pc = .ok (.ireturn, 1)) : W p l e room_1 s m #[Value.ref b] below meth c H [] 600000 7302250 (lw_Z below #[Value.ref b] s) (F0 m pc ls [.int 1]) := by
  intro T hT X
  obtain ⟨fs, hret, hrun, hended, hW, hframe⟩ := X.leave (v := some (.int 1)) (hlocks := hlocks) (fun h => by rw [hr] at h; cases h)
  have hmeth' : T.vm.method? m = some meth := X.method'
  refine ⟨T.setFrames fs, ?_, .returned (some (.int 1)), hrun, hended, rfl, ⟨_, rfl⟩, hW, hframe⟩
  jvm_step X.here [X.here.top, hx, hb, hdg, hmeth', hr, ret, narrow_b1]
  (try refine ⟨rfl, ?_⟩); (try refine ⟨rfl, ?_⟩)
  first | (intro acts; rw [hret _ acts rfl rfl rfl]) | rw [hret _ _ rfl rfl rfl]
  exact Steps.refl _
/-- what holds at the law's entry: the machine, the code, the tables' words (any of lw_tbl by 'hts w (by decide +kernel)'), the script of L ints xs at the cell b, what the Statement gives of the start (any of its parts by flat_of_before) -/
def lw_At (p : Program) (s : State) (m : MethodId) (meth : Method) (c : Code) (b L : Nat) (xs : Nat → Int32) : Prop :=
  p.tables.exec = Jvm.exec ∧ c.code = code ∧ meth.sig.returnType = ret ∧ c.maxLocals = 4 ∧ s.vm.findClass R_law = some m.cls ∧ (∀ w ∈ lw_tbl, w.before #[Value.ref b] s = true) ∧ va_X b L xs s s.heap ∧ b < s.heap.size ∧ meth.locks = false ∧ (Jvm.Cond.and given_1 narrow_1).before #[Value.ref b] s = true
def fL : Nat → Nat → (Nat → Int32) → Int32 → St → St → Option (Int32 × St)
  | 0, _, _, _, _, _ => none
  | n + 1, L, xs, x3, σ, μ => (if ((Int32.ofNat L) - 5) < x3 then some (1, σ) else ld xs L x3 (fun v1 => nm (v1 &&& 15) (fun v2 => (if v2 = 0 then ld xs L (x3 + 1) (fun v3 => ld xs L (x3 + 2) (fun v4 => (if v4 = 0 then ld xs L (x3 + 3) (fun v5 => ld xs L (x3 + 4) (fun v6 => bd (fX9_open σ v3 0 v5 v6) (fun v7 σ8 => ld xs L (x3 + 1) (fun v9 => ld xs L (x3 + 2) (fun v10 => (if v10 = 0 then ld xs L (x3 + 3) (fun v11 => ld xs L (x3 + 4) (fun v12 => bd (fX10_open μ v9 0 v11 v12) (fun v13 μ14 => (if v7 = v13 then nm (x3 + 5) (fun v15 => fL n L xs v15 σ8 μ14) else none)))) else ld xs L (x3 + 3) (fun v16 => ld xs L (x3 + 4) (fun v17 => bd (fX10_open μ v9 1 v16 v17) (fun v18 μ19 => (if v7 = v18 then nm (x3 + 5) (fun v20 => fL n L xs v20 σ8 μ19) else none)))))))))) else ld xs L (x3 + 3) (fun v21 => ld xs L (x3 + 4) (fun v22 => bd (fX9_open σ v3 1 v21 v22) (fun v23 σ24 => ld xs L (x3 + 1) (fun v25 => ld xs L (x3 + 2) (fun v26 => (if v26 = 0 then ld xs L (x3 + 3) (fun v27 => ld xs L (x3 + 4) (fun v28 => bd (fX10_open μ v25 0 v27 v28) (fun v29 μ30 => (if v23 = v29 then nm (x3 + 5) (fun v31 => fL n L xs v31 σ24 μ30) else none)))) else ld xs L (x3 + 3) (fun v32 => ld xs L (x3 + 4) (fun v33 => bd (fX10_open μ v25 1 v32 v33) (fun v34 μ35 => (if v23 = v34 then nm (x3 + 5) (fun v36 => fL n L xs v36 σ24 μ35) else none))))))))))))) else (if v2 = 1 then ld xs L (x3 + 1) (fun v37 => ld xs L (x3 + 2) (fun v38 => bd (fX9_map σ v37 v38) (fun v39 σ40 => ld xs L (x3 + 1) (fun v41 => ld xs L (x3 + 2) (fun v42 => bd (fX10_map μ v41 v42) (fun v43 μ44 => (if v39 = v43 then nm (x3 + 5) (fun v45 => fL n L xs v45 σ40 μ44) else none))))))) else (if v2 = 2 then ld xs L (x3 + 1) (fun v46 => bd (fX9_give σ v46) (fun v47 σ48 => ld xs L (x3 + 1) (fun v49 => bd (fX10_give μ v49) (fun v50 μ51 => (if v47 = v50 then nm (x3 + 5) (fun v52 => fL n L xs v52 σ48 μ51) else none))))) else (if v2 = 3 then ld xs L (x3 + 1) (fun v53 => bd (fX9_room σ v53) (fun v54 σ55 => ld xs L (x3 + 1) (fun v56 => bd (fX10_room μ v56) (fun v57 μ58 => (if v54 = v57 then nm (x3 + 5) (fun v59 => fL n L xs v59 σ55 μ58) else none))))) else (if v2 = 4 then ld xs L (x3 + 1) (fun v60 => (if v60 = 0 then bd (fX9_code σ 0) (fun v61 σ62 => ld xs L (x3 + 1) (fun v63 => (if v63 = 0 then bd (fX10_code μ 0) (fun v64 μ65 => (if v61 = v64 then nm (x3 + 5) (fun v66 => fL n L xs v66 σ62 μ65) else none)) else bd (fX10_code μ 1) (fun v67 μ68 => (if v61 = v67 then nm (x3 + 5) (fun v69 => fL n L xs v69 σ62 μ68) else none))))) else bd (fX9_code σ 1) (fun v70 σ71 => ld xs L (x3 + 1) (fun v72 => (if v72 = 0 then bd (fX10_code μ 0) (fun v73 μ74 => (if v70 = v73 then nm (x3 + 5) (fun v75 => fL n L xs v75 σ71 μ74) else none)) else bd (fX10_code μ 1) (fun v76 μ77 => (if v70 = v76 then nm (x3 + 5) (fun v78 => fL n L xs v78 σ71 μ77) else none))))))) else (if v2 = 5 then bd (fX9_flush σ) (fun v79 σ80 => bd (fX10_flush μ) (fun v81 μ82 => (if v79 = v81 then nm (x3 + 5) (fun v83 => fL n L xs v83 σ80 μ82) else none))) else (if v2 = 6 then bd (fX9_reset σ) (fun v84 σ85 => bd (fX10_reset μ) (fun v86 μ87 => (if v84 = v86 then nm (x3 + 5) (fun v88 => fL n L xs v88 σ85 μ87) else none))) else (if v2 = 7 then bd (fX9_pass σ) (fun v89 σ90 => bd (fX10_pass μ) (fun v91 μ92 => (if v89 = v91 then nm (x3 + 5) (fun v93 => fL n L xs v93 σ90 μ92) else none))) else (if v2 = 8 then bd (fX9_fetch σ) (fun v94 σ95 => bd (fX10_fetch μ) (fun v96 μ97 => (if v94 = v96 then nm (x3 + 5) (fun v98 => fL n L xs v98 σ95 μ97) else none))) else (if v2 = 9 then bd (fX9_state σ) (fun v99 σ100 => bd (fX10_state μ) (fun v101 μ102 => (if v99 = v101 then nm (x3 + 5) (fun v103 => fL n L xs v103 σ100 μ102) else none))) else (if v2 = 10 then bd (fX9_waiting σ) (fun v104 σ105 => bd (fX10_waiting μ) (fun v106 μ107 => (if v104 = v106 then nm (x3 + 5) (fun v108 => fL n L xs v108 σ105 μ107) else none))) else (if v2 = 11 then bd (fX9_ready σ) (fun v109 σ110 => bd (fX10_ready μ) (fun v111 μ112 => (if v109 = v111 then nm (x3 + 5) (fun v113 => fL n L xs v113 σ110 μ112) else none))) else (if v2 = 12 then bd (fX9_taken σ) (fun v114 σ115 => bd (fX10_taken μ) (fun v116 μ117 => (if v114 = v116 then nm (x3 + 5) (fun v118 => fL n L xs v118 σ115 μ117) else none))) else (if v2 = 13 then bd (fX9_put σ) (fun v119 σ120 => bd (fX10_put μ) (fun v121 μ122 => (if v119 = v121 then nm (x3 + 5) (fun v123 => fL n L xs v123 σ120 μ122) else none))) else (if v2 = 14 then bd (fX9_faults σ) (fun v124 σ125 => bd (fX10_faults μ) (fun v126 μ127 => (if v124 = v126 then nm (x3 + 5) (fun v128 => fL n L xs v128 σ125 μ127) else none))) else nm (x3 + 5) (fun v129 => fL n L xs v129 σ μ)))))))))))))))))))
theorem tsw_out {v : Int32} (h0 : ¬ v = 0) (h1 : ¬ v = 1) (h2 : ¬ v = 2) (h3 : ¬ v = 3) (h4 : ¬ v = 4) (h5 : ¬ v = 5) (h6 : ¬ v = 6) (h7 : ¬ v = 7) (h8 : ¬ v = 8) (h9 : ¬ v = 9) (h10 : ¬ v = 10) (h11 : ¬ v = 11) (h12 : ¬ v = 12) (h13 : ¬ v = 13) (h14 : ¬ v = 14) : v.toInt < 0 ∨ 14 < v.toInt := by
  have k : ∀ n : Nat, n < 15 → v.toInt = n → v = nI n := fun n hn h => Int32.toInt_inj.mp (by rw [h, nI_toInt (by omega)])
  by_cases hv : v.toInt < 0
  · exact Or.inl hv
  · refine Or.inr ?_
    refine Classical.byContradiction fun hq => ?_
    obtain ⟨n, hn⟩ : ∃ n : Nat, v.toInt = n := ⟨v.toInt.toNat, by omega⟩
    have h15 : n < 15 := by omega
    have hz := k n h15 hn
    match n, h15 with
    | 0, _ => exact h0 hz
    | 1, _ => exact h1 hz
    | 2, _ => exact h2 hz
    | 3, _ => exact h3 hz
    | 4, _ => exact h4 hz
    | 5, _ => exact h5 hz
    | 6, _ => exact h6 hz
    | 7, _ => exact h7 hz
    | 8, _ => exact h8 hz
    | 9, _ => exact h9 hz
    | 10, _ => exact h10 hz
    | 11, _ => exact h11 hz
    | 12, _ => exact h12 hz
    | 13, _ => exact h13 hz
    | 14, _ => exact h14 hz
    | n + 15, h => exact absurd h (by omega)
set_option maxHeartbeats 2000000 in
theorem lawI {p : Program} {l : Launch} {e : Env} {R : Room} {s : State} {m : MethodId} {args : Array Value} {below : List Frame} {meth : Method} {c : Code} {H : Heap} {locs : List Loc} {Q : State → Prop} {cc : ByteArray} {pc nL cells slots : Nat} {ls : Array Slot} {rest : List Value} {D : va_G} {tys : List (ClassId × FieldType)} {A A1 : Nat → Prop} {kS vS : Nat → Nat} {own : String} {w w' wo : va_W} {y : MethodName} {cy : ByteArray} {mL : Nat} {rt : FieldType} {fr lo n idx b : Nat} {As st0 : List Value} {r : Int32} (C : Cx p c cc nL s m args own D tys A kS vS) (hA1 : ∀ q, A1 q → A q) (hO : ∀ (k : Nat) (q : Nat × va_E), wo[k]? = some q → ¬ A1 q.1) (hM : MI l D tys A1 kS vS y cy mL rt fr lo (.ref b :: As) w w' r) (hg : Cond.methodLink own idx y ∈ GT ∧ Cond.instanceMethod y ∈ GT ∧ Cond.selects y.cls y y ∈ GT ∧ Cond.initialized y.cls ∈ GT ∧ Cond.code y cy mL (some rt) ∈ GT) (hy : okY y n) (hR : fr + 1 ≤ R.frames ∧ 8 + (mL + 11) + lo ≤ R.locals) (hrc : ∃ cell : Cell, H[b]? = some cell ∧ cell.vm.isStatics = false ∧ s.vm.findClass y.cls = some cell.cls) (hn : As.length = n) (hls : ls.size = nL) (hst : st0 = As.reverse ++ .ref b :: rest) (hcat : (rest.map fun v => v.category).sum ≤ 8) (hP : va_P D vwCl w H) (hPo : va_P D vwCl wo H) (hS : va_S A s.heap H locs) (hd : decode cc pc = .ok (.invokevirtual idx, 3)) (hcs : cells ≤ R.cells ∧ slots ≤ R.slots)
    (kk : ∀ (H1 : Heap) (locs1 : List Loc), va_P D vwCl w' H1 → va_P D vwCl wo H1 → va_S A s.heap H1 locs1 → W p l e R s m args below meth c H1 locs1 cells slots Q (F0 m (pc + 3) ls (.int r :: rest))) : W p l e R s m args below meth c H locs cells slots Q (F0 m pc ls st0) := by
  have cw := callV_of C hg hy hR
  have hp : PreV s H y.cls b (Pr D tys A1 kS vS w (.ref b :: As)) As := ⟨Pr_blind, hrc, fun U hU hW => ⟨rfl, by rw [hU]; exact hP, va_K.moved hW.alike C.2.2.2.2.2.1, (KS.pass C.2.2.2.2.2.2 hS hU hW).narrow hA1⟩⟩
  obtain ⟨hx, hb, hml, hown, hts, hK, hKS⟩ := C
  refine va_calli (va_runV ⟨hx, hb, hml, hown, hts⟩ hM cw hp rfl hn hls hst (lv_room hcat) hd hcs) hS (fun q _ h => hA1 q h) (fun q h => hA1 q h) (fun x u t H1 locs1 ht hvm hw hB hz hk hS1 => ?_)
  subst hw
  exact kk H1 locs1 (by rw [← ht]; exact hB.1) (hPo.kept (fun k q hq => hk q.1 (hPo k q hq).lt (hO k q hq))) hS1
set_option maxHeartbeats 8000000 in
set_option maxRecDepth 100000 in
theorem law_loop {p : Program} {l : Launch} {e : Env} {s : State} {m : MethodId} {below : List Frame} {meth : Method} {c : Code} {D : va_G} {kS vS ad ae : Nat → Nat} {cI cF : ClassId} {b L : Nat} {xs : Nat → Int32} (C0 : lw_At p s m meth c b L xs) (C : Cx p c code 4 s m #[Value.ref b] RL D (tyC cI cF) (fun q : Nat => s.heap.size ≤ q) kS vS) (hI : Inj ad 18) (hJ : Inj ae 5) (hA1 : ∀ q, inA ad 18 q → s.heap.size ≤ q) (hA2 : ∀ q, inA ae 5 q → s.heap.size ≤ q) (hO2 : ∀ (μ : St) (k : Nat) (q : Nat × va_E), (wM ae cI μ)[k]? = some q → ¬ inA ad 18 q.1) (hO1 : ∀ (σ : St) (k : Nat) (q : Nat × va_E), (wC ad cI cF σ)[k]? = some q → ¬ inA ae 5 q.1) {σ0 : St} :
    ∀ (n : Nat) (x3 : Int32) (σ μ : St) (H : Heap) (locs : List Loc) (ls : Array Slot), va_P D vwCl (wC ad cI cF σ) H → va_P D vwCl (wM ae cI μ) H → va_S (fun q : Nat => s.heap.size ≤ q) s.heap H locs → lv_has ls 4 [(0, .ref b), (1, .ref (ad 0)), (2, .ref (ae 0)), (3, .int x3)] → fL n L xs x3 σ μ = some (1, σ0) → W p l e room_1 s m #[Value.ref b] below meth c H locs 600000 7302250 (lw_Z below #[Value.ref b] s) (F0 m 18 ls []) := by
  obtain ⟨hx, hb, hr, hml, hown0, hts0, hX, hbl, hlocks, hgv⟩ := id C0
  obtain ⟨-, -, -, hown, hts, hK, hKS⟩ := id C
  have hbA : ¬ (fun q : Nat => s.heap.size ≤ q) b := Nat.not_le.mpr hbl
  intro n
  induction n with
  | zero =>
    intro x3 σ μ H locs ls hPc hPm hS hl hf
    exact nomatch (show (none : Option (Int32 × St)) = some (1, σ0) from hf)
  | succ n ih =>
    intro x3 σ μ H locs ls hPc hPm hS hl hf
    rw [fL] at hf
    refine lv_iload_n hx hb dL_law_18 rfl (lv_at hl 3 rfl) ?_
    refine lv_aload_n hx hb dL_law_19 rfl (lv_at hl 0 rfl) ?_
    refine va_slen hx hb hX hbl hbA hS dL_law_20 ?_
    refine lv_iconst (v := 5) hx hb dL_law_21 (by decide) ?_
    refine lv_isub hx hb dL_law_22 ?_
    refine lv_icmp_gt (tgt := 431) hx hb dL_law_23 (by decide) (fun hc => ?_) (fun hc => ?_)
    · have hf := ite_t hf hc
      refine lv_iconst (v := 1) hx hb dL_law_431 (by decide) ?_
      refine va_forget (fun q hq => hS.2.2 q hq) ?_
      exact lw_ret hx hb hr hlocks dL_law_432
    · have hf := ite_f hf hc
      refine lv_aload_n hx hb dL_law_26 rfl (lv_at hl 0 rfl) ?_
      refine lv_iload_n hx hb dL_law_27 rfl (lv_at hl 3 rfl) ?_
      obtain ⟨hin, hf⟩ := ld_at hf
      refine va_sld hx hb hX hbl hbA hS hin dL_law_28 ?_
      refine lv_topi (fun v1 ev1 => ?_)
      have hf := hf v1 ev1
      refine lv_bipush (v := 15) hx hb dL_law_29 (by decide) ?_
      refine lv_iand hx hb dL_law_31 ?_
      refine lv_topi (fun v2 ev2 => ?_)
      have hf := nm_at hf v2 ev2
      by_cases hk0 : v2 = 0
      · have hf := ite_t hf hk0
        refine lv_tableIn (tgt := 108) (off := 76) hx hb dL_law_32 (by rw [hk0]; decide) (by rw [hk0]; decide) (by rw [hk0]; rfl) (by decide) ?_
        refine lv_aload_n hx hb dL_law_108 rfl (lv_at hl 1 rfl) ?_
        refine lv_aload_n hx hb dL_law_109 rfl (lv_at hl 0 rfl) ?_
        refine lv_iload_n hx hb dL_law_110 rfl (lv_at hl 3 rfl) ?_
        refine lv_iconst (v := 1) hx hb dL_law_111 (by decide) ?_
        refine lv_iadd hx hb dL_law_112 ?_
        obtain ⟨hin, hf⟩ := ld_at hf
        refine va_sld hx hb hX hbl hbA hS hin dL_law_113 ?_
        refine lv_topi (fun v3 ev3 => ?_)
        have hf := hf v3 ev3
        refine lv_aload_n hx hb dL_law_114 rfl (lv_at hl 0 rfl) ?_
        refine lv_iload_n hx hb dL_law_115 rfl (lv_at hl 3 rfl) ?_
        refine lv_iconst (v := 2) hx hb dL_law_116 (by decide) ?_
        refine lv_iadd hx hb dL_law_117 ?_
        obtain ⟨hin, hf⟩ := ld_at hf
        refine va_sld hx hb hX hbl hbA hS hin dL_law_118 ?_
        refine lv_topi (fun v4 ev4 => ?_)
        have hf := hf v4 ev4
        refine lv_if_eq (tgt := 126) hx hb dL_law_119 (by decide) (fun hc => ?_) (fun hc => ?_)
        · have hf := ite_t hf hc
          refine lv_iconst (v := 0) hx hb dL_law_126 (by decide) ?_
          refine lv_aload_n hx hb dL_law_127 rfl (lv_at hl 0 rfl) ?_
          refine lv_iload_n hx hb dL_law_128 rfl (lv_at hl 3 rfl) ?_
          refine lv_iconst (v := 3) hx hb dL_law_129 (by decide) ?_
          refine lv_iadd hx hb dL_law_130 ?_
          obtain ⟨hin, hf⟩ := ld_at hf
          refine va_sld hx hb hX hbl hbA hS hin dL_law_131 ?_
          refine lv_topi (fun v5 ev5 => ?_)
          have hf := hf v5 ev5
          refine lv_aload_n hx hb dL_law_132 rfl (lv_at hl 0 rfl) ?_
          refine lv_iload_n hx hb dL_law_133 rfl (lv_at hl 3 rfl) ?_
          refine lv_iconst (v := 4) hx hb dL_law_134 (by decide) ?_
          refine lv_iadd hx hb dL_law_135 ?_
          obtain ⟨hin, hf⟩ := ld_at hf
          refine va_sld hx hb hX hbl hbA hS hin dL_law_136 ?_
          refine lv_topi (fun v6 ev6 => ?_)
          have hf := hf v6 ev6
          obtain ⟨v7, σ8, hc, hf⟩ := bd_at hf
          refine lawI (As := [.int v3, .int 0, .int v5, .int v6]) (rest := []) C hA1 (hO2 _) (mX9_open hI hc) ⟨gt1_196, gt1_197, gt1_198, gt1_1, gt1_199⟩ okX9_open ⟨Nat.le_of_ble_eq_true rfl, Nat.le_of_ble_eq_true rfl⟩ (rcvOf C hPc (show (wC ad cI cF _)[0]? = some (ad 0, _) from rfl) rfl) rfl hl.1 rfl (Nat.le_of_ble_eq_true rfl) hPc hPm hS dL_law_137 ⟨Nat.le_refl _, Nat.le_refl _⟩ (fun H locs hPc hPm hS => ?_)
          refine lv_aload_n hx hb dL_law_140 rfl (lv_at hl 2 rfl) ?_
          refine lv_aload_n hx hb dL_law_141 rfl (lv_at hl 0 rfl) ?_
          refine lv_iload_n hx hb dL_law_142 rfl (lv_at hl 3 rfl) ?_
          refine lv_iconst (v := 1) hx hb dL_law_143 (by decide) ?_
          refine lv_iadd hx hb dL_law_144 ?_
          obtain ⟨hin, hf⟩ := ld_at hf
          refine va_sld hx hb hX hbl hbA hS hin dL_law_145 ?_
          refine lv_topi (fun v9 ev9 => ?_)
          have hf := hf v9 ev9
          refine lv_aload_n hx hb dL_law_146 rfl (lv_at hl 0 rfl) ?_
          refine lv_iload_n hx hb dL_law_147 rfl (lv_at hl 3 rfl) ?_
          refine lv_iconst (v := 2) hx hb dL_law_148 (by decide) ?_
          refine lv_iadd hx hb dL_law_149 ?_
          obtain ⟨hin, hf⟩ := ld_at hf
          refine va_sld hx hb hX hbl hbA hS hin dL_law_150 ?_
          refine lv_topi (fun v10 ev10 => ?_)
          have hf := hf v10 ev10
          refine lv_if_eq (tgt := 158) hx hb dL_law_151 (by decide) (fun hc => ?_) (fun hc => ?_)
          · have hf := ite_t hf hc
            refine lv_iconst (v := 0) hx hb dL_law_158 (by decide) ?_
            refine lv_aload_n hx hb dL_law_159 rfl (lv_at hl 0 rfl) ?_
            refine lv_iload_n hx hb dL_law_160 rfl (lv_at hl 3 rfl) ?_
            refine lv_iconst (v := 3) hx hb dL_law_161 (by decide) ?_
            refine lv_iadd hx hb dL_law_162 ?_
            obtain ⟨hin, hf⟩ := ld_at hf
            refine va_sld hx hb hX hbl hbA hS hin dL_law_163 ?_
            refine lv_topi (fun v11 ev11 => ?_)
            have hf := hf v11 ev11
            refine lv_aload_n hx hb dL_law_164 rfl (lv_at hl 0 rfl) ?_
            refine lv_iload_n hx hb dL_law_165 rfl (lv_at hl 3 rfl) ?_
            refine lv_iconst (v := 4) hx hb dL_law_166 (by decide) ?_
            refine lv_iadd hx hb dL_law_167 ?_
            obtain ⟨hin, hf⟩ := ld_at hf
            refine va_sld hx hb hX hbl hbA hS hin dL_law_168 ?_
            refine lv_topi (fun v12 ev12 => ?_)
            have hf := hf v12 ev12
            obtain ⟨v13, μ14, hc, hf⟩ := bd_at hf
            refine lawI (As := [.int v9, .int 0, .int v11, .int v12]) (rest := [.int v7]) C hA2 (hO1 _) (mX10_open hJ hc) ⟨gt4_100, gt4_101, gt4_102, gt1_11, gt4_103⟩ okX10_open ⟨Nat.le_of_ble_eq_true rfl, Nat.le_of_ble_eq_true rfl⟩ (rcvOf C hPm (show (wM ae cI _)[0]? = some (ae 0, _) from rfl) rfl) rfl hl.1 rfl (Nat.le_of_ble_eq_true rfl) hPm hPc hS dL_law_169 ⟨Nat.le_refl _, Nat.le_refl _⟩ (fun H locs hPm hPc hS => ?_)
            refine lv_icmp_eq (tgt := 425) hx hb dL_law_172 (by decide) (fun hc => ?_) (fun hc => ?_)
            · have hf := ite_t hf hc
              obtain ⟨v15, ev15⟩ : ∃ y : Int32, y = x3 + 5 := ⟨_, rfl⟩
              have hf := nm_at hf v15 ev15
              refine lv_iinc (v := v15) (lv' := [(3, .int v15), (0, .ref b), (1, .ref (ad 0)), (2, .ref (ae 0))]) hx hb dL_law_425 hl (k := 3) rfl (by rw [ev15]; rfl) (by decide) rfl (fun ls hl => ?_)
              refine lv_goto (tgt := 18) hx hb dL_law_428 (by decide) ?_
              exact ih v15 σ8 μ14 _ _ _ hPc hPm hS (lv_sub hl [1, 2, 3, 0] rfl) hf
            · have hf := ite_f hf hc
              refine lv_iconst (v := 0) hx hb dL_law_175 (by decide) ?_
              exact nomatch (show (none : Option (Int32 × St)) = some (1, σ0) from hf)
          · have hf := ite_f hf hc
            refine lv_iconst (v := 1) hx hb dL_law_154 (by decide) ?_
            refine lv_goto (tgt := 159) hx hb dL_law_155 (by decide) ?_
            refine lv_aload_n hx hb dL_law_159 rfl (lv_at hl 0 rfl) ?_
            refine lv_iload_n hx hb dL_law_160 rfl (lv_at hl 3 rfl) ?_
            refine lv_iconst (v := 3) hx hb dL_law_161 (by decide) ?_
            refine lv_iadd hx hb dL_law_162 ?_
            obtain ⟨hin, hf⟩ := ld_at hf
            refine va_sld hx hb hX hbl hbA hS hin dL_law_163 ?_
            refine lv_topi (fun v16 ev16 => ?_)
            have hf := hf v16 ev16
            refine lv_aload_n hx hb dL_law_164 rfl (lv_at hl 0 rfl) ?_
            refine lv_iload_n hx hb dL_law_165 rfl (lv_at hl 3 rfl) ?_
            refine lv_iconst (v := 4) hx hb dL_law_166 (by decide) ?_
            refine lv_iadd hx hb dL_law_167 ?_
            obtain ⟨hin, hf⟩ := ld_at hf
            refine va_sld hx hb hX hbl hbA hS hin dL_law_168 ?_
            refine lv_topi (fun v17 ev17 => ?_)
            have hf := hf v17 ev17
            obtain ⟨v18, μ19, hc, hf⟩ := bd_at hf
            refine lawI (As := [.int v9, .int 1, .int v16, .int v17]) (rest := [.int v7]) C hA2 (hO1 _) (mX10_open hJ hc) ⟨gt4_100, gt4_101, gt4_102, gt1_11, gt4_103⟩ okX10_open ⟨Nat.le_of_ble_eq_true rfl, Nat.le_of_ble_eq_true rfl⟩ (rcvOf C hPm (show (wM ae cI _)[0]? = some (ae 0, _) from rfl) rfl) rfl hl.1 rfl (Nat.le_of_ble_eq_true rfl) hPm hPc hS dL_law_169 ⟨Nat.le_refl _, Nat.le_refl _⟩ (fun H locs hPm hPc hS => ?_)
            refine lv_icmp_eq (tgt := 425) hx hb dL_law_172 (by decide) (fun hc => ?_) (fun hc => ?_)
            · have hf := ite_t hf hc
              obtain ⟨v20, ev20⟩ : ∃ y : Int32, y = x3 + 5 := ⟨_, rfl⟩
              have hf := nm_at hf v20 ev20
              refine lv_iinc (v := v20) (lv' := [(3, .int v20), (0, .ref b), (1, .ref (ad 0)), (2, .ref (ae 0))]) hx hb dL_law_425 hl (k := 3) rfl (by rw [ev20]; rfl) (by decide) rfl (fun ls hl => ?_)
              refine lv_goto (tgt := 18) hx hb dL_law_428 (by decide) ?_
              exact ih v20 σ8 μ19 _ _ _ hPc hPm hS (lv_sub hl [1, 2, 3, 0] rfl) hf
            · have hf := ite_f hf hc
              refine lv_iconst (v := 0) hx hb dL_law_175 (by decide) ?_
              exact nomatch (show (none : Option (Int32 × St)) = some (1, σ0) from hf)
        · have hf := ite_f hf hc
          refine lv_iconst (v := 1) hx hb dL_law_122 (by decide) ?_
          refine lv_goto (tgt := 127) hx hb dL_law_123 (by decide) ?_
          refine lv_aload_n hx hb dL_law_127 rfl (lv_at hl 0 rfl) ?_
          refine lv_iload_n hx hb dL_law_128 rfl (lv_at hl 3 rfl) ?_
          refine lv_iconst (v := 3) hx hb dL_law_129 (by decide) ?_
          refine lv_iadd hx hb dL_law_130 ?_
          obtain ⟨hin, hf⟩ := ld_at hf
          refine va_sld hx hb hX hbl hbA hS hin dL_law_131 ?_
          refine lv_topi (fun v21 ev21 => ?_)
          have hf := hf v21 ev21
          refine lv_aload_n hx hb dL_law_132 rfl (lv_at hl 0 rfl) ?_
          refine lv_iload_n hx hb dL_law_133 rfl (lv_at hl 3 rfl) ?_
          refine lv_iconst (v := 4) hx hb dL_law_134 (by decide) ?_
          refine lv_iadd hx hb dL_law_135 ?_
          obtain ⟨hin, hf⟩ := ld_at hf
          refine va_sld hx hb hX hbl hbA hS hin dL_law_136 ?_
          refine lv_topi (fun v22 ev22 => ?_)
          have hf := hf v22 ev22
          obtain ⟨v23, σ24, hc, hf⟩ := bd_at hf
          refine lawI (As := [.int v3, .int 1, .int v21, .int v22]) (rest := []) C hA1 (hO2 _) (mX9_open hI hc) ⟨gt1_196, gt1_197, gt1_198, gt1_1, gt1_199⟩ okX9_open ⟨Nat.le_of_ble_eq_true rfl, Nat.le_of_ble_eq_true rfl⟩ (rcvOf C hPc (show (wC ad cI cF _)[0]? = some (ad 0, _) from rfl) rfl) rfl hl.1 rfl (Nat.le_of_ble_eq_true rfl) hPc hPm hS dL_law_137 ⟨Nat.le_refl _, Nat.le_refl _⟩ (fun H locs hPc hPm hS => ?_)
          refine lv_aload_n hx hb dL_law_140 rfl (lv_at hl 2 rfl) ?_
          refine lv_aload_n hx hb dL_law_141 rfl (lv_at hl 0 rfl) ?_
          refine lv_iload_n hx hb dL_law_142 rfl (lv_at hl 3 rfl) ?_
          refine lv_iconst (v := 1) hx hb dL_law_143 (by decide) ?_
          refine lv_iadd hx hb dL_law_144 ?_
          obtain ⟨hin, hf⟩ := ld_at hf
          refine va_sld hx hb hX hbl hbA hS hin dL_law_145 ?_
          refine lv_topi (fun v25 ev25 => ?_)
          have hf := hf v25 ev25
          refine lv_aload_n hx hb dL_law_146 rfl (lv_at hl 0 rfl) ?_
          refine lv_iload_n hx hb dL_law_147 rfl (lv_at hl 3 rfl) ?_
          refine lv_iconst (v := 2) hx hb dL_law_148 (by decide) ?_
          refine lv_iadd hx hb dL_law_149 ?_
          obtain ⟨hin, hf⟩ := ld_at hf
          refine va_sld hx hb hX hbl hbA hS hin dL_law_150 ?_
          refine lv_topi (fun v26 ev26 => ?_)
          have hf := hf v26 ev26
          refine lv_if_eq (tgt := 158) hx hb dL_law_151 (by decide) (fun hc => ?_) (fun hc => ?_)
          · have hf := ite_t hf hc
            refine lv_iconst (v := 0) hx hb dL_law_158 (by decide) ?_
            refine lv_aload_n hx hb dL_law_159 rfl (lv_at hl 0 rfl) ?_
            refine lv_iload_n hx hb dL_law_160 rfl (lv_at hl 3 rfl) ?_
            refine lv_iconst (v := 3) hx hb dL_law_161 (by decide) ?_
            refine lv_iadd hx hb dL_law_162 ?_
            obtain ⟨hin, hf⟩ := ld_at hf
            refine va_sld hx hb hX hbl hbA hS hin dL_law_163 ?_
            refine lv_topi (fun v27 ev27 => ?_)
            have hf := hf v27 ev27
            refine lv_aload_n hx hb dL_law_164 rfl (lv_at hl 0 rfl) ?_
            refine lv_iload_n hx hb dL_law_165 rfl (lv_at hl 3 rfl) ?_
            refine lv_iconst (v := 4) hx hb dL_law_166 (by decide) ?_
            refine lv_iadd hx hb dL_law_167 ?_
            obtain ⟨hin, hf⟩ := ld_at hf
            refine va_sld hx hb hX hbl hbA hS hin dL_law_168 ?_
            refine lv_topi (fun v28 ev28 => ?_)
            have hf := hf v28 ev28
            obtain ⟨v29, μ30, hc, hf⟩ := bd_at hf
            refine lawI (As := [.int v25, .int 0, .int v27, .int v28]) (rest := [.int v23]) C hA2 (hO1 _) (mX10_open hJ hc) ⟨gt4_100, gt4_101, gt4_102, gt1_11, gt4_103⟩ okX10_open ⟨Nat.le_of_ble_eq_true rfl, Nat.le_of_ble_eq_true rfl⟩ (rcvOf C hPm (show (wM ae cI _)[0]? = some (ae 0, _) from rfl) rfl) rfl hl.1 rfl (Nat.le_of_ble_eq_true rfl) hPm hPc hS dL_law_169 ⟨Nat.le_refl _, Nat.le_refl _⟩ (fun H locs hPm hPc hS => ?_)
            refine lv_icmp_eq (tgt := 425) hx hb dL_law_172 (by decide) (fun hc => ?_) (fun hc => ?_)
            · have hf := ite_t hf hc
              obtain ⟨v31, ev31⟩ : ∃ y : Int32, y = x3 + 5 := ⟨_, rfl⟩
              have hf := nm_at hf v31 ev31
              refine lv_iinc (v := v31) (lv' := [(3, .int v31), (0, .ref b), (1, .ref (ad 0)), (2, .ref (ae 0))]) hx hb dL_law_425 hl (k := 3) rfl (by rw [ev31]; rfl) (by decide) rfl (fun ls hl => ?_)
              refine lv_goto (tgt := 18) hx hb dL_law_428 (by decide) ?_
              exact ih v31 σ24 μ30 _ _ _ hPc hPm hS (lv_sub hl [1, 2, 3, 0] rfl) hf
            · have hf := ite_f hf hc
              refine lv_iconst (v := 0) hx hb dL_law_175 (by decide) ?_
              exact nomatch (show (none : Option (Int32 × St)) = some (1, σ0) from hf)
          · have hf := ite_f hf hc
            refine lv_iconst (v := 1) hx hb dL_law_154 (by decide) ?_
            refine lv_goto (tgt := 159) hx hb dL_law_155 (by decide) ?_
            refine lv_aload_n hx hb dL_law_159 rfl (lv_at hl 0 rfl) ?_
            refine lv_iload_n hx hb dL_law_160 rfl (lv_at hl 3 rfl) ?_
            refine lv_iconst (v := 3) hx hb dL_law_161 (by decide) ?_
            refine lv_iadd hx hb dL_law_162 ?_
            obtain ⟨hin, hf⟩ := ld_at hf
            refine va_sld hx hb hX hbl hbA hS hin dL_law_163 ?_
            refine lv_topi (fun v32 ev32 => ?_)
            have hf := hf v32 ev32
            refine lv_aload_n hx hb dL_law_164 rfl (lv_at hl 0 rfl) ?_
            refine lv_iload_n hx hb dL_law_165 rfl (lv_at hl 3 rfl) ?_
            refine lv_iconst (v := 4) hx hb dL_law_166 (by decide) ?_
            refine lv_iadd hx hb dL_law_167 ?_
            obtain ⟨hin, hf⟩ := ld_at hf
            refine va_sld hx hb hX hbl hbA hS hin dL_law_168 ?_
            refine lv_topi (fun v33 ev33 => ?_)
            have hf := hf v33 ev33
            obtain ⟨v34, μ35, hc, hf⟩ := bd_at hf
            refine lawI (As := [.int v25, .int 1, .int v32, .int v33]) (rest := [.int v23]) C hA2 (hO1 _) (mX10_open hJ hc) ⟨gt4_100, gt4_101, gt4_102, gt1_11, gt4_103⟩ okX10_open ⟨Nat.le_of_ble_eq_true rfl, Nat.le_of_ble_eq_true rfl⟩ (rcvOf C hPm (show (wM ae cI _)[0]? = some (ae 0, _) from rfl) rfl) rfl hl.1 rfl (Nat.le_of_ble_eq_true rfl) hPm hPc hS dL_law_169 ⟨Nat.le_refl _, Nat.le_refl _⟩ (fun H locs hPm hPc hS => ?_)
            refine lv_icmp_eq (tgt := 425) hx hb dL_law_172 (by decide) (fun hc => ?_) (fun hc => ?_)
            · have hf := ite_t hf hc
              obtain ⟨v36, ev36⟩ : ∃ y : Int32, y = x3 + 5 := ⟨_, rfl⟩
              have hf := nm_at hf v36 ev36
              refine lv_iinc (v := v36) (lv' := [(3, .int v36), (0, .ref b), (1, .ref (ad 0)), (2, .ref (ae 0))]) hx hb dL_law_425 hl (k := 3) rfl (by rw [ev36]; rfl) (by decide) rfl (fun ls hl => ?_)
              refine lv_goto (tgt := 18) hx hb dL_law_428 (by decide) ?_
              exact ih v36 σ24 μ35 _ _ _ hPc hPm hS (lv_sub hl [1, 2, 3, 0] rfl) hf
            · have hf := ite_f hf hc
              refine lv_iconst (v := 0) hx hb dL_law_175 (by decide) ?_
              exact nomatch (show (none : Option (Int32 × St)) = some (1, σ0) from hf)
      have hf := ite_f hf hk0
      by_cases hk1 : v2 = 1
      · have hf := ite_t hf hk1
        refine lv_tableIn (tgt := 177) (off := 145) hx hb dL_law_32 (by rw [hk1]; decide) (by rw [hk1]; decide) (by rw [hk1]; rfl) (by decide) ?_
        refine lv_aload_n hx hb dL_law_177 rfl (lv_at hl 1 rfl) ?_
        refine lv_aload_n hx hb dL_law_178 rfl (lv_at hl 0 rfl) ?_
        refine lv_iload_n hx hb dL_law_179 rfl (lv_at hl 3 rfl) ?_
        refine lv_iconst (v := 1) hx hb dL_law_180 (by decide) ?_
        refine lv_iadd hx hb dL_law_181 ?_
        obtain ⟨hin, hf⟩ := ld_at hf
        refine va_sld hx hb hX hbl hbA hS hin dL_law_182 ?_
        refine lv_topi (fun v37 ev37 => ?_)
        have hf := hf v37 ev37
        refine lv_aload_n hx hb dL_law_183 rfl (lv_at hl 0 rfl) ?_
        refine lv_iload_n hx hb dL_law_184 rfl (lv_at hl 3 rfl) ?_
        refine lv_iconst (v := 2) hx hb dL_law_185 (by decide) ?_
        refine lv_iadd hx hb dL_law_186 ?_
        obtain ⟨hin, hf⟩ := ld_at hf
        refine va_sld hx hb hX hbl hbA hS hin dL_law_187 ?_
        refine lv_topi (fun v38 ev38 => ?_)
        have hf := hf v38 ev38
        obtain ⟨v39, σ40, hc, hf⟩ := bd_at hf
        refine lawI (As := [.int v37, .int v38]) (rest := []) C hA1 (hO2 _) (mX9_map hI hc) ⟨gt1_227, gt1_228, gt1_229, gt1_1, gt1_230⟩ okX9_map ⟨Nat.le_of_ble_eq_true rfl, Nat.le_of_ble_eq_true rfl⟩ (rcvOf C hPc (show (wC ad cI cF _)[0]? = some (ad 0, _) from rfl) rfl) rfl hl.1 rfl (Nat.le_of_ble_eq_true rfl) hPc hPm hS dL_law_188 ⟨Nat.le_refl _, Nat.le_refl _⟩ (fun H locs hPc hPm hS => ?_)
        refine lv_aload_n hx hb dL_law_191 rfl (lv_at hl 2 rfl) ?_
        refine lv_aload_n hx hb dL_law_192 rfl (lv_at hl 0 rfl) ?_
        refine lv_iload_n hx hb dL_law_193 rfl (lv_at hl 3 rfl) ?_
        refine lv_iconst (v := 1) hx hb dL_law_194 (by decide) ?_
        refine lv_iadd hx hb dL_law_195 ?_
        obtain ⟨hin, hf⟩ := ld_at hf
        refine va_sld hx hb hX hbl hbA hS hin dL_law_196 ?_
        refine lv_topi (fun v41 ev41 => ?_)
        have hf := hf v41 ev41
        refine lv_aload_n hx hb dL_law_197 rfl (lv_at hl 0 rfl) ?_
        refine lv_iload_n hx hb dL_law_198 rfl (lv_at hl 3 rfl) ?_
        refine lv_iconst (v := 2) hx hb dL_law_199 (by decide) ?_
        refine lv_iadd hx hb dL_law_200 ?_
        obtain ⟨hin, hf⟩ := ld_at hf
        refine va_sld hx hb hX hbl hbA hS hin dL_law_201 ?_
        refine lv_topi (fun v42 ev42 => ?_)
        have hf := hf v42 ev42
        obtain ⟨v43, μ44, hc, hf⟩ := bd_at hf
        refine lawI (As := [.int v41, .int v42]) (rest := [.int v39]) C hA2 (hO1 _) (mX10_map hJ hc) ⟨gt4_108, gt4_109, gt4_110, gt1_11, gt4_111⟩ okX10_map ⟨Nat.le_of_ble_eq_true rfl, Nat.le_of_ble_eq_true rfl⟩ (rcvOf C hPm (show (wM ae cI _)[0]? = some (ae 0, _) from rfl) rfl) rfl hl.1 rfl (Nat.le_of_ble_eq_true rfl) hPm hPc hS dL_law_202 ⟨Nat.le_refl _, Nat.le_refl _⟩ (fun H locs hPm hPc hS => ?_)
        refine lv_icmp_eq (tgt := 425) hx hb dL_law_205 (by decide) (fun hc => ?_) (fun hc => ?_)
        · have hf := ite_t hf hc
          obtain ⟨v45, ev45⟩ : ∃ y : Int32, y = x3 + 5 := ⟨_, rfl⟩
          have hf := nm_at hf v45 ev45
          refine lv_iinc (v := v45) (lv' := [(3, .int v45), (0, .ref b), (1, .ref (ad 0)), (2, .ref (ae 0))]) hx hb dL_law_425 hl (k := 3) rfl (by rw [ev45]; rfl) (by decide) rfl (fun ls hl => ?_)
          refine lv_goto (tgt := 18) hx hb dL_law_428 (by decide) ?_
          exact ih v45 σ40 μ44 _ _ _ hPc hPm hS (lv_sub hl [1, 2, 3, 0] rfl) hf
        · have hf := ite_f hf hc
          refine lv_iconst (v := 0) hx hb dL_law_208 (by decide) ?_
          exact nomatch (show (none : Option (Int32 × St)) = some (1, σ0) from hf)
      have hf := ite_f hf hk1
      by_cases hk2 : v2 = 2
      · have hf := ite_t hf hk2
        refine lv_tableIn (tgt := 210) (off := 178) hx hb dL_law_32 (by rw [hk2]; decide) (by rw [hk2]; decide) (by rw [hk2]; rfl) (by decide) ?_
        refine lv_aload_n hx hb dL_law_210 rfl (lv_at hl 1 rfl) ?_
        refine lv_aload_n hx hb dL_law_211 rfl (lv_at hl 0 rfl) ?_
        refine lv_iload_n hx hb dL_law_212 rfl (lv_at hl 3 rfl) ?_
        refine lv_iconst (v := 1) hx hb dL_law_213 (by decide) ?_
        refine lv_iadd hx hb dL_law_214 ?_
        obtain ⟨hin, hf⟩ := ld_at hf
        refine va_sld hx hb hX hbl hbA hS hin dL_law_215 ?_
        refine lv_topi (fun v46 ev46 => ?_)
        have hf := hf v46 ev46
        obtain ⟨v47, σ48, hc, hf⟩ := bd_at hf
        refine lawI (As := [.int v46]) (rest := []) C hA1 (hO2 _) (mX9_give hI hc) ⟨gt1_236, gt1_237, gt1_238, gt1_1, gt1_239⟩ okX9_give ⟨Nat.le_of_ble_eq_true rfl, Nat.le_of_ble_eq_true rfl⟩ (rcvOf C hPc (show (wC ad cI cF _)[0]? = some (ad 0, _) from rfl) rfl) rfl hl.1 rfl (Nat.le_of_ble_eq_true rfl) hPc hPm hS dL_law_216 ⟨Nat.le_refl _, Nat.le_refl _⟩ (fun H locs hPc hPm hS => ?_)
        refine lv_aload_n hx hb dL_law_219 rfl (lv_at hl 2 rfl) ?_
        refine lv_aload_n hx hb dL_law_220 rfl (lv_at hl 0 rfl) ?_
        refine lv_iload_n hx hb dL_law_221 rfl (lv_at hl 3 rfl) ?_
        refine lv_iconst (v := 1) hx hb dL_law_222 (by decide) ?_
        refine lv_iadd hx hb dL_law_223 ?_
        obtain ⟨hin, hf⟩ := ld_at hf
        refine va_sld hx hb hX hbl hbA hS hin dL_law_224 ?_
        refine lv_topi (fun v49 ev49 => ?_)
        have hf := hf v49 ev49
        obtain ⟨v50, μ51, hc, hf⟩ := bd_at hf
        refine lawI (As := [.int v49]) (rest := [.int v47]) C hA2 (hO1 _) (mX10_give hJ hc) ⟨gt4_113, gt4_114, gt4_115, gt1_11, gt4_116⟩ okX10_give ⟨Nat.le_of_ble_eq_true rfl, Nat.le_of_ble_eq_true rfl⟩ (rcvOf C hPm (show (wM ae cI _)[0]? = some (ae 0, _) from rfl) rfl) rfl hl.1 rfl (Nat.le_of_ble_eq_true rfl) hPm hPc hS dL_law_225 ⟨Nat.le_refl _, Nat.le_refl _⟩ (fun H locs hPm hPc hS => ?_)
        refine lv_icmp_eq (tgt := 425) hx hb dL_law_228 (by decide) (fun hc => ?_) (fun hc => ?_)
        · have hf := ite_t hf hc
          obtain ⟨v52, ev52⟩ : ∃ y : Int32, y = x3 + 5 := ⟨_, rfl⟩
          have hf := nm_at hf v52 ev52
          refine lv_iinc (v := v52) (lv' := [(3, .int v52), (0, .ref b), (1, .ref (ad 0)), (2, .ref (ae 0))]) hx hb dL_law_425 hl (k := 3) rfl (by rw [ev52]; rfl) (by decide) rfl (fun ls hl => ?_)
          refine lv_goto (tgt := 18) hx hb dL_law_428 (by decide) ?_
          exact ih v52 σ48 μ51 _ _ _ hPc hPm hS (lv_sub hl [1, 2, 3, 0] rfl) hf
        · have hf := ite_f hf hc
          refine lv_iconst (v := 0) hx hb dL_law_231 (by decide) ?_
          exact nomatch (show (none : Option (Int32 × St)) = some (1, σ0) from hf)
      have hf := ite_f hf hk2
      by_cases hk3 : v2 = 3
      · have hf := ite_t hf hk3
        refine lv_tableIn (tgt := 233) (off := 201) hx hb dL_law_32 (by rw [hk3]; decide) (by rw [hk3]; decide) (by rw [hk3]; rfl) (by decide) ?_
        refine lv_aload_n hx hb dL_law_233 rfl (lv_at hl 1 rfl) ?_
        refine lv_aload_n hx hb dL_law_234 rfl (lv_at hl 0 rfl) ?_
        refine lv_iload_n hx hb dL_law_235 rfl (lv_at hl 3 rfl) ?_
        refine lv_iconst (v := 1) hx hb dL_law_236 (by decide) ?_
        refine lv_iadd hx hb dL_law_237 ?_
        obtain ⟨hin, hf⟩ := ld_at hf
        refine va_sld hx hb hX hbl hbA hS hin dL_law_238 ?_
        refine lv_topi (fun v53 ev53 => ?_)
        have hf := hf v53 ev53
        obtain ⟨v54, σ55, hc, hf⟩ := bd_at hf
        refine lawI (As := [.int v53]) (rest := []) C hA1 (hO2 _) (mX9_room hI hc) ⟨gt2_8, gt2_9, gt2_10, gt1_1, gt2_11⟩ okX9_room ⟨Nat.le_of_ble_eq_true rfl, Nat.le_of_ble_eq_true rfl⟩ (rcvOf C hPc (show (wC ad cI cF _)[0]? = some (ad 0, _) from rfl) rfl) rfl hl.1 rfl (Nat.le_of_ble_eq_true rfl) hPc hPm hS dL_law_239 ⟨Nat.le_refl _, Nat.le_refl _⟩ (fun H locs hPc hPm hS => ?_)
        refine lv_aload_n hx hb dL_law_242 rfl (lv_at hl 2 rfl) ?_
        refine lv_aload_n hx hb dL_law_243 rfl (lv_at hl 0 rfl) ?_
        refine lv_iload_n hx hb dL_law_244 rfl (lv_at hl 3 rfl) ?_
        refine lv_iconst (v := 1) hx hb dL_law_245 (by decide) ?_
        refine lv_iadd hx hb dL_law_246 ?_
        obtain ⟨hin, hf⟩ := ld_at hf
        refine va_sld hx hb hX hbl hbA hS hin dL_law_247 ?_
        refine lv_topi (fun v56 ev56 => ?_)
        have hf := hf v56 ev56
        obtain ⟨v57, μ58, hc, hf⟩ := bd_at hf
        refine lawI (As := [.int v56]) (rest := [.int v54]) C hA2 (hO1 _) (mX10_room hJ hc) ⟨gt4_117, gt4_118, gt4_119, gt1_11, gt4_120⟩ okX10_room ⟨Nat.le_of_ble_eq_true rfl, Nat.le_of_ble_eq_true rfl⟩ (rcvOf C hPm (show (wM ae cI _)[0]? = some (ae 0, _) from rfl) rfl) rfl hl.1 rfl (Nat.le_of_ble_eq_true rfl) hPm hPc hS dL_law_248 ⟨Nat.le_refl _, Nat.le_refl _⟩ (fun H locs hPm hPc hS => ?_)
        refine lv_icmp_eq (tgt := 425) hx hb dL_law_251 (by decide) (fun hc => ?_) (fun hc => ?_)
        · have hf := ite_t hf hc
          obtain ⟨v59, ev59⟩ : ∃ y : Int32, y = x3 + 5 := ⟨_, rfl⟩
          have hf := nm_at hf v59 ev59
          refine lv_iinc (v := v59) (lv' := [(3, .int v59), (0, .ref b), (1, .ref (ad 0)), (2, .ref (ae 0))]) hx hb dL_law_425 hl (k := 3) rfl (by rw [ev59]; rfl) (by decide) rfl (fun ls hl => ?_)
          refine lv_goto (tgt := 18) hx hb dL_law_428 (by decide) ?_
          exact ih v59 σ55 μ58 _ _ _ hPc hPm hS (lv_sub hl [1, 2, 3, 0] rfl) hf
        · have hf := ite_f hf hc
          refine lv_iconst (v := 0) hx hb dL_law_254 (by decide) ?_
          exact nomatch (show (none : Option (Int32 × St)) = some (1, σ0) from hf)
      have hf := ite_f hf hk3
      by_cases hk4 : v2 = 4
      · have hf := ite_t hf hk4
        refine lv_tableIn (tgt := 256) (off := 224) hx hb dL_law_32 (by rw [hk4]; decide) (by rw [hk4]; decide) (by rw [hk4]; rfl) (by decide) ?_
        refine lv_aload_n hx hb dL_law_256 rfl (lv_at hl 1 rfl) ?_
        refine lv_aload_n hx hb dL_law_257 rfl (lv_at hl 0 rfl) ?_
        refine lv_iload_n hx hb dL_law_258 rfl (lv_at hl 3 rfl) ?_
        refine lv_iconst (v := 1) hx hb dL_law_259 (by decide) ?_
        refine lv_iadd hx hb dL_law_260 ?_
        obtain ⟨hin, hf⟩ := ld_at hf
        refine va_sld hx hb hX hbl hbA hS hin dL_law_261 ?_
        refine lv_topi (fun v60 ev60 => ?_)
        have hf := hf v60 ev60
        refine lv_if_eq (tgt := 269) hx hb dL_law_262 (by decide) (fun hc => ?_) (fun hc => ?_)
        · have hf := ite_t hf hc
          refine lv_iconst (v := 0) hx hb dL_law_269 (by decide) ?_
          obtain ⟨v61, σ62, hc, hf⟩ := bd_at hf
          refine lawI (As := [.int 0]) (rest := []) C hA1 (hO2 _) (mX9_code hI hc) ⟨gt2_12, gt2_13, gt2_14, gt1_1, gt2_15⟩ okX9_code ⟨Nat.le_of_ble_eq_true rfl, Nat.le_of_ble_eq_true rfl⟩ (rcvOf C hPc (show (wC ad cI cF _)[0]? = some (ad 0, _) from rfl) rfl) rfl hl.1 rfl (Nat.le_of_ble_eq_true rfl) hPc hPm hS dL_law_270 ⟨Nat.le_refl _, Nat.le_refl _⟩ (fun H locs hPc hPm hS => ?_)
          refine lv_aload_n hx hb dL_law_273 rfl (lv_at hl 2 rfl) ?_
          refine lv_aload_n hx hb dL_law_274 rfl (lv_at hl 0 rfl) ?_
          refine lv_iload_n hx hb dL_law_275 rfl (lv_at hl 3 rfl) ?_
          refine lv_iconst (v := 1) hx hb dL_law_276 (by decide) ?_
          refine lv_iadd hx hb dL_law_277 ?_
          obtain ⟨hin, hf⟩ := ld_at hf
          refine va_sld hx hb hX hbl hbA hS hin dL_law_278 ?_
          refine lv_topi (fun v63 ev63 => ?_)
          have hf := hf v63 ev63
          refine lv_if_eq (tgt := 286) hx hb dL_law_279 (by decide) (fun hc => ?_) (fun hc => ?_)
          · have hf := ite_t hf hc
            refine lv_iconst (v := 0) hx hb dL_law_286 (by decide) ?_
            obtain ⟨v64, μ65, hc, hf⟩ := bd_at hf
            refine lawI (As := [.int 0]) (rest := [.int v61]) C hA2 (hO1 _) (mX10_code hJ hc) ⟨gt4_165, gt4_166, gt4_167, gt1_11, gt4_168⟩ okX10_code ⟨Nat.le_of_ble_eq_true rfl, Nat.le_of_ble_eq_true rfl⟩ (rcvOf C hPm (show (wM ae cI _)[0]? = some (ae 0, _) from rfl) rfl) rfl hl.1 rfl (Nat.le_of_ble_eq_true rfl) hPm hPc hS dL_law_287 ⟨Nat.le_refl _, Nat.le_refl _⟩ (fun H locs hPm hPc hS => ?_)
            refine lv_icmp_eq (tgt := 425) hx hb dL_law_290 (by decide) (fun hc => ?_) (fun hc => ?_)
            · have hf := ite_t hf hc
              obtain ⟨v66, ev66⟩ : ∃ y : Int32, y = x3 + 5 := ⟨_, rfl⟩
              have hf := nm_at hf v66 ev66
              refine lv_iinc (v := v66) (lv' := [(3, .int v66), (0, .ref b), (1, .ref (ad 0)), (2, .ref (ae 0))]) hx hb dL_law_425 hl (k := 3) rfl (by rw [ev66]; rfl) (by decide) rfl (fun ls hl => ?_)
              refine lv_goto (tgt := 18) hx hb dL_law_428 (by decide) ?_
              exact ih v66 σ62 μ65 _ _ _ hPc hPm hS (lv_sub hl [1, 2, 3, 0] rfl) hf
            · have hf := ite_f hf hc
              refine lv_iconst (v := 0) hx hb dL_law_293 (by decide) ?_
              exact nomatch (show (none : Option (Int32 × St)) = some (1, σ0) from hf)
          · have hf := ite_f hf hc
            refine lv_iconst (v := 1) hx hb dL_law_282 (by decide) ?_
            refine lv_goto (tgt := 287) hx hb dL_law_283 (by decide) ?_
            obtain ⟨v67, μ68, hc, hf⟩ := bd_at hf
            refine lawI (As := [.int 1]) (rest := [.int v61]) C hA2 (hO1 _) (mX10_code hJ hc) ⟨gt4_165, gt4_166, gt4_167, gt1_11, gt4_168⟩ okX10_code ⟨Nat.le_of_ble_eq_true rfl, Nat.le_of_ble_eq_true rfl⟩ (rcvOf C hPm (show (wM ae cI _)[0]? = some (ae 0, _) from rfl) rfl) rfl hl.1 rfl (Nat.le_of_ble_eq_true rfl) hPm hPc hS dL_law_287 ⟨Nat.le_refl _, Nat.le_refl _⟩ (fun H locs hPm hPc hS => ?_)
            refine lv_icmp_eq (tgt := 425) hx hb dL_law_290 (by decide) (fun hc => ?_) (fun hc => ?_)
            · have hf := ite_t hf hc
              obtain ⟨v69, ev69⟩ : ∃ y : Int32, y = x3 + 5 := ⟨_, rfl⟩
              have hf := nm_at hf v69 ev69
              refine lv_iinc (v := v69) (lv' := [(3, .int v69), (0, .ref b), (1, .ref (ad 0)), (2, .ref (ae 0))]) hx hb dL_law_425 hl (k := 3) rfl (by rw [ev69]; rfl) (by decide) rfl (fun ls hl => ?_)
              refine lv_goto (tgt := 18) hx hb dL_law_428 (by decide) ?_
              exact ih v69 σ62 μ68 _ _ _ hPc hPm hS (lv_sub hl [1, 2, 3, 0] rfl) hf
            · have hf := ite_f hf hc
              refine lv_iconst (v := 0) hx hb dL_law_293 (by decide) ?_
              exact nomatch (show (none : Option (Int32 × St)) = some (1, σ0) from hf)
        · have hf := ite_f hf hc
          refine lv_iconst (v := 1) hx hb dL_law_265 (by decide) ?_
          refine lv_goto (tgt := 270) hx hb dL_law_266 (by decide) ?_
          obtain ⟨v70, σ71, hc, hf⟩ := bd_at hf
          refine lawI (As := [.int 1]) (rest := []) C hA1 (hO2 _) (mX9_code hI hc) ⟨gt2_12, gt2_13, gt2_14, gt1_1, gt2_15⟩ okX9_code ⟨Nat.le_of_ble_eq_true rfl, Nat.le_of_ble_eq_true rfl⟩ (rcvOf C hPc (show (wC ad cI cF _)[0]? = some (ad 0, _) from rfl) rfl) rfl hl.1 rfl (Nat.le_of_ble_eq_true rfl) hPc hPm hS dL_law_270 ⟨Nat.le_refl _, Nat.le_refl _⟩ (fun H locs hPc hPm hS => ?_)
          refine lv_aload_n hx hb dL_law_273 rfl (lv_at hl 2 rfl) ?_
          refine lv_aload_n hx hb dL_law_274 rfl (lv_at hl 0 rfl) ?_
          refine lv_iload_n hx hb dL_law_275 rfl (lv_at hl 3 rfl) ?_
          refine lv_iconst (v := 1) hx hb dL_law_276 (by decide) ?_
          refine lv_iadd hx hb dL_law_277 ?_
          obtain ⟨hin, hf⟩ := ld_at hf
          refine va_sld hx hb hX hbl hbA hS hin dL_law_278 ?_
          refine lv_topi (fun v72 ev72 => ?_)
          have hf := hf v72 ev72
          refine lv_if_eq (tgt := 286) hx hb dL_law_279 (by decide) (fun hc => ?_) (fun hc => ?_)
          · have hf := ite_t hf hc
            refine lv_iconst (v := 0) hx hb dL_law_286 (by decide) ?_
            obtain ⟨v73, μ74, hc, hf⟩ := bd_at hf
            refine lawI (As := [.int 0]) (rest := [.int v70]) C hA2 (hO1 _) (mX10_code hJ hc) ⟨gt4_165, gt4_166, gt4_167, gt1_11, gt4_168⟩ okX10_code ⟨Nat.le_of_ble_eq_true rfl, Nat.le_of_ble_eq_true rfl⟩ (rcvOf C hPm (show (wM ae cI _)[0]? = some (ae 0, _) from rfl) rfl) rfl hl.1 rfl (Nat.le_of_ble_eq_true rfl) hPm hPc hS dL_law_287 ⟨Nat.le_refl _, Nat.le_refl _⟩ (fun H locs hPm hPc hS => ?_)
            refine lv_icmp_eq (tgt := 425) hx hb dL_law_290 (by decide) (fun hc => ?_) (fun hc => ?_)
            · have hf := ite_t hf hc
              obtain ⟨v75, ev75⟩ : ∃ y : Int32, y = x3 + 5 := ⟨_, rfl⟩
              have hf := nm_at hf v75 ev75
              refine lv_iinc (v := v75) (lv' := [(3, .int v75), (0, .ref b), (1, .ref (ad 0)), (2, .ref (ae 0))]) hx hb dL_law_425 hl (k := 3) rfl (by rw [ev75]; rfl) (by decide) rfl (fun ls hl => ?_)
              refine lv_goto (tgt := 18) hx hb dL_law_428 (by decide) ?_
              exact ih v75 σ71 μ74 _ _ _ hPc hPm hS (lv_sub hl [1, 2, 3, 0] rfl) hf
            · have hf := ite_f hf hc
              refine lv_iconst (v := 0) hx hb dL_law_293 (by decide) ?_
              exact nomatch (show (none : Option (Int32 × St)) = some (1, σ0) from hf)
          · have hf := ite_f hf hc
            refine lv_iconst (v := 1) hx hb dL_law_282 (by decide) ?_
            refine lv_goto (tgt := 287) hx hb dL_law_283 (by decide) ?_
            obtain ⟨v76, μ77, hc, hf⟩ := bd_at hf
            refine lawI (As := [.int 1]) (rest := [.int v70]) C hA2 (hO1 _) (mX10_code hJ hc) ⟨gt4_165, gt4_166, gt4_167, gt1_11, gt4_168⟩ okX10_code ⟨Nat.le_of_ble_eq_true rfl, Nat.le_of_ble_eq_true rfl⟩ (rcvOf C hPm (show (wM ae cI _)[0]? = some (ae 0, _) from rfl) rfl) rfl hl.1 rfl (Nat.le_of_ble_eq_true rfl) hPm hPc hS dL_law_287 ⟨Nat.le_refl _, Nat.le_refl _⟩ (fun H locs hPm hPc hS => ?_)
            refine lv_icmp_eq (tgt := 425) hx hb dL_law_290 (by decide) (fun hc => ?_) (fun hc => ?_)
            · have hf := ite_t hf hc
              obtain ⟨v78, ev78⟩ : ∃ y : Int32, y = x3 + 5 := ⟨_, rfl⟩
              have hf := nm_at hf v78 ev78
              refine lv_iinc (v := v78) (lv' := [(3, .int v78), (0, .ref b), (1, .ref (ad 0)), (2, .ref (ae 0))]) hx hb dL_law_425 hl (k := 3) rfl (by rw [ev78]; rfl) (by decide) rfl (fun ls hl => ?_)
              refine lv_goto (tgt := 18) hx hb dL_law_428 (by decide) ?_
              exact ih v78 σ71 μ77 _ _ _ hPc hPm hS (lv_sub hl [1, 2, 3, 0] rfl) hf
            · have hf := ite_f hf hc
              refine lv_iconst (v := 0) hx hb dL_law_293 (by decide) ?_
              exact nomatch (show (none : Option (Int32 × St)) = some (1, σ0) from hf)
      have hf := ite_f hf hk4
      by_cases hk5 : v2 = 5
      · have hf := ite_t hf hk5
        refine lv_tableIn (tgt := 295) (off := 263) hx hb dL_law_32 (by rw [hk5]; decide) (by rw [hk5]; decide) (by rw [hk5]; rfl) (by decide) ?_
        refine lv_aload_n hx hb dL_law_295 rfl (lv_at hl 1 rfl) ?_
        obtain ⟨v79, σ80, hc, hf⟩ := bd_at hf
        refine lawI (As := []) (rest := []) C hA1 (hO2 _) (mX9_flush hI hc) ⟨gt3_186, gt3_187, gt3_188, gt1_1, gt3_189⟩ okX9_flush ⟨Nat.le_of_ble_eq_true rfl, Nat.le_of_ble_eq_true rfl⟩ (rcvOf C hPc (show (wC ad cI cF _)[0]? = some (ad 0, _) from rfl) rfl) rfl hl.1 rfl (Nat.le_of_ble_eq_true rfl) hPc hPm hS dL_law_296 ⟨Nat.le_refl _, Nat.le_refl _⟩ (fun H locs hPc hPm hS => ?_)
        refine lv_aload_n hx hb dL_law_299 rfl (lv_at hl 2 rfl) ?_
        obtain ⟨v81, μ82, hc, hf⟩ := bd_at hf
        refine lawI (As := []) (rest := [.int v79]) C hA2 (hO1 _) (mX10_flush hJ hc) ⟨gt5_50, gt5_51, gt5_52, gt1_11, gt5_53⟩ okX10_flush ⟨Nat.le_of_ble_eq_true rfl, Nat.le_of_ble_eq_true rfl⟩ (rcvOf C hPm (show (wM ae cI _)[0]? = some (ae 0, _) from rfl) rfl) rfl hl.1 rfl (Nat.le_of_ble_eq_true rfl) hPm hPc hS dL_law_300 ⟨Nat.le_refl _, Nat.le_refl _⟩ (fun H locs hPm hPc hS => ?_)
        refine lv_icmp_eq (tgt := 425) hx hb dL_law_303 (by decide) (fun hc => ?_) (fun hc => ?_)
        · have hf := ite_t hf hc
          obtain ⟨v83, ev83⟩ : ∃ y : Int32, y = x3 + 5 := ⟨_, rfl⟩
          have hf := nm_at hf v83 ev83
          refine lv_iinc (v := v83) (lv' := [(3, .int v83), (0, .ref b), (1, .ref (ad 0)), (2, .ref (ae 0))]) hx hb dL_law_425 hl (k := 3) rfl (by rw [ev83]; rfl) (by decide) rfl (fun ls hl => ?_)
          refine lv_goto (tgt := 18) hx hb dL_law_428 (by decide) ?_
          exact ih v83 σ80 μ82 _ _ _ hPc hPm hS (lv_sub hl [1, 2, 3, 0] rfl) hf
        · have hf := ite_f hf hc
          refine lv_iconst (v := 0) hx hb dL_law_306 (by decide) ?_
          exact nomatch (show (none : Option (Int32 × St)) = some (1, σ0) from hf)
      have hf := ite_f hf hk5
      by_cases hk6 : v2 = 6
      · have hf := ite_t hf hk6
        refine lv_tableIn (tgt := 308) (off := 276) hx hb dL_law_32 (by rw [hk6]; decide) (by rw [hk6]; decide) (by rw [hk6]; rfl) (by decide) ?_
        refine lv_aload_n hx hb dL_law_308 rfl (lv_at hl 1 rfl) ?_
        obtain ⟨v84, σ85, hc, hf⟩ := bd_at hf
        refine lawI (As := []) (rest := []) C hA1 (hO2 _) (mX9_reset hI hc) ⟨gt3_200, gt3_201, gt3_202, gt1_1, gt3_203⟩ okX9_reset ⟨Nat.le_of_ble_eq_true rfl, Nat.le_of_ble_eq_true rfl⟩ (rcvOf C hPc (show (wC ad cI cF _)[0]? = some (ad 0, _) from rfl) rfl) rfl hl.1 rfl (Nat.le_of_ble_eq_true rfl) hPc hPm hS dL_law_309 ⟨Nat.le_refl _, Nat.le_refl _⟩ (fun H locs hPc hPm hS => ?_)
        refine lv_aload_n hx hb dL_law_312 rfl (lv_at hl 2 rfl) ?_
        obtain ⟨v86, μ87, hc, hf⟩ := bd_at hf
        refine lawI (As := []) (rest := [.int v84]) C hA2 (hO1 _) (mX10_reset hJ hc) ⟨gt4_121, gt4_122, gt4_123, gt1_11, gt4_124⟩ okX10_reset ⟨Nat.le_of_ble_eq_true rfl, Nat.le_of_ble_eq_true rfl⟩ (rcvOf C hPm (show (wM ae cI _)[0]? = some (ae 0, _) from rfl) rfl) rfl hl.1 rfl (Nat.le_of_ble_eq_true rfl) hPm hPc hS dL_law_313 ⟨Nat.le_refl _, Nat.le_refl _⟩ (fun H locs hPm hPc hS => ?_)
        refine lv_icmp_eq (tgt := 425) hx hb dL_law_316 (by decide) (fun hc => ?_) (fun hc => ?_)
        · have hf := ite_t hf hc
          obtain ⟨v88, ev88⟩ : ∃ y : Int32, y = x3 + 5 := ⟨_, rfl⟩
          have hf := nm_at hf v88 ev88
          refine lv_iinc (v := v88) (lv' := [(3, .int v88), (0, .ref b), (1, .ref (ad 0)), (2, .ref (ae 0))]) hx hb dL_law_425 hl (k := 3) rfl (by rw [ev88]; rfl) (by decide) rfl (fun ls hl => ?_)
          refine lv_goto (tgt := 18) hx hb dL_law_428 (by decide) ?_
          exact ih v88 σ85 μ87 _ _ _ hPc hPm hS (lv_sub hl [1, 2, 3, 0] rfl) hf
        · have hf := ite_f hf hc
          refine lv_iconst (v := 0) hx hb dL_law_319 (by decide) ?_
          exact nomatch (show (none : Option (Int32 × St)) = some (1, σ0) from hf)
      have hf := ite_f hf hk6
      by_cases hk7 : v2 = 7
      · have hf := ite_t hf hk7
        refine lv_tableIn (tgt := 321) (off := 289) hx hb dL_law_32 (by rw [hk7]; decide) (by rw [hk7]; decide) (by rw [hk7]; rfl) (by decide) ?_
        refine lv_aload_n hx hb dL_law_321 rfl (lv_at hl 1 rfl) ?_
        obtain ⟨v89, σ90, hc, hf⟩ := bd_at hf
        refine lawI (As := []) (rest := []) C hA1 (hO2 _) (mX9_pass hI hc) ⟨gt3_204, gt3_205, gt3_206, gt1_1, gt3_207⟩ okX9_pass ⟨Nat.le_of_ble_eq_true rfl, Nat.le_of_ble_eq_true rfl⟩ (rcvOf C hPc (show (wC ad cI cF _)[0]? = some (ad 0, _) from rfl) rfl) rfl hl.1 rfl (Nat.le_of_ble_eq_true rfl) hPc hPm hS dL_law_322 ⟨Nat.le_refl _, Nat.le_refl _⟩ (fun H locs hPc hPm hS => ?_)
        refine lv_aload_n hx hb dL_law_325 rfl (lv_at hl 2 rfl) ?_
        obtain ⟨v91, μ92, hc, hf⟩ := bd_at hf
        refine lawI (As := []) (rest := [.int v89]) C hA2 (hO1 _) (mX10_pass hJ hc) ⟨gt4_153, gt4_154, gt4_155, gt1_11, gt4_156⟩ okX10_pass ⟨Nat.le_of_ble_eq_true rfl, Nat.le_of_ble_eq_true rfl⟩ (rcvOf C hPm (show (wM ae cI _)[0]? = some (ae 0, _) from rfl) rfl) rfl hl.1 rfl (Nat.le_of_ble_eq_true rfl) hPm hPc hS dL_law_326 ⟨Nat.le_refl _, Nat.le_refl _⟩ (fun H locs hPm hPc hS => ?_)
        refine lv_icmp_eq (tgt := 425) hx hb dL_law_329 (by decide) (fun hc => ?_) (fun hc => ?_)
        · have hf := ite_t hf hc
          obtain ⟨v93, ev93⟩ : ∃ y : Int32, y = x3 + 5 := ⟨_, rfl⟩
          have hf := nm_at hf v93 ev93
          refine lv_iinc (v := v93) (lv' := [(3, .int v93), (0, .ref b), (1, .ref (ad 0)), (2, .ref (ae 0))]) hx hb dL_law_425 hl (k := 3) rfl (by rw [ev93]; rfl) (by decide) rfl (fun ls hl => ?_)
          refine lv_goto (tgt := 18) hx hb dL_law_428 (by decide) ?_
          exact ih v93 σ90 μ92 _ _ _ hPc hPm hS (lv_sub hl [1, 2, 3, 0] rfl) hf
        · have hf := ite_f hf hc
          refine lv_iconst (v := 0) hx hb dL_law_332 (by decide) ?_
          exact nomatch (show (none : Option (Int32 × St)) = some (1, σ0) from hf)
      have hf := ite_f hf hk7
      by_cases hk8 : v2 = 8
      · have hf := ite_t hf hk8
        refine lv_tableIn (tgt := 334) (off := 302) hx hb dL_law_32 (by rw [hk8]; decide) (by rw [hk8]; decide) (by rw [hk8]; rfl) (by decide) ?_
        refine lv_aload_n hx hb dL_law_334 rfl (lv_at hl 1 rfl) ?_
        obtain ⟨v94, σ95, hc, hf⟩ := bd_at hf
        refine lawI (As := []) (rest := []) C hA1 (hO2 _) (mX9_fetch hI hc) ⟨gt3_208, gt3_209, gt3_210, gt1_1, gt3_211⟩ okX9_fetch ⟨Nat.le_of_ble_eq_true rfl, Nat.le_of_ble_eq_true rfl⟩ (rcvOf C hPc (show (wC ad cI cF _)[0]? = some (ad 0, _) from rfl) rfl) rfl hl.1 rfl (Nat.le_of_ble_eq_true rfl) hPc hPm hS dL_law_335 ⟨Nat.le_refl _, Nat.le_refl _⟩ (fun H locs hPc hPm hS => ?_)
        refine lv_aload_n hx hb dL_law_338 rfl (lv_at hl 2 rfl) ?_
        obtain ⟨v96, μ97, hc, hf⟩ := bd_at hf
        refine lawI (As := []) (rest := [.int v94]) C hA2 (hO1 _) (mX10_fetch hJ hc) ⟨gt4_125, gt4_126, gt4_127, gt1_11, gt4_128⟩ okX10_fetch ⟨Nat.le_of_ble_eq_true rfl, Nat.le_of_ble_eq_true rfl⟩ (rcvOf C hPm (show (wM ae cI _)[0]? = some (ae 0, _) from rfl) rfl) rfl hl.1 rfl (Nat.le_of_ble_eq_true rfl) hPm hPc hS dL_law_339 ⟨Nat.le_refl _, Nat.le_refl _⟩ (fun H locs hPm hPc hS => ?_)
        refine lv_icmp_eq (tgt := 425) hx hb dL_law_342 (by decide) (fun hc => ?_) (fun hc => ?_)
        · have hf := ite_t hf hc
          obtain ⟨v98, ev98⟩ : ∃ y : Int32, y = x3 + 5 := ⟨_, rfl⟩
          have hf := nm_at hf v98 ev98
          refine lv_iinc (v := v98) (lv' := [(3, .int v98), (0, .ref b), (1, .ref (ad 0)), (2, .ref (ae 0))]) hx hb dL_law_425 hl (k := 3) rfl (by rw [ev98]; rfl) (by decide) rfl (fun ls hl => ?_)
          refine lv_goto (tgt := 18) hx hb dL_law_428 (by decide) ?_
          exact ih v98 σ95 μ97 _ _ _ hPc hPm hS (lv_sub hl [1, 2, 3, 0] rfl) hf
        · have hf := ite_f hf hc
          refine lv_iconst (v := 0) hx hb dL_law_345 (by decide) ?_
          exact nomatch (show (none : Option (Int32 × St)) = some (1, σ0) from hf)
      have hf := ite_f hf hk8
      by_cases hk9 : v2 = 9
      · have hf := ite_t hf hk9
        refine lv_tableIn (tgt := 347) (off := 315) hx hb dL_law_32 (by rw [hk9]; decide) (by rw [hk9]; decide) (by rw [hk9]; rfl) (by decide) ?_
        refine lv_aload_n hx hb dL_law_347 rfl (lv_at hl 1 rfl) ?_
        obtain ⟨v99, σ100, hc, hf⟩ := bd_at hf
        refine lawI (As := []) (rest := []) C hA1 (hO2 _) (mX9_state hI hc) ⟨gt3_213, gt3_214, gt3_215, gt1_1, gt3_216⟩ okX9_state ⟨Nat.le_of_ble_eq_true rfl, Nat.le_of_ble_eq_true rfl⟩ (rcvOf C hPc (show (wC ad cI cF _)[0]? = some (ad 0, _) from rfl) rfl) rfl hl.1 rfl (Nat.le_of_ble_eq_true rfl) hPc hPm hS dL_law_348 ⟨Nat.le_refl _, Nat.le_refl _⟩ (fun H locs hPc hPm hS => ?_)
        refine lv_aload_n hx hb dL_law_351 rfl (lv_at hl 2 rfl) ?_
        obtain ⟨v101, μ102, hc, hf⟩ := bd_at hf
        refine lawI (As := []) (rest := [.int v99]) C hA2 (hO1 _) (mX10_state hJ hc) ⟨gt4_129, gt4_130, gt4_131, gt1_11, gt4_132⟩ okX10_state ⟨Nat.le_of_ble_eq_true rfl, Nat.le_of_ble_eq_true rfl⟩ (rcvOf C hPm (show (wM ae cI _)[0]? = some (ae 0, _) from rfl) rfl) rfl hl.1 rfl (Nat.le_of_ble_eq_true rfl) hPm hPc hS dL_law_352 ⟨Nat.le_refl _, Nat.le_refl _⟩ (fun H locs hPm hPc hS => ?_)
        refine lv_icmp_eq (tgt := 425) hx hb dL_law_355 (by decide) (fun hc => ?_) (fun hc => ?_)
        · have hf := ite_t hf hc
          obtain ⟨v103, ev103⟩ : ∃ y : Int32, y = x3 + 5 := ⟨_, rfl⟩
          have hf := nm_at hf v103 ev103
          refine lv_iinc (v := v103) (lv' := [(3, .int v103), (0, .ref b), (1, .ref (ad 0)), (2, .ref (ae 0))]) hx hb dL_law_425 hl (k := 3) rfl (by rw [ev103]; rfl) (by decide) rfl (fun ls hl => ?_)
          refine lv_goto (tgt := 18) hx hb dL_law_428 (by decide) ?_
          exact ih v103 σ100 μ102 _ _ _ hPc hPm hS (lv_sub hl [1, 2, 3, 0] rfl) hf
        · have hf := ite_f hf hc
          refine lv_iconst (v := 0) hx hb dL_law_358 (by decide) ?_
          exact nomatch (show (none : Option (Int32 × St)) = some (1, σ0) from hf)
      have hf := ite_f hf hk9
      by_cases hk10 : v2 = 10
      · have hf := ite_t hf hk10
        refine lv_tableIn (tgt := 360) (off := 328) hx hb dL_law_32 (by rw [hk10]; decide) (by rw [hk10]; decide) (by rw [hk10]; rfl) (by decide) ?_
        refine lv_aload_n hx hb dL_law_360 rfl (lv_at hl 1 rfl) ?_
        obtain ⟨v104, σ105, hc, hf⟩ := bd_at hf
        refine lawI (As := []) (rest := []) C hA1 (hO2 _) (mX9_waiting hI hc) ⟨gt3_217, gt3_218, gt3_219, gt1_1, gt3_220⟩ okX9_waiting ⟨Nat.le_of_ble_eq_true rfl, Nat.le_of_ble_eq_true rfl⟩ (rcvOf C hPc (show (wC ad cI cF _)[0]? = some (ad 0, _) from rfl) rfl) rfl hl.1 rfl (Nat.le_of_ble_eq_true rfl) hPc hPm hS dL_law_361 ⟨Nat.le_refl _, Nat.le_refl _⟩ (fun H locs hPc hPm hS => ?_)
        refine lv_aload_n hx hb dL_law_364 rfl (lv_at hl 2 rfl) ?_
        obtain ⟨v106, μ107, hc, hf⟩ := bd_at hf
        refine lawI (As := []) (rest := [.int v104]) C hA2 (hO1 _) (mX10_waiting hJ hc) ⟨gt4_133, gt4_134, gt4_135, gt1_11, gt4_136⟩ okX10_waiting ⟨Nat.le_of_ble_eq_true rfl, Nat.le_of_ble_eq_true rfl⟩ (rcvOf C hPm (show (wM ae cI _)[0]? = some (ae 0, _) from rfl) rfl) rfl hl.1 rfl (Nat.le_of_ble_eq_true rfl) hPm hPc hS dL_law_365 ⟨Nat.le_refl _, Nat.le_refl _⟩ (fun H locs hPm hPc hS => ?_)
        refine lv_icmp_eq (tgt := 425) hx hb dL_law_368 (by decide) (fun hc => ?_) (fun hc => ?_)
        · have hf := ite_t hf hc
          obtain ⟨v108, ev108⟩ : ∃ y : Int32, y = x3 + 5 := ⟨_, rfl⟩
          have hf := nm_at hf v108 ev108
          refine lv_iinc (v := v108) (lv' := [(3, .int v108), (0, .ref b), (1, .ref (ad 0)), (2, .ref (ae 0))]) hx hb dL_law_425 hl (k := 3) rfl (by rw [ev108]; rfl) (by decide) rfl (fun ls hl => ?_)
          refine lv_goto (tgt := 18) hx hb dL_law_428 (by decide) ?_
          exact ih v108 σ105 μ107 _ _ _ hPc hPm hS (lv_sub hl [1, 2, 3, 0] rfl) hf
        · have hf := ite_f hf hc
          refine lv_iconst (v := 0) hx hb dL_law_371 (by decide) ?_
          exact nomatch (show (none : Option (Int32 × St)) = some (1, σ0) from hf)
      have hf := ite_f hf hk10
      by_cases hk11 : v2 = 11
      · have hf := ite_t hf hk11
        refine lv_tableIn (tgt := 373) (off := 341) hx hb dL_law_32 (by rw [hk11]; decide) (by rw [hk11]; decide) (by rw [hk11]; rfl) (by decide) ?_
        refine lv_aload_n hx hb dL_law_373 rfl (lv_at hl 1 rfl) ?_
        obtain ⟨v109, σ110, hc, hf⟩ := bd_at hf
        refine lawI (As := []) (rest := []) C hA1 (hO2 _) (mX9_ready hI hc) ⟨gt3_221, gt3_222, gt3_223, gt1_1, gt3_224⟩ okX9_ready ⟨Nat.le_of_ble_eq_true rfl, Nat.le_of_ble_eq_true rfl⟩ (rcvOf C hPc (show (wC ad cI cF _)[0]? = some (ad 0, _) from rfl) rfl) rfl hl.1 rfl (Nat.le_of_ble_eq_true rfl) hPc hPm hS dL_law_374 ⟨Nat.le_refl _, Nat.le_refl _⟩ (fun H locs hPc hPm hS => ?_)
        refine lv_aload_n hx hb dL_law_377 rfl (lv_at hl 2 rfl) ?_
        obtain ⟨v111, μ112, hc, hf⟩ := bd_at hf
        refine lawI (As := []) (rest := [.int v109]) C hA2 (hO1 _) (mX10_ready hJ hc) ⟨gt4_137, gt4_138, gt4_139, gt1_11, gt4_140⟩ okX10_ready ⟨Nat.le_of_ble_eq_true rfl, Nat.le_of_ble_eq_true rfl⟩ (rcvOf C hPm (show (wM ae cI _)[0]? = some (ae 0, _) from rfl) rfl) rfl hl.1 rfl (Nat.le_of_ble_eq_true rfl) hPm hPc hS dL_law_378 ⟨Nat.le_refl _, Nat.le_refl _⟩ (fun H locs hPm hPc hS => ?_)
        refine lv_icmp_eq (tgt := 425) hx hb dL_law_381 (by decide) (fun hc => ?_) (fun hc => ?_)
        · have hf := ite_t hf hc
          obtain ⟨v113, ev113⟩ : ∃ y : Int32, y = x3 + 5 := ⟨_, rfl⟩
          have hf := nm_at hf v113 ev113
          refine lv_iinc (v := v113) (lv' := [(3, .int v113), (0, .ref b), (1, .ref (ad 0)), (2, .ref (ae 0))]) hx hb dL_law_425 hl (k := 3) rfl (by rw [ev113]; rfl) (by decide) rfl (fun ls hl => ?_)
          refine lv_goto (tgt := 18) hx hb dL_law_428 (by decide) ?_
          exact ih v113 σ110 μ112 _ _ _ hPc hPm hS (lv_sub hl [1, 2, 3, 0] rfl) hf
        · have hf := ite_f hf hc
          refine lv_iconst (v := 0) hx hb dL_law_384 (by decide) ?_
          exact nomatch (show (none : Option (Int32 × St)) = some (1, σ0) from hf)
      have hf := ite_f hf hk11
      by_cases hk12 : v2 = 12
      · have hf := ite_t hf hk12
        refine lv_tableIn (tgt := 386) (off := 354) hx hb dL_law_32 (by rw [hk12]; decide) (by rw [hk12]; decide) (by rw [hk12]; rfl) (by decide) ?_
        refine lv_aload_n hx hb dL_law_386 rfl (lv_at hl 1 rfl) ?_
        obtain ⟨v114, σ115, hc, hf⟩ := bd_at hf
        refine lawI (As := []) (rest := []) C hA1 (hO2 _) (mX9_taken hI hc) ⟨gt3_225, gt3_226, gt3_227, gt1_1, gt3_228⟩ okX9_taken ⟨Nat.le_of_ble_eq_true rfl, Nat.le_of_ble_eq_true rfl⟩ (rcvOf C hPc (show (wC ad cI cF _)[0]? = some (ad 0, _) from rfl) rfl) rfl hl.1 rfl (Nat.le_of_ble_eq_true rfl) hPc hPm hS dL_law_387 ⟨Nat.le_refl _, Nat.le_refl _⟩ (fun H locs hPc hPm hS => ?_)
        refine lv_aload_n hx hb dL_law_390 rfl (lv_at hl 2 rfl) ?_
        obtain ⟨v116, μ117, hc, hf⟩ := bd_at hf
        refine lawI (As := []) (rest := [.int v114]) C hA2 (hO1 _) (mX10_taken hJ hc) ⟨gt4_141, gt4_142, gt4_143, gt1_11, gt4_144⟩ okX10_taken ⟨Nat.le_of_ble_eq_true rfl, Nat.le_of_ble_eq_true rfl⟩ (rcvOf C hPm (show (wM ae cI _)[0]? = some (ae 0, _) from rfl) rfl) rfl hl.1 rfl (Nat.le_of_ble_eq_true rfl) hPm hPc hS dL_law_391 ⟨Nat.le_refl _, Nat.le_refl _⟩ (fun H locs hPm hPc hS => ?_)
        refine lv_icmp_eq (tgt := 425) hx hb dL_law_394 (by decide) (fun hc => ?_) (fun hc => ?_)
        · have hf := ite_t hf hc
          obtain ⟨v118, ev118⟩ : ∃ y : Int32, y = x3 + 5 := ⟨_, rfl⟩
          have hf := nm_at hf v118 ev118
          refine lv_iinc (v := v118) (lv' := [(3, .int v118), (0, .ref b), (1, .ref (ad 0)), (2, .ref (ae 0))]) hx hb dL_law_425 hl (k := 3) rfl (by rw [ev118]; rfl) (by decide) rfl (fun ls hl => ?_)
          refine lv_goto (tgt := 18) hx hb dL_law_428 (by decide) ?_
          exact ih v118 σ115 μ117 _ _ _ hPc hPm hS (lv_sub hl [1, 2, 3, 0] rfl) hf
        · have hf := ite_f hf hc
          refine lv_iconst (v := 0) hx hb dL_law_397 (by decide) ?_
          exact nomatch (show (none : Option (Int32 × St)) = some (1, σ0) from hf)
      have hf := ite_f hf hk12
      by_cases hk13 : v2 = 13
      · have hf := ite_t hf hk13
        refine lv_tableIn (tgt := 399) (off := 367) hx hb dL_law_32 (by rw [hk13]; decide) (by rw [hk13]; decide) (by rw [hk13]; rfl) (by decide) ?_
        refine lv_aload_n hx hb dL_law_399 rfl (lv_at hl 1 rfl) ?_
        obtain ⟨v119, σ120, hc, hf⟩ := bd_at hf
        refine lawI (As := []) (rest := []) C hA1 (hO2 _) (mX9_put hI hc) ⟨gt3_229, gt3_230, gt3_231, gt1_1, gt3_232⟩ okX9_put ⟨Nat.le_of_ble_eq_true rfl, Nat.le_of_ble_eq_true rfl⟩ (rcvOf C hPc (show (wC ad cI cF _)[0]? = some (ad 0, _) from rfl) rfl) rfl hl.1 rfl (Nat.le_of_ble_eq_true rfl) hPc hPm hS dL_law_400 ⟨Nat.le_refl _, Nat.le_refl _⟩ (fun H locs hPc hPm hS => ?_)
        refine lv_aload_n hx hb dL_law_403 rfl (lv_at hl 2 rfl) ?_
        obtain ⟨v121, μ122, hc, hf⟩ := bd_at hf
        refine lawI (As := []) (rest := [.int v119]) C hA2 (hO1 _) (mX10_put hJ hc) ⟨gt4_145, gt4_146, gt4_147, gt1_11, gt4_148⟩ okX10_put ⟨Nat.le_of_ble_eq_true rfl, Nat.le_of_ble_eq_true rfl⟩ (rcvOf C hPm (show (wM ae cI _)[0]? = some (ae 0, _) from rfl) rfl) rfl hl.1 rfl (Nat.le_of_ble_eq_true rfl) hPm hPc hS dL_law_404 ⟨Nat.le_refl _, Nat.le_refl _⟩ (fun H locs hPm hPc hS => ?_)
        refine lv_icmp_eq (tgt := 425) hx hb dL_law_407 (by decide) (fun hc => ?_) (fun hc => ?_)
        · have hf := ite_t hf hc
          obtain ⟨v123, ev123⟩ : ∃ y : Int32, y = x3 + 5 := ⟨_, rfl⟩
          have hf := nm_at hf v123 ev123
          refine lv_iinc (v := v123) (lv' := [(3, .int v123), (0, .ref b), (1, .ref (ad 0)), (2, .ref (ae 0))]) hx hb dL_law_425 hl (k := 3) rfl (by rw [ev123]; rfl) (by decide) rfl (fun ls hl => ?_)
          refine lv_goto (tgt := 18) hx hb dL_law_428 (by decide) ?_
          exact ih v123 σ120 μ122 _ _ _ hPc hPm hS (lv_sub hl [1, 2, 3, 0] rfl) hf
        · have hf := ite_f hf hc
          refine lv_iconst (v := 0) hx hb dL_law_410 (by decide) ?_
          exact nomatch (show (none : Option (Int32 × St)) = some (1, σ0) from hf)
      have hf := ite_f hf hk13
      by_cases hk14 : v2 = 14
      · have hf := ite_t hf hk14
        refine lv_tableIn (tgt := 412) (off := 380) hx hb dL_law_32 (by rw [hk14]; decide) (by rw [hk14]; decide) (by rw [hk14]; rfl) (by decide) ?_
        refine lv_aload_n hx hb dL_law_412 rfl (lv_at hl 1 rfl) ?_
        obtain ⟨v124, σ125, hc, hf⟩ := bd_at hf
        refine lawI (As := []) (rest := []) C hA1 (hO2 _) (mX9_faults hI hc) ⟨gt3_233, gt3_234, gt3_235, gt1_1, gt3_236⟩ okX9_faults ⟨Nat.le_of_ble_eq_true rfl, Nat.le_of_ble_eq_true rfl⟩ (rcvOf C hPc (show (wC ad cI cF _)[0]? = some (ad 0, _) from rfl) rfl) rfl hl.1 rfl (Nat.le_of_ble_eq_true rfl) hPc hPm hS dL_law_413 ⟨Nat.le_refl _, Nat.le_refl _⟩ (fun H locs hPc hPm hS => ?_)
        refine lv_aload_n hx hb dL_law_416 rfl (lv_at hl 2 rfl) ?_
        obtain ⟨v126, μ127, hc, hf⟩ := bd_at hf
        refine lawI (As := []) (rest := [.int v124]) C hA2 (hO1 _) (mX10_faults hJ hc) ⟨gt4_149, gt4_150, gt4_151, gt1_11, gt4_152⟩ okX10_faults ⟨Nat.le_of_ble_eq_true rfl, Nat.le_of_ble_eq_true rfl⟩ (rcvOf C hPm (show (wM ae cI _)[0]? = some (ae 0, _) from rfl) rfl) rfl hl.1 rfl (Nat.le_of_ble_eq_true rfl) hPm hPc hS dL_law_417 ⟨Nat.le_refl _, Nat.le_refl _⟩ (fun H locs hPm hPc hS => ?_)
        refine lv_icmp_eq (tgt := 425) hx hb dL_law_420 (by decide) (fun hc => ?_) (fun hc => ?_)
        · have hf := ite_t hf hc
          obtain ⟨v128, ev128⟩ : ∃ y : Int32, y = x3 + 5 := ⟨_, rfl⟩
          have hf := nm_at hf v128 ev128
          refine lv_iinc (v := v128) (lv' := [(3, .int v128), (0, .ref b), (1, .ref (ad 0)), (2, .ref (ae 0))]) hx hb dL_law_425 hl (k := 3) rfl (by rw [ev128]; rfl) (by decide) rfl (fun ls hl => ?_)
          refine lv_goto (tgt := 18) hx hb dL_law_428 (by decide) ?_
          exact ih v128 σ125 μ127 _ _ _ hPc hPm hS (lv_sub hl [1, 2, 3, 0] rfl) hf
        · have hf := ite_f hf hc
          refine lv_iconst (v := 0) hx hb dL_law_423 (by decide) ?_
          exact nomatch (show (none : Option (Int32 × St)) = some (1, σ0) from hf)
      have hf := ite_f hf hk14
      refine lv_tableOut (tgt := 425) hx hb dL_law_32 (tsw_out hk0 hk1 hk2 hk3 hk4 hk5 hk6 hk7 hk8 hk9 hk10 hk11 hk12 hk13 hk14) (by decide) ?_
      obtain ⟨v129, ev129⟩ : ∃ y : Int32, y = x3 + 5 := ⟨_, rfl⟩
      have hf := nm_at hf v129 ev129
      refine lv_iinc (v := v129) (lv' := [(3, .int v129), (0, .ref b), (1, .ref (ad 0)), (2, .ref (ae 0))]) hx hb dL_law_425 hl (k := 3) rfl (by rw [ev129]; rfl) (by decide) rfl (fun ls hl => ?_)
      refine lv_goto (tgt := 18) hx hb dL_law_428 (by decide) ?_
      exact ih v129 σ μ _ _ _ hPc hPm hS (lv_sub hl [1, 2, 3, 0] rfl) hf
theorem tl1 {w : Cond} (i : Nat) (e : tables_1_1[i]? = some w) : w ∈ lw_tbl := by
  have h := List.mem_of_getElem? e
  exact List.mem_append_right _ (List.mem_append_left _ h)
theorem tl2 {w : Cond} (i : Nat) (e : tables_1_2[i]? = some w) : w ∈ lw_tbl := by
  have h := List.mem_of_getElem? e
  exact List.mem_append_right _ (List.mem_append_right _ (List.mem_append_left _ h))
theorem tl3 {w : Cond} (i : Nat) (e : tables_1_3[i]? = some w) : w ∈ lw_tbl := by
  have h := List.mem_of_getElem? e
  exact List.mem_append_right _ (List.mem_append_right _ (List.mem_append_right _ (List.mem_append_left _ h)))
theorem tl4 {w : Cond} (i : Nat) (e : tables_1_4[i]? = some w) : w ∈ lw_tbl := by
  have h := List.mem_of_getElem? e
  exact List.mem_append_right _ (List.mem_append_right _ (List.mem_append_right _ (List.mem_append_right _ (List.mem_append_left _ h))))
theorem tl5 {w : Cond} (i : Nat) (e : tables_1_5[i]? = some w) : w ∈ lw_tbl := by
  have h := List.mem_of_getElem? e
  exact List.mem_append_right _ (List.mem_append_right _ (List.mem_append_right _ (List.mem_append_right _ (List.mem_append_right _ h))))
abbrev gvT : Cond := Jvm.Cond.and given_1 narrow_1
theorem gv_at {c : Cond} (i : Nat) (e : (flatC gvT)[i]? = some c) {b : Nat} {s : State} (h : gvT.before #[Value.ref b] s = true) : c.before #[Value.ref b] s = true := flat_of_before _ h _ (List.mem_of_getElem? e)
def ksM (i : Nat) : Term := .string RX7 (ksI i)
def gvP0 : List Nat := [13, 14, 15, 16, 17, 18, 19, 20, 21, 22, 23, 24, 25, 26, 27, 28, 29, 30, 31, 32, 33, 34, 35, 36, 37, 38, 39, 40, 41, 42, 43, 44, 45, 46, 47, 48, 49, 50, 51, 52, 53, 54, 55, 56, 57, 58, 59, 60, 61, 62, 63, 64, 65, 66, 67, 68, 69, 70, 71, 72, 73, 74, 75, 76]
set_option maxRecDepth 100000 in
theorem gvE0_0 : (flatC gvT)[13]? = some (Cond.eq (.elem (.field (ksM 0) "java/lang/String" "value" "[B") (.int (Int32.ofNat 0))) (.int ((ksB.getD 0 []).getD 0 0))) := rfl
set_option maxRecDepth 100000 in
theorem gvE0_1 : (flatC gvT)[14]? = some (Cond.eq (.elem (.field (ksM 0) "java/lang/String" "value" "[B") (.int (Int32.ofNat 1))) (.int ((ksB.getD 0 []).getD 1 0))) := rfl
set_option maxRecDepth 100000 in
theorem gvE0_2 : (flatC gvT)[15]? = some (Cond.eq (.elem (.field (ksM 0) "java/lang/String" "value" "[B") (.int (Int32.ofNat 2))) (.int ((ksB.getD 0 []).getD 2 0))) := rfl
set_option maxRecDepth 100000 in
theorem gvE0_3 : (flatC gvT)[16]? = some (Cond.eq (.elem (.field (ksM 0) "java/lang/String" "value" "[B") (.int (Int32.ofNat 3))) (.int ((ksB.getD 0 []).getD 3 0))) := rfl
set_option maxRecDepth 100000 in
theorem gvE0_4 : (flatC gvT)[17]? = some (Cond.eq (.elem (.field (ksM 0) "java/lang/String" "value" "[B") (.int (Int32.ofNat 4))) (.int ((ksB.getD 0 []).getD 4 0))) := rfl
set_option maxRecDepth 100000 in
theorem gvE0_5 : (flatC gvT)[18]? = some (Cond.eq (.elem (.field (ksM 0) "java/lang/String" "value" "[B") (.int (Int32.ofNat 5))) (.int ((ksB.getD 0 []).getD 5 0))) := rfl
set_option maxRecDepth 100000 in
theorem gvE0_6 : (flatC gvT)[19]? = some (Cond.eq (.elem (.field (ksM 0) "java/lang/String" "value" "[B") (.int (Int32.ofNat 6))) (.int ((ksB.getD 0 []).getD 6 0))) := rfl
set_option maxRecDepth 100000 in
theorem gvE0_7 : (flatC gvT)[20]? = some (Cond.eq (.elem (.field (ksM 0) "java/lang/String" "value" "[B") (.int (Int32.ofNat 7))) (.int ((ksB.getD 0 []).getD 7 0))) := rfl
set_option maxRecDepth 100000 in
theorem gvE0_8 : (flatC gvT)[21]? = some (Cond.eq (.elem (.field (ksM 0) "java/lang/String" "value" "[B") (.int (Int32.ofNat 8))) (.int ((ksB.getD 0 []).getD 8 0))) := rfl
set_option maxRecDepth 100000 in
theorem gvE0_9 : (flatC gvT)[22]? = some (Cond.eq (.elem (.field (ksM 0) "java/lang/String" "value" "[B") (.int (Int32.ofNat 9))) (.int ((ksB.getD 0 []).getD 9 0))) := rfl
set_option maxRecDepth 100000 in
theorem gvE0_10 : (flatC gvT)[23]? = some (Cond.eq (.elem (.field (ksM 0) "java/lang/String" "value" "[B") (.int (Int32.ofNat 10))) (.int ((ksB.getD 0 []).getD 10 0))) := rfl
set_option maxRecDepth 100000 in
theorem gvE0_11 : (flatC gvT)[24]? = some (Cond.eq (.elem (.field (ksM 0) "java/lang/String" "value" "[B") (.int (Int32.ofNat 11))) (.int ((ksB.getD 0 []).getD 11 0))) := rfl
set_option maxRecDepth 100000 in
theorem gvE0_12 : (flatC gvT)[25]? = some (Cond.eq (.elem (.field (ksM 0) "java/lang/String" "value" "[B") (.int (Int32.ofNat 12))) (.int ((ksB.getD 0 []).getD 12 0))) := rfl
set_option maxRecDepth 100000 in
theorem gvE0_13 : (flatC gvT)[26]? = some (Cond.eq (.elem (.field (ksM 0) "java/lang/String" "value" "[B") (.int (Int32.ofNat 13))) (.int ((ksB.getD 0 []).getD 13 0))) := rfl
set_option maxRecDepth 100000 in
theorem gvE0_14 : (flatC gvT)[27]? = some (Cond.eq (.elem (.field (ksM 0) "java/lang/String" "value" "[B") (.int (Int32.ofNat 14))) (.int ((ksB.getD 0 []).getD 14 0))) := rfl
set_option maxRecDepth 100000 in
theorem gvE0_15 : (flatC gvT)[28]? = some (Cond.eq (.elem (.field (ksM 0) "java/lang/String" "value" "[B") (.int (Int32.ofNat 15))) (.int ((ksB.getD 0 []).getD 15 0))) := rfl
set_option maxRecDepth 100000 in
theorem gvE0_16 : (flatC gvT)[29]? = some (Cond.eq (.elem (.field (ksM 0) "java/lang/String" "value" "[B") (.int (Int32.ofNat 16))) (.int ((ksB.getD 0 []).getD 16 0))) := rfl
set_option maxRecDepth 100000 in
theorem gvE0_17 : (flatC gvT)[30]? = some (Cond.eq (.elem (.field (ksM 0) "java/lang/String" "value" "[B") (.int (Int32.ofNat 17))) (.int ((ksB.getD 0 []).getD 17 0))) := rfl
set_option maxRecDepth 100000 in
theorem gvE0_18 : (flatC gvT)[31]? = some (Cond.eq (.elem (.field (ksM 0) "java/lang/String" "value" "[B") (.int (Int32.ofNat 18))) (.int ((ksB.getD 0 []).getD 18 0))) := rfl
set_option maxRecDepth 100000 in
theorem gvE0_19 : (flatC gvT)[32]? = some (Cond.eq (.elem (.field (ksM 0) "java/lang/String" "value" "[B") (.int (Int32.ofNat 19))) (.int ((ksB.getD 0 []).getD 19 0))) := rfl
set_option maxRecDepth 100000 in
theorem gvE0_20 : (flatC gvT)[33]? = some (Cond.eq (.elem (.field (ksM 0) "java/lang/String" "value" "[B") (.int (Int32.ofNat 20))) (.int ((ksB.getD 0 []).getD 20 0))) := rfl
set_option maxRecDepth 100000 in
theorem gvE0_21 : (flatC gvT)[34]? = some (Cond.eq (.elem (.field (ksM 0) "java/lang/String" "value" "[B") (.int (Int32.ofNat 21))) (.int ((ksB.getD 0 []).getD 21 0))) := rfl
set_option maxRecDepth 100000 in
theorem gvE0_22 : (flatC gvT)[35]? = some (Cond.eq (.elem (.field (ksM 0) "java/lang/String" "value" "[B") (.int (Int32.ofNat 22))) (.int ((ksB.getD 0 []).getD 22 0))) := rfl
set_option maxRecDepth 100000 in
theorem gvE0_23 : (flatC gvT)[36]? = some (Cond.eq (.elem (.field (ksM 0) "java/lang/String" "value" "[B") (.int (Int32.ofNat 23))) (.int ((ksB.getD 0 []).getD 23 0))) := rfl
set_option maxRecDepth 100000 in
theorem gvE0_24 : (flatC gvT)[37]? = some (Cond.eq (.elem (.field (ksM 0) "java/lang/String" "value" "[B") (.int (Int32.ofNat 24))) (.int ((ksB.getD 0 []).getD 24 0))) := rfl
set_option maxRecDepth 100000 in
theorem gvE0_25 : (flatC gvT)[38]? = some (Cond.eq (.elem (.field (ksM 0) "java/lang/String" "value" "[B") (.int (Int32.ofNat 25))) (.int ((ksB.getD 0 []).getD 25 0))) := rfl
set_option maxRecDepth 100000 in
theorem gvE0_26 : (flatC gvT)[39]? = some (Cond.eq (.elem (.field (ksM 0) "java/lang/String" "value" "[B") (.int (Int32.ofNat 26))) (.int ((ksB.getD 0 []).getD 26 0))) := rfl
set_option maxRecDepth 100000 in
theorem gvE0_27 : (flatC gvT)[40]? = some (Cond.eq (.elem (.field (ksM 0) "java/lang/String" "value" "[B") (.int (Int32.ofNat 27))) (.int ((ksB.getD 0 []).getD 27 0))) := rfl
set_option maxRecDepth 100000 in
theorem gvE0_28 : (flatC gvT)[41]? = some (Cond.eq (.elem (.field (ksM 0) "java/lang/String" "value" "[B") (.int (Int32.ofNat 28))) (.int ((ksB.getD 0 []).getD 28 0))) := rfl
set_option maxRecDepth 100000 in
theorem gvE0_29 : (flatC gvT)[42]? = some (Cond.eq (.elem (.field (ksM 0) "java/lang/String" "value" "[B") (.int (Int32.ofNat 29))) (.int ((ksB.getD 0 []).getD 29 0))) := rfl
set_option maxRecDepth 100000 in
theorem gvE0_30 : (flatC gvT)[43]? = some (Cond.eq (.elem (.field (ksM 0) "java/lang/String" "value" "[B") (.int (Int32.ofNat 30))) (.int ((ksB.getD 0 []).getD 30 0))) := rfl
set_option maxRecDepth 100000 in
theorem gvE0_31 : (flatC gvT)[44]? = some (Cond.eq (.elem (.field (ksM 0) "java/lang/String" "value" "[B") (.int (Int32.ofNat 31))) (.int ((ksB.getD 0 []).getD 31 0))) := rfl
set_option maxRecDepth 100000 in
theorem gvE0_32 : (flatC gvT)[45]? = some (Cond.eq (.elem (.field (ksM 0) "java/lang/String" "value" "[B") (.int (Int32.ofNat 32))) (.int ((ksB.getD 0 []).getD 32 0))) := rfl
set_option maxRecDepth 100000 in
theorem gvE0_33 : (flatC gvT)[46]? = some (Cond.eq (.elem (.field (ksM 0) "java/lang/String" "value" "[B") (.int (Int32.ofNat 33))) (.int ((ksB.getD 0 []).getD 33 0))) := rfl
set_option maxRecDepth 100000 in
theorem gvE0_34 : (flatC gvT)[47]? = some (Cond.eq (.elem (.field (ksM 0) "java/lang/String" "value" "[B") (.int (Int32.ofNat 34))) (.int ((ksB.getD 0 []).getD 34 0))) := rfl
set_option maxRecDepth 100000 in
theorem gvE0_35 : (flatC gvT)[48]? = some (Cond.eq (.elem (.field (ksM 0) "java/lang/String" "value" "[B") (.int (Int32.ofNat 35))) (.int ((ksB.getD 0 []).getD 35 0))) := rfl
set_option maxRecDepth 100000 in
theorem gvE0_36 : (flatC gvT)[49]? = some (Cond.eq (.elem (.field (ksM 0) "java/lang/String" "value" "[B") (.int (Int32.ofNat 36))) (.int ((ksB.getD 0 []).getD 36 0))) := rfl
set_option maxRecDepth 100000 in
theorem gvE0_37 : (flatC gvT)[50]? = some (Cond.eq (.elem (.field (ksM 0) "java/lang/String" "value" "[B") (.int (Int32.ofNat 37))) (.int ((ksB.getD 0 []).getD 37 0))) := rfl
set_option maxRecDepth 100000 in
theorem gvE0_38 : (flatC gvT)[51]? = some (Cond.eq (.elem (.field (ksM 0) "java/lang/String" "value" "[B") (.int (Int32.ofNat 38))) (.int ((ksB.getD 0 []).getD 38 0))) := rfl
set_option maxRecDepth 100000 in
theorem gvE0_39 : (flatC gvT)[52]? = some (Cond.eq (.elem (.field (ksM 0) "java/lang/String" "value" "[B") (.int (Int32.ofNat 39))) (.int ((ksB.getD 0 []).getD 39 0))) := rfl
set_option maxRecDepth 100000 in
theorem gvE0_40 : (flatC gvT)[53]? = some (Cond.eq (.elem (.field (ksM 0) "java/lang/String" "value" "[B") (.int (Int32.ofNat 40))) (.int ((ksB.getD 0 []).getD 40 0))) := rfl
set_option maxRecDepth 100000 in
theorem gvE0_41 : (flatC gvT)[54]? = some (Cond.eq (.elem (.field (ksM 0) "java/lang/String" "value" "[B") (.int (Int32.ofNat 41))) (.int ((ksB.getD 0 []).getD 41 0))) := rfl
set_option maxRecDepth 100000 in
theorem gvE0_42 : (flatC gvT)[55]? = some (Cond.eq (.elem (.field (ksM 0) "java/lang/String" "value" "[B") (.int (Int32.ofNat 42))) (.int ((ksB.getD 0 []).getD 42 0))) := rfl
set_option maxRecDepth 100000 in
theorem gvE0_43 : (flatC gvT)[56]? = some (Cond.eq (.elem (.field (ksM 0) "java/lang/String" "value" "[B") (.int (Int32.ofNat 43))) (.int ((ksB.getD 0 []).getD 43 0))) := rfl
set_option maxRecDepth 100000 in
theorem gvE0_44 : (flatC gvT)[57]? = some (Cond.eq (.elem (.field (ksM 0) "java/lang/String" "value" "[B") (.int (Int32.ofNat 44))) (.int ((ksB.getD 0 []).getD 44 0))) := rfl
set_option maxRecDepth 100000 in
theorem gvE0_45 : (flatC gvT)[58]? = some (Cond.eq (.elem (.field (ksM 0) "java/lang/String" "value" "[B") (.int (Int32.ofNat 45))) (.int ((ksB.getD 0 []).getD 45 0))) := rfl
set_option maxRecDepth 100000 in
theorem gvE0_46 : (flatC gvT)[59]? = some (Cond.eq (.elem (.field (ksM 0) "java/lang/String" "value" "[B") (.int (Int32.ofNat 46))) (.int ((ksB.getD 0 []).getD 46 0))) := rfl
set_option maxRecDepth 100000 in
theorem gvE0_47 : (flatC gvT)[60]? = some (Cond.eq (.elem (.field (ksM 0) "java/lang/String" "value" "[B") (.int (Int32.ofNat 47))) (.int ((ksB.getD 0 []).getD 47 0))) := rfl
set_option maxRecDepth 100000 in
theorem gvE0_48 : (flatC gvT)[61]? = some (Cond.eq (.elem (.field (ksM 0) "java/lang/String" "value" "[B") (.int (Int32.ofNat 48))) (.int ((ksB.getD 0 []).getD 48 0))) := rfl
set_option maxRecDepth 100000 in
theorem gvE0_49 : (flatC gvT)[62]? = some (Cond.eq (.elem (.field (ksM 0) "java/lang/String" "value" "[B") (.int (Int32.ofNat 49))) (.int ((ksB.getD 0 []).getD 49 0))) := rfl
set_option maxRecDepth 100000 in
theorem gvE0_50 : (flatC gvT)[63]? = some (Cond.eq (.elem (.field (ksM 0) "java/lang/String" "value" "[B") (.int (Int32.ofNat 50))) (.int ((ksB.getD 0 []).getD 50 0))) := rfl
set_option maxRecDepth 100000 in
theorem gvE0_51 : (flatC gvT)[64]? = some (Cond.eq (.elem (.field (ksM 0) "java/lang/String" "value" "[B") (.int (Int32.ofNat 51))) (.int ((ksB.getD 0 []).getD 51 0))) := rfl
set_option maxRecDepth 100000 in
theorem gvE0_52 : (flatC gvT)[65]? = some (Cond.eq (.elem (.field (ksM 0) "java/lang/String" "value" "[B") (.int (Int32.ofNat 52))) (.int ((ksB.getD 0 []).getD 52 0))) := rfl
set_option maxRecDepth 100000 in
theorem gvE0_53 : (flatC gvT)[66]? = some (Cond.eq (.elem (.field (ksM 0) "java/lang/String" "value" "[B") (.int (Int32.ofNat 53))) (.int ((ksB.getD 0 []).getD 53 0))) := rfl
set_option maxRecDepth 100000 in
theorem gvE0_54 : (flatC gvT)[67]? = some (Cond.eq (.elem (.field (ksM 0) "java/lang/String" "value" "[B") (.int (Int32.ofNat 54))) (.int ((ksB.getD 0 []).getD 54 0))) := rfl
set_option maxRecDepth 100000 in
theorem gvE0_55 : (flatC gvT)[68]? = some (Cond.eq (.elem (.field (ksM 0) "java/lang/String" "value" "[B") (.int (Int32.ofNat 55))) (.int ((ksB.getD 0 []).getD 55 0))) := rfl
set_option maxRecDepth 100000 in
theorem gvE0_56 : (flatC gvT)[69]? = some (Cond.eq (.elem (.field (ksM 0) "java/lang/String" "value" "[B") (.int (Int32.ofNat 56))) (.int ((ksB.getD 0 []).getD 56 0))) := rfl
set_option maxRecDepth 100000 in
theorem gvE0_57 : (flatC gvT)[70]? = some (Cond.eq (.elem (.field (ksM 0) "java/lang/String" "value" "[B") (.int (Int32.ofNat 57))) (.int ((ksB.getD 0 []).getD 57 0))) := rfl
set_option maxRecDepth 100000 in
theorem gvE0_58 : (flatC gvT)[71]? = some (Cond.eq (.elem (.field (ksM 0) "java/lang/String" "value" "[B") (.int (Int32.ofNat 58))) (.int ((ksB.getD 0 []).getD 58 0))) := rfl
set_option maxRecDepth 100000 in
theorem gvE0_59 : (flatC gvT)[72]? = some (Cond.eq (.elem (.field (ksM 0) "java/lang/String" "value" "[B") (.int (Int32.ofNat 59))) (.int ((ksB.getD 0 []).getD 59 0))) := rfl
set_option maxRecDepth 100000 in
theorem gvE0_60 : (flatC gvT)[73]? = some (Cond.eq (.elem (.field (ksM 0) "java/lang/String" "value" "[B") (.int (Int32.ofNat 60))) (.int ((ksB.getD 0 []).getD 60 0))) := rfl
set_option maxRecDepth 100000 in
theorem gvE0_61 : (flatC gvT)[74]? = some (Cond.eq (.elem (.field (ksM 0) "java/lang/String" "value" "[B") (.int (Int32.ofNat 61))) (.int ((ksB.getD 0 []).getD 61 0))) := rfl
set_option maxRecDepth 100000 in
theorem gvE0_62 : (flatC gvT)[75]? = some (Cond.eq (.elem (.field (ksM 0) "java/lang/String" "value" "[B") (.int (Int32.ofNat 62))) (.int ((ksB.getD 0 []).getD 62 0))) := rfl
set_option maxRecDepth 100000 in
theorem gvE0_63 : (flatC gvT)[76]? = some (Cond.eq (.elem (.field (ksM 0) "java/lang/String" "value" "[B") (.int (Int32.ofNat 63))) (.int ((ksB.getD 0 []).getD 63 0))) := rfl
def gvP1 : List Nat := [81, 82, 83, 84, 85, 86, 87, 88, 89, 90, 91, 92, 93]
set_option maxRecDepth 100000 in
theorem gvE1_0 : (flatC gvT)[81]? = some (Cond.eq (.elem (.field (ksM 1) "java/lang/String" "value" "[B") (.int (Int32.ofNat 0))) (.int ((ksB.getD 1 []).getD 0 0))) := rfl
set_option maxRecDepth 100000 in
theorem gvE1_1 : (flatC gvT)[82]? = some (Cond.eq (.elem (.field (ksM 1) "java/lang/String" "value" "[B") (.int (Int32.ofNat 1))) (.int ((ksB.getD 1 []).getD 1 0))) := rfl
set_option maxRecDepth 100000 in
theorem gvE1_2 : (flatC gvT)[83]? = some (Cond.eq (.elem (.field (ksM 1) "java/lang/String" "value" "[B") (.int (Int32.ofNat 2))) (.int ((ksB.getD 1 []).getD 2 0))) := rfl
set_option maxRecDepth 100000 in
theorem gvE1_3 : (flatC gvT)[84]? = some (Cond.eq (.elem (.field (ksM 1) "java/lang/String" "value" "[B") (.int (Int32.ofNat 3))) (.int ((ksB.getD 1 []).getD 3 0))) := rfl
set_option maxRecDepth 100000 in
theorem gvE1_4 : (flatC gvT)[85]? = some (Cond.eq (.elem (.field (ksM 1) "java/lang/String" "value" "[B") (.int (Int32.ofNat 4))) (.int ((ksB.getD 1 []).getD 4 0))) := rfl
set_option maxRecDepth 100000 in
theorem gvE1_5 : (flatC gvT)[86]? = some (Cond.eq (.elem (.field (ksM 1) "java/lang/String" "value" "[B") (.int (Int32.ofNat 5))) (.int ((ksB.getD 1 []).getD 5 0))) := rfl
set_option maxRecDepth 100000 in
theorem gvE1_6 : (flatC gvT)[87]? = some (Cond.eq (.elem (.field (ksM 1) "java/lang/String" "value" "[B") (.int (Int32.ofNat 6))) (.int ((ksB.getD 1 []).getD 6 0))) := rfl
set_option maxRecDepth 100000 in
theorem gvE1_7 : (flatC gvT)[88]? = some (Cond.eq (.elem (.field (ksM 1) "java/lang/String" "value" "[B") (.int (Int32.ofNat 7))) (.int ((ksB.getD 1 []).getD 7 0))) := rfl
set_option maxRecDepth 100000 in
theorem gvE1_8 : (flatC gvT)[89]? = some (Cond.eq (.elem (.field (ksM 1) "java/lang/String" "value" "[B") (.int (Int32.ofNat 8))) (.int ((ksB.getD 1 []).getD 8 0))) := rfl
set_option maxRecDepth 100000 in
theorem gvE1_9 : (flatC gvT)[90]? = some (Cond.eq (.elem (.field (ksM 1) "java/lang/String" "value" "[B") (.int (Int32.ofNat 9))) (.int ((ksB.getD 1 []).getD 9 0))) := rfl
set_option maxRecDepth 100000 in
theorem gvE1_10 : (flatC gvT)[91]? = some (Cond.eq (.elem (.field (ksM 1) "java/lang/String" "value" "[B") (.int (Int32.ofNat 10))) (.int ((ksB.getD 1 []).getD 10 0))) := rfl
set_option maxRecDepth 100000 in
theorem gvE1_11 : (flatC gvT)[92]? = some (Cond.eq (.elem (.field (ksM 1) "java/lang/String" "value" "[B") (.int (Int32.ofNat 11))) (.int ((ksB.getD 1 []).getD 11 0))) := rfl
set_option maxRecDepth 100000 in
theorem gvE1_12 : (flatC gvT)[93]? = some (Cond.eq (.elem (.field (ksM 1) "java/lang/String" "value" "[B") (.int (Int32.ofNat 12))) (.int ((ksB.getD 1 []).getD 12 0))) := rfl
set_option maxHeartbeats 4000000 in
set_option maxRecDepth 100000 in
theorem KS_start {b : Nat} {s : State} (hts : ∀ w ∈ lw_tbl, w.before #[Value.ref b] s = true) (hgv : gvT.before #[Value.ref b] s = true) : ∃ kS vS : Nat → Nat, KS (fun q : Nat => s.heap.size ≤ q) kS vS s s.heap := by
  have hA : ∀ a : Nat, a < s.heap.size → ¬ (fun q : Nat => s.heap.size ≤ q) a := fun a h => Nat.not_le.mpr h
  have hel0 : ∀ j : Nat, j < 64 → (Cond.eq (.elem (.field (ksM 0) "java/lang/String" "value" "[B") (.int (Int32.ofNat j))) (.int ((ksB.getD 0 []).getD j 0))).before #[Value.ref b] s = true := by
    intro j hj
    match j, hj with
    | 0, _ => exact gv_at _ gvE0_0 hgv
    | 1, _ => exact gv_at _ gvE0_1 hgv
    | 2, _ => exact gv_at _ gvE0_2 hgv
    | 3, _ => exact gv_at _ gvE0_3 hgv
    | 4, _ => exact gv_at _ gvE0_4 hgv
    | 5, _ => exact gv_at _ gvE0_5 hgv
    | 6, _ => exact gv_at _ gvE0_6 hgv
    | 7, _ => exact gv_at _ gvE0_7 hgv
    | 8, _ => exact gv_at _ gvE0_8 hgv
    | 9, _ => exact gv_at _ gvE0_9 hgv
    | 10, _ => exact gv_at _ gvE0_10 hgv
    | 11, _ => exact gv_at _ gvE0_11 hgv
    | 12, _ => exact gv_at _ gvE0_12 hgv
    | 13, _ => exact gv_at _ gvE0_13 hgv
    | 14, _ => exact gv_at _ gvE0_14 hgv
    | 15, _ => exact gv_at _ gvE0_15 hgv
    | 16, _ => exact gv_at _ gvE0_16 hgv
    | 17, _ => exact gv_at _ gvE0_17 hgv
    | 18, _ => exact gv_at _ gvE0_18 hgv
    | 19, _ => exact gv_at _ gvE0_19 hgv
    | 20, _ => exact gv_at _ gvE0_20 hgv
    | 21, _ => exact gv_at _ gvE0_21 hgv
    | 22, _ => exact gv_at _ gvE0_22 hgv
    | 23, _ => exact gv_at _ gvE0_23 hgv
    | 24, _ => exact gv_at _ gvE0_24 hgv
    | 25, _ => exact gv_at _ gvE0_25 hgv
    | 26, _ => exact gv_at _ gvE0_26 hgv
    | 27, _ => exact gv_at _ gvE0_27 hgv
    | 28, _ => exact gv_at _ gvE0_28 hgv
    | 29, _ => exact gv_at _ gvE0_29 hgv
    | 30, _ => exact gv_at _ gvE0_30 hgv
    | 31, _ => exact gv_at _ gvE0_31 hgv
    | 32, _ => exact gv_at _ gvE0_32 hgv
    | 33, _ => exact gv_at _ gvE0_33 hgv
    | 34, _ => exact gv_at _ gvE0_34 hgv
    | 35, _ => exact gv_at _ gvE0_35 hgv
    | 36, _ => exact gv_at _ gvE0_36 hgv
    | 37, _ => exact gv_at _ gvE0_37 hgv
    | 38, _ => exact gv_at _ gvE0_38 hgv
    | 39, _ => exact gv_at _ gvE0_39 hgv
    | 40, _ => exact gv_at _ gvE0_40 hgv
    | 41, _ => exact gv_at _ gvE0_41 hgv
    | 42, _ => exact gv_at _ gvE0_42 hgv
    | 43, _ => exact gv_at _ gvE0_43 hgv
    | 44, _ => exact gv_at _ gvE0_44 hgv
    | 45, _ => exact gv_at _ gvE0_45 hgv
    | 46, _ => exact gv_at _ gvE0_46 hgv
    | 47, _ => exact gv_at _ gvE0_47 hgv
    | 48, _ => exact gv_at _ gvE0_48 hgv
    | 49, _ => exact gv_at _ gvE0_49 hgv
    | 50, _ => exact gv_at _ gvE0_50 hgv
    | 51, _ => exact gv_at _ gvE0_51 hgv
    | 52, _ => exact gv_at _ gvE0_52 hgv
    | 53, _ => exact gv_at _ gvE0_53 hgv
    | 54, _ => exact gv_at _ gvE0_54 hgv
    | 55, _ => exact gv_at _ gvE0_55 hgv
    | 56, _ => exact gv_at _ gvE0_56 hgv
    | 57, _ => exact gv_at _ gvE0_57 hgv
    | 58, _ => exact gv_at _ gvE0_58 hgv
    | 59, _ => exact gv_at _ gvE0_59 hgv
    | 60, _ => exact gv_at _ gvE0_60 hgv
    | 61, _ => exact gv_at _ gvE0_61 hgv
    | 62, _ => exact gv_at _ gvE0_62 hgv
    | 63, _ => exact gv_at _ gvE0_63 hgv
    | j + 64, hj => exact absurd hj (by omega)
  have hel1 : ∀ j : Nat, j < 13 → (Cond.eq (.elem (.field (ksM 1) "java/lang/String" "value" "[B") (.int (Int32.ofNat j))) (.int ((ksB.getD 1 []).getD j 0))).before #[Value.ref b] s = true := by
    intro j hj
    match j, hj with
    | 0, _ => exact gv_at _ gvE1_0 hgv
    | 1, _ => exact gv_at _ gvE1_1 hgv
    | 2, _ => exact gv_at _ gvE1_2 hgv
    | 3, _ => exact gv_at _ gvE1_3 hgv
    | 4, _ => exact gv_at _ gvE1_4 hgv
    | 5, _ => exact gv_at _ gvE1_5 hgv
    | 6, _ => exact gv_at _ gvE1_6 hgv
    | 7, _ => exact gv_at _ gvE1_7 hgv
    | 8, _ => exact gv_at _ gvE1_8 hgv
    | 9, _ => exact gv_at _ gvE1_9 hgv
    | 10, _ => exact gv_at _ gvE1_10 hgv
    | 11, _ => exact gv_at _ gvE1_11 hgv
    | 12, _ => exact gv_at _ gvE1_12 hgv
    | j + 13, hj => exact absurd hj (by omega)
  obtain ⟨kS, vS, h1, h2⟩ := vk_Sof (args := #[Value.ref b]) (s := s) (N := 2) (tm := ksM) (len := ksL) (byt := ksB) (A := fun q : Nat => s.heap.size ≤ q)
    (by intro i hi; match i, hi with | 0, _ => decide | 1, _ => decide | i + 2, hi => exact absurd hi (by omega))
    (by intro i hi; match i, hi with | 0, _ => exact gv_at 9 rfl hgv | 1, _ => exact gv_at 77 rfl hgv | i + 2, hi => exact absurd hi (by omega))
    (by intro i hi; match i, hi with | 0, _ => exact gv_at 10 rfl hgv | 1, _ => exact gv_at 78 rfl hgv | i + 2, hi => exact absurd hi (by omega))
    (by intro i hi; match i, hi with | 0, _ => exact gv_at 11 rfl hgv | 1, _ => exact gv_at 79 rfl hgv | i + 2, hi => exact absurd hi (by omega))
    (by intro i hi; match i, hi with | 0, _ => exact gv_at 12 rfl hgv | 1, _ => exact gv_at 80 rfl hgv | i + 2, hi => exact absurd hi (by omega))
    (by intro i hi; match i, hi with | 0, _ => exact hel0 | 1, _ => exact hel1 | i + 2, hi => exact absurd hi (by omega))
    (by intro i j hi hj hij; match i, hi, j, hj with | 0, _, 0, _ => exact absurd rfl hij | 1, _, 1, _ => exact absurd rfl hij | 0, _, 1, _ => exact Or.inl (gv_at 94 rfl hgv) | 1, _, 0, _ => exact Or.inr (gv_at 94 rfl hgv) | i + 2, hi, _, _ => exact absurd hi (by omega) | 0, _, j + 2, hj => exact absurd hj (by omega) | 1, _, j + 2, hj => exact absurd hj (by omega))
    hA
  refine ⟨kS, vS, h1, ?_, va_Zof (hts _ (tl2 125 rfl)) (hts _ (tl1 13 rfl)) (va_eqi (gv_at 4 rfl hgv)) hA, va_Zqof (hts _ (tl2 168 rfl)) (hts _ (tl1 17 rfl)) (gv_at 5 rfl hgv) hA, (List.forall_mem_cons.mpr ⟨va_Nw.of rfl (hts _ (tl1 66 rfl)), (List.forall_mem_cons.mpr ⟨va_Nw.of rfl (hts _ (tl1 68 rfl)), (List.forall_mem_cons.mpr ⟨va_Nw.of rfl (hts _ (tl1 70 rfl)), (List.forall_mem_cons.mpr ⟨va_Nw.of rfl (hts _ (tl1 127 rfl)), (List.forall_mem_cons.mpr ⟨va_Nw.of rfl (hts _ (tl1 129 rfl)), (List.forall_mem_cons.mpr ⟨va_Nw.of rfl (hts _ (tl1 131 rfl)), (List.forall_mem_cons.mpr ⟨va_Nw.of rfl (hts _ (tl1 133 rfl)), (fun _ h => absurd h List.not_mem_nil)⟩)⟩)⟩)⟩)⟩)⟩)⟩), (List.forall_mem_cons.mpr ⟨va_Nw.of rfl (hts _ (tl2 33 rfl)), (List.forall_mem_cons.mpr ⟨va_Nw.of rfl (hts _ (tl3 25 rfl)), (fun _ h => absurd h List.not_mem_nil)⟩)⟩), (List.forall_mem_cons.mpr ⟨va_Nw.of rfl (hts _ (tl1 33 rfl)), (List.forall_mem_cons.mpr ⟨va_Nw.of rfl (hts _ (tl1 87 rfl)), (List.forall_mem_cons.mpr ⟨va_Nw.of rfl (hts _ (tl1 97 rfl)), (List.forall_mem_cons.mpr ⟨va_Nw.of rfl (hts _ (tl1 119 rfl)), (List.forall_mem_cons.mpr ⟨va_Nw.of rfl (hts _ (tl1 122 rfl)), (List.forall_mem_cons.mpr ⟨va_Nw.of rfl (hts _ (tl1 60 rfl)), (List.forall_mem_cons.mpr ⟨va_Nw.of rfl (hts _ (tl1 116 rfl)), (fun _ h => absurd h List.not_mem_nil)⟩)⟩)⟩)⟩)⟩)⟩)⟩), (List.forall_mem_cons.mpr ⟨va_Nw.of rfl (hts _ (tl5 54 rfl)), (List.forall_mem_cons.mpr ⟨va_Nw.of rfl (hts _ (tl5 55 rfl)), (List.forall_mem_cons.mpr ⟨va_Nw.of rfl (hts _ (tl5 56 rfl)), (List.forall_mem_cons.mpr ⟨va_Nw.of rfl (hts _ (tl5 57 rfl)), (fun _ h => absurd h List.not_mem_nil)⟩)⟩)⟩)⟩), va_AO.of (A := #[Value.ref b]) (hts _ (tl1 81 rfl))⟩
  intro i hi
  match i, hi with
  | 0, _ => exact vk_R.of (hts _ (tl2 111 rfl)) (h2 0 (by omega))
  | 1, _ => exact vk_R.of (hts _ (tl2 198 rfl)) (h2 1 (by omega))
  | i + 2, hi => exact absurd hi (by omega)
theorem Inj_of {A : Nat → Prop} {ad : Nat → Nat} {n : Nat} {w : va_W} (hD : va_D A w) (hw : ∀ j, j < n → ∃ e, w[j]? = some (ad j, e)) : Inj ad n := by
  intro i j hi hj he
  obtain ⟨e1, h1⟩ := hw i hi
  obtain ⟨e2, h2⟩ := hw j hj
  exact hD.1 i j _ _ h1 h2 he
theorem arrI_at {args : Array Value} {s : State} (h : (Cond.arrayClass .int).before args s = true) : ∃ cI : ClassId, ArrOfT s cI .int ∧ va_RA s cI .int := by
  obtain ⟨cA, kA, comp, h1, h2, h3⟩ := Cond.arrayClass_spec h
  exact ⟨cA, fun n z => ⟨fun k h => (by cases h), kA, h2, comp, h3⟩, h1⟩
theorem arrF_at {args : Array Value} {s : State} {C : String} (h : (Cond.arrayOver (.object C)).before args s = true) : ∃ cF : ClassId, ArrOfT s cF (.object C) ∧ va_RA s cF (.object C) := by
  obtain ⟨comp, c, k, h1, h2, h3, h4, h5⟩ := Cond.arrayOver_spec h
  exact ⟨c, fun n z => ⟨fun k h => (by cases h), k, h3, comp, h4⟩, k, comp, h3, h4, h1, h5⟩
set_option maxHeartbeats 8000000 in
set_option maxRecDepth 100000 in
theorem law_start {p : Program} {e : Env} {s : State} {m : MethodId} {below : List Frame} {meth : Method} {c : Code} (l : Launch) {b L : Nat} {xs : Nat → Int32} (C0 : lw_At p s m meth c b L xs) (hpure : ∀ (g1 g2 : Nat → Int32), (∀ k, k < 128 → g1 k = -1) → (∀ k, k < 128 → g2 k = -1) → ∃ σ0, fL 70 L xs 0 (initC g1) (initM g2) = some (1, σ0)) : W p l e room_1 s m #[Value.ref b] below meth c s.heap [] 0 0 (lw_Z below #[Value.ref b] s) (entryFrame m ([Value.ref b] : List Value).toArray 4) := by
  obtain ⟨hx, hb, hr, hml, hown, hts0, hX, hbl, hlocks, hgv⟩ := id C0
  have hts : ∀ w ∈ GT, w.before #[Value.ref b] s = true := fun w h => hts0 w (GT_lw w h)
  obtain ⟨c0, i0, k0⟩ := u_known (C := RX1) (T := TX1) (N := 4) (n := 4) hts inX1 (hts _ gt1_59)
  obtain ⟨c1, i1, k1⟩ := u_known (C := RX2) (T := TX2) (N := 1) (n := 1) hts inX2 (hts _ gt1_29)
  obtain ⟨c2, i2, k2⟩ := u_known (C := RX3) (T := TX3) (N := 4) (n := 4) hts inX3 (hts _ gt1_121)
  obtain ⟨c3, i3, k3⟩ := u_known (C := RX5) (T := TX5) (N := 2) (n := 2) hts inX5 (hts _ gt1_46)
  obtain ⟨c4, i4, k4⟩ := u_known (C := RX6) (T := TX6) (N := 5) (n := 5) hts inX6 (hts _ gt1_93)
  obtain ⟨c5, i5, k5⟩ := u_known (C := RX7) (T := TX7) (N := 2) (n := 2) hts inX7 (hts _ gt1_115)
  obtain ⟨c6, i6, k6⟩ := u_known (C := RX8) (T := TX8) (N := 1) (n := 1) hts inX8 (hts _ gt1_83)
  obtain ⟨c7, i7, k7⟩ := u_known (C := RX9) (T := TX9) (N := 15) (n := 15) hts inX9 (hts _ gt1_21)
  obtain ⟨c8, i8, k8⟩ := u_known (C := RX10) (T := TX10) (N := 32) (n := 32) hts inX10 (hts _ gt3_238)
  obtain ⟨D, hKc⟩ : ∃ D : va_G, ∀ (k : Nat) (q : vw_C), vwCl[k]? = some q → u_Kn s q.1 q.2.1 q.2.2 (D.1 k) (D.2 k) := by
    refine ⟨(fun k => match k with | 0 => c0 | 1 => c1 | 2 => c2 | 3 => c3 | 4 => c4 | 5 => c5 | 6 => c6 | 7 => c7 | _ => c8, fun k => match k with | 0 => i0 | 1 => i1 | 2 => i2 | 3 => i3 | 4 => i4 | 5 => i5 | 6 => i6 | 7 => i7 | _ => i8), ?_⟩
    intro k q hq
    match k, hq with
    | 0, hq => cases hq; exact k0
    | 1, hq => cases hq; exact k1
    | 2, hq => cases hq; exact k2
    | 3, hq => cases hq; exact k3
    | 4, hq => cases hq; exact k4
    | 5, hq => cases hq; exact k5
    | 6, hq => cases hq; exact k6
    | 7, hq => cases hq; exact k7
    | 8, hq => cases hq; exact k8
    | k + 9, hq => simp [vwCl] at hq
  obtain ⟨cI, aI⟩ := arrI_at (hts0 _ (tl1 44 rfl))
  obtain ⟨cF, aF⟩ := arrF_at (hts0 _ (tl1 81 rfl))
  have hK : va_K D vwCl (tyC cI cF) s := by
    refine ⟨hKc, fun k q hq => ?_⟩
    match k, hq with
    | 0, hq => cases hq; exact aI
    | 1, hq => cases hq; exact aF
    | k + 2, hq => simp at hq
  obtain ⟨kS, vS, hKS⟩ := KS_start hts0 hgv
  have C : Cx p c code 4 s m #[Value.ref b] RL D (tyC cI cF) (fun q : Nat => s.heap.size ≤ q) kS vS := ⟨hx, hb, hml, hown, hts, hK, hKS⟩
  have hA : ∀ q : Nat, s.heap.size ≤ q → (fun q : Nat => s.heap.size ≤ q) q := fun _ h => h
  have hS : va_S (fun q : Nat => s.heap.size ≤ q) s.heap s.heap [] := va_S.rf
  have hP : va_P D vwCl [] s.heap := fun k q h => by simp at h
  have hD : va_D (fun q : Nat => s.heap.size ≤ q) [] := ⟨fun i j p q h => by simp at h, fun k q h => by simp at h⟩
  have hl := lv_entry ([.ref b]) (n := 4) (Nat.le_of_ble_eq_true rfl)
  rw [lg_entry_eq]
  generalize (lg_sl ([.ref b]) ++ List.replicate (4 - (lg_sl ([.ref b])).length) Slot.unset).toArray = ls at hl ⊢
  have hl : lv_has ls 4 [(0, .ref b)] := hl
  refine newO C hA hP hD hS (fs := [.null, .null, .null, .null, .null, .null, .int 0, .int 0, .int 0, .int 0, .int 0, .int 0, .int 0, .int 0, .int 0]) 7 rfl inX9 tyX9 tyX9_ok ⟨gt1_20, gt1_21, gt1_1⟩ (fun j hj => by match j, hj with | 0, _ => rfl | 1, _ => rfl | 2, _ => rfl | 3, _ => rfl | 4, _ => rfl | 5, _ => rfl | 6, _ => rfl | 7, _ => rfl | 8, _ => rfl | 9, _ => rfl | 10, _ => rfl | 11, _ => rfl | 12, _ => rfl | 13, _ => rfl | 14, _ => rfl | j + 15, hj => exact absurd hj (by omega)) ⟨Nat.le_of_ble_eq_true rfl, Nat.le_of_ble_eq_true rfl⟩ dL_law_0 (fun h0 H hP hD hS => ?_)
  have hP : va_P D vwCl [(h0, .inr (7, [.null, .null, .null, .null, .null, .null, .int 0, .int 0, .int 0, .int 0, .int 0, .int 0, .int 0, .int 0, .int 0]))] H := hP
  have hD : va_D (fun q : Nat => s.heap.size ≤ q) [(h0, .inr (7, [.null, .null, .null, .null, .null, .null, .int 0, .int 0, .int 0, .int 0, .int 0, .int 0, .int 0, .int 0, .int 0]))] := hD
  refine lv_dup hx hb dL_law_3 rfl ?_
  refine ctorI (As := []) (rest := [.ref h0]) (wc := [(h0, .inr (7, [.null, .null, .null, .null, .null, .null, .int 0, .int 0, .int 0, .int 0, .int 0, .int 0, .int 0, .int 0, .int 0]))]) (wr := []) C hA (kX9_init (h0 := h0)) ⟨gt1_22, gt1_23, gt1_1, gt1_24⟩ rfl okX9_init ⟨Nat.le_of_ble_eq_true rfl, Nat.le_of_ble_eq_true rfl⟩ rfl hl.1 rfl (Nat.le_of_ble_eq_true rfl) hP hD hS [0] [] rfl rfl (by decide) rfl (by decide) (by decide) ⟨Nat.le_of_ble_eq_true rfl, Nat.le_of_ble_eq_true rfl⟩ dL_law_4 (fun u H locs hP hD hS => ?_)
  obtain ⟨A1, g1⟩ := u
  have hP : va_P D vwCl (wC (adL (h0 :: A1)) cI cF (initC g1.1)) H := hP
  have hD : va_D (fun q : Nat => s.heap.size ≤ q) (wC (adL (h0 :: A1)) cI cF (initC g1.1)) := hD
  refine lv_astore_n (lv' := [(1, .ref h0), (0, .ref b)]) hx hb dL_law_7 rfl hl (by decide) rfl (fun ls hl => ?_)
  refine newO C hA hP hD hS (fs := [.int 0, .int 0, .int 0, .int 0, .int 0, .null, .int 0, .int 0, .null, .int 0, .null, .int 0, .int 0, .int 0, .int 0, .int 0, .int 0, .int 0, .int 0, .int 0, .int 0, .int 0, .int 0, .int 0, .int 0, .null, .int 0, .int 0, .int 0, .int 0, .int 0, .int 0]) 8 rfl inX10 tyX10 tyX10_ok ⟨gt3_237, gt3_238, gt1_11⟩ (fun j hj => by match j, hj with | 0, _ => rfl | 1, _ => rfl | 2, _ => rfl | 3, _ => rfl | 4, _ => rfl | 5, _ => rfl | 6, _ => rfl | 7, _ => rfl | 8, _ => rfl | 9, _ => rfl | 10, _ => rfl | 11, _ => rfl | 12, _ => rfl | 13, _ => rfl | 14, _ => rfl | 15, _ => rfl | 16, _ => rfl | 17, _ => rfl | 18, _ => rfl | 19, _ => rfl | 20, _ => rfl | 21, _ => rfl | 22, _ => rfl | 23, _ => rfl | 24, _ => rfl | 25, _ => rfl | 26, _ => rfl | 27, _ => rfl | 28, _ => rfl | 29, _ => rfl | 30, _ => rfl | 31, _ => rfl | j + 32, hj => exact absurd hj (by omega)) ⟨Nat.le_of_ble_eq_true rfl, Nat.le_of_ble_eq_true rfl⟩ dL_law_8 (fun o1 H hP hD hS => ?_)
  refine lv_dup hx hb dL_law_11 rfl ?_
  refine ctorI (As := []) (rest := [.ref o1]) (wc := [(o1, .inr (8, [.int 0, .int 0, .int 0, .int 0, .int 0, .null, .int 0, .int 0, .null, .int 0, .null, .int 0, .int 0, .int 0, .int 0, .int 0, .int 0, .int 0, .int 0, .int 0, .int 0, .int 0, .int 0, .int 0, .int 0, .null, .int 0, .int 0, .int 0, .int 0, .int 0, .int 0]))]) (wr := (wC (adL (h0 :: A1)) cI cF (initC g1.1))) C hA (kX10_init (h0 := o1)) ⟨gt3_239, gt4_0, gt1_11, gt4_1⟩ rfl okX10_init ⟨Nat.le_of_ble_eq_true rfl, Nat.le_of_ble_eq_true rfl⟩ rfl hl.1 rfl (Nat.le_of_ble_eq_true rfl) hP hD hS [18] [0, 1, 2, 3, 4, 5, 6, 7, 8, 9, 10, 11, 12, 13, 14, 15, 16, 17] rfl rfl (by decide) rfl (by decide) (by decide) ⟨Nat.le_of_ble_eq_true rfl, Nat.le_of_ble_eq_true rfl⟩ dL_law_12 (fun u H locs hP hD hS => ?_)
  obtain ⟨A2, g2⟩ := u
  have hP : va_P D vwCl (wC (adL (h0 :: A1)) cI cF (initC g1.1) ++ wM (adL (o1 :: A2)) cI (initM g2.1)) H := hP
  have hD : va_D (fun q : Nat => s.heap.size ≤ q) (wC (adL (h0 :: A1)) cI cF (initC g1.1) ++ wM (adL (o1 :: A2)) cI (initM g2.1)) := hD
  refine lv_astore_n (lv' := [(2, .ref o1), (1, .ref h0), (0, .ref b)]) hx hb dL_law_15 rfl hl (by decide) rfl (fun ls hl => ?_)
  refine lv_iconst (v := 0) hx hb dL_law_16 (by decide) ?_
  refine lv_istore_n (lv' := [(3, .int 0), (2, .ref o1), (1, .ref h0), (0, .ref b)]) hx hb dL_law_17 rfl hl (by decide) rfl (fun ls hl => ?_)
  have hI : Inj (adL (h0 :: A1)) 18 := Inj_of hD (fun j hj => by match j, hj with | 0, _ => exact ⟨_, rfl⟩ | 1, _ => exact ⟨_, rfl⟩ | 2, _ => exact ⟨_, rfl⟩ | 3, _ => exact ⟨_, rfl⟩ | 4, _ => exact ⟨_, rfl⟩ | 5, _ => exact ⟨_, rfl⟩ | 6, _ => exact ⟨_, rfl⟩ | 7, _ => exact ⟨_, rfl⟩ | 8, _ => exact ⟨_, rfl⟩ | 9, _ => exact ⟨_, rfl⟩ | 10, _ => exact ⟨_, rfl⟩ | 11, _ => exact ⟨_, rfl⟩ | 12, _ => exact ⟨_, rfl⟩ | 13, _ => exact ⟨_, rfl⟩ | 14, _ => exact ⟨_, rfl⟩ | 15, _ => exact ⟨_, rfl⟩ | 16, _ => exact ⟨_, rfl⟩ | 17, _ => exact ⟨_, rfl⟩ | j + 18, hj => exact absurd hj (by omega))
  have key : ∀ i j : Nat, i < 18 → j < 5 → (adL (h0 :: A1)) i ≠ (adL (o1 :: A2)) j := by
    intro i j hi hj he
    have h1 : ∃ x, (wC (adL (h0 :: A1)) cI cF (initC g1.1) ++ wM (adL (o1 :: A2)) cI (initM g2.1))[i]? = some ((adL (h0 :: A1)) i, x) := by match i, hi with | 0, _ => exact ⟨_, rfl⟩ | 1, _ => exact ⟨_, rfl⟩ | 2, _ => exact ⟨_, rfl⟩ | 3, _ => exact ⟨_, rfl⟩ | 4, _ => exact ⟨_, rfl⟩ | 5, _ => exact ⟨_, rfl⟩ | 6, _ => exact ⟨_, rfl⟩ | 7, _ => exact ⟨_, rfl⟩ | 8, _ => exact ⟨_, rfl⟩ | 9, _ => exact ⟨_, rfl⟩ | 10, _ => exact ⟨_, rfl⟩ | 11, _ => exact ⟨_, rfl⟩ | 12, _ => exact ⟨_, rfl⟩ | 13, _ => exact ⟨_, rfl⟩ | 14, _ => exact ⟨_, rfl⟩ | 15, _ => exact ⟨_, rfl⟩ | 16, _ => exact ⟨_, rfl⟩ | 17, _ => exact ⟨_, rfl⟩ | i + 18, hi => exact absurd hi (by omega)
    have h2 : ∃ x, (wC (adL (h0 :: A1)) cI cF (initC g1.1) ++ wM (adL (o1 :: A2)) cI (initM g2.1))[18 + j]? = some ((adL (o1 :: A2)) j, x) := by match j, hj with | 0, _ => exact ⟨_, rfl⟩ | 1, _ => exact ⟨_, rfl⟩ | 2, _ => exact ⟨_, rfl⟩ | 3, _ => exact ⟨_, rfl⟩ | 4, _ => exact ⟨_, rfl⟩ | j + 5, hj => exact absurd hj (by omega)
    obtain ⟨x1, h1⟩ := h1
    obtain ⟨x2, h2⟩ := h2
    have h3 := hD.1 i (18 + j) _ _ h1 h2 he
    omega
  have hJ : Inj (adL (o1 :: A2)) 5 := by
    intro i j hi hj he
    have h1 : ∀ j, j < 5 → ∃ x, (wC (adL (h0 :: A1)) cI cF (initC g1.1) ++ wM (adL (o1 :: A2)) cI (initM g2.1))[18 + j]? = some ((adL (o1 :: A2)) j, x) := by intro j hj; match j, hj with | 0, _ => exact ⟨_, rfl⟩ | 1, _ => exact ⟨_, rfl⟩ | 2, _ => exact ⟨_, rfl⟩ | 3, _ => exact ⟨_, rfl⟩ | 4, _ => exact ⟨_, rfl⟩ | j + 5, hj => exact absurd hj (by omega)
    obtain ⟨x1, g1⟩ := h1 i hi
    obtain ⟨x2, g2⟩ := h1 j hj
    have h3 := hD.1 _ _ _ _ g1 g2 he
    omega
  have hPc := hP.sub (ws' := wC (adL (h0 :: A1)) cI cF (initC g1.1)) [0, 1, 2, 3, 4, 5, 6, 7, 8, 9, 10, 11, 12, 13, 14, 15, 16, 17] rfl
  have hPm := hP.sub (ws' := wM (adL (o1 :: A2)) cI (initM g2.1)) [18, 19, 20, 21, 22] rfl
  have hDc := hD.sub (ws' := wC (adL (h0 :: A1)) cI cF (initC g1.1)) [0, 1, 2, 3, 4, 5, 6, 7, 8, 9, 10, 11, 12, 13, 14, 15, 16, 17] (by decide) rfl
  have hDm := hD.sub (ws' := wM (adL (o1 :: A2)) cI (initM g2.1)) [18, 19, 20, 21, 22] (by decide) rfl
  have hA1 : ∀ q, inA (adL (h0 :: A1)) 18 q → s.heap.size ≤ q := by
    rintro q ⟨j, hj, rfl⟩
    have h1 : ∃ x, (wC (adL (h0 :: A1)) cI cF (initC g1.1))[j]? = some ((adL (h0 :: A1)) j, x) := by match j, hj with | 0, _ => exact ⟨_, rfl⟩ | 1, _ => exact ⟨_, rfl⟩ | 2, _ => exact ⟨_, rfl⟩ | 3, _ => exact ⟨_, rfl⟩ | 4, _ => exact ⟨_, rfl⟩ | 5, _ => exact ⟨_, rfl⟩ | 6, _ => exact ⟨_, rfl⟩ | 7, _ => exact ⟨_, rfl⟩ | 8, _ => exact ⟨_, rfl⟩ | 9, _ => exact ⟨_, rfl⟩ | 10, _ => exact ⟨_, rfl⟩ | 11, _ => exact ⟨_, rfl⟩ | 12, _ => exact ⟨_, rfl⟩ | 13, _ => exact ⟨_, rfl⟩ | 14, _ => exact ⟨_, rfl⟩ | 15, _ => exact ⟨_, rfl⟩ | 16, _ => exact ⟨_, rfl⟩ | 17, _ => exact ⟨_, rfl⟩ | i + 18, hi => exact absurd hi (by omega)
    obtain ⟨x, h1⟩ := h1
    exact hDc.2 j _ h1
  have hA2 : ∀ q, inA (adL (o1 :: A2)) 5 q → s.heap.size ≤ q := by
    rintro q ⟨j, hj, rfl⟩
    have h1 : ∃ x, (wM (adL (o1 :: A2)) cI (initM g2.1))[j]? = some ((adL (o1 :: A2)) j, x) := by match j, hj with | 0, _ => exact ⟨_, rfl⟩ | 1, _ => exact ⟨_, rfl⟩ | 2, _ => exact ⟨_, rfl⟩ | 3, _ => exact ⟨_, rfl⟩ | 4, _ => exact ⟨_, rfl⟩ | i + 5, hi => exact absurd hi (by omega)
    obtain ⟨x, h1⟩ := h1
    exact hDm.2 j _ h1
  have hO2 : ∀ (μ : St) (k : Nat) (q : Nat × va_E), (wM (adL (o1 :: A2)) cI μ)[k]? = some q → ¬ inA (adL (h0 :: A1)) 18 q.1 := by
    intro μ k q hq h
    obtain ⟨i, hi, h⟩ := h
    obtain ⟨j, hj, h2⟩ := (dM hJ μ).2 k q hq
    exact key i j hi hj (by rw [← h, ← h2])
  have hO1 : ∀ (σ : St) (k : Nat) (q : Nat × va_E), (wC (adL (h0 :: A1)) cI cF σ)[k]? = some q → ¬ inA (adL (o1 :: A2)) 5 q.1 := by
    intro σ k q hq h
    obtain ⟨j, hj, h⟩ := h
    obtain ⟨i, hi, h2⟩ := (dC hI σ).2 k q hq
    exact key i j hi hj (by rw [← h, ← h2])
  obtain ⟨σ0, hf⟩ := hpure g1.1 g2.1 g1.2 g2.2
  refine W.widen (k := 600000) (n := 7302250) (Nat.le_of_ble_eq_true rfl) (Nat.le_of_ble_eq_true rfl) ?_
  exact law_loop C0 C hI hJ hA1 hA2 hO2 hO1 70 0 _ _ _ _ _ hPc hPm hS (lv_sub hl [3, 2, 1, 0] rfl) hf
