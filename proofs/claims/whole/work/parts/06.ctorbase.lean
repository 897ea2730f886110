/-! ===== constructors: a world grows ===== -/
def MK (l : Launch) (D : va_G) (tys : List (ClassId × FieldType)) (kS vS : Nat → Nat) (y : MethodName) (cy : ByteArray) (mL fr lo : Nat) (As : List Value) (wc : va_W) {S : Type} (w1 : S → va_W) (mc ms : Nat) : Prop :=
  ∀ sz : Nat, Met l y (.code y cy mL none :: GT) ({ frames := fr, cells := mc, slots := ms, locals := lo } : Room) (va_Pc As (fun U => U.heap.size = sz ∧ va_P D vwCl wc U.heap ∧ va_K D vwCl tys U ∧ va_D (va_A wc sz) wc ∧ KS (va_A wc sz) kS vS U U.heap)) (va_Qv (fun (_ : S) => True) (fun u t => va_P D vwCl (w1 u) t.heap ∧ va_K D vwCl tys t ∧ va_D (va_A wc sz) (w1 u)) (va_A wc sz)) mc ms (va_A wc sz)
set_option maxHeartbeats 4000000 in
theorem MK.of {l : Launch} {D : va_G} {tys : List (ClassId × FieldType)} {kS vS : Nat → Nat} {y : MethodName} {cy : ByteArray} {mL fr lo : Nat} {As : List Value} {wc : va_W} {S : Type} {w1 : S → va_W} {mc ms : Nat} (hy : plainName y.cls = true) (hL : (lg_sl As).length ≤ mL)
    (body : ∀ (p : Program) (e : Env) (s : State) (m : MethodId) (args : Array Value) (below : List Frame) (meth : Method) (c : Code) (ls : Array Slot) (Q : State → Prop) (A : Nat → Prop), MQ below (va_Qv (fun (_ : S) => True) (fun u t => va_P D vwCl (w1 u) t.heap ∧ va_K D vwCl tys t ∧ va_D A (w1 u)) A) args s mc ms A = Q → Cx p c cy mL s m args y.cls D tys A kS vS → meth.sig.returnType = none → meth.locks = false → meth.name = y.name → (∀ q, s.heap.size ≤ q → A q) → va_P D vwCl wc s.heap → va_D A wc → va_S A s.heap s.heap [] → lv_has ls mL (lv_args 0 As) →
      W p l e ({ frames := fr, cells := mc, slots := ms, locals := lo } : Room) s m args below meth c s.heap [] 0 0 Q (F0 m 0 ls [])) : MK l D tys kS vS y cy mL fr lo As wc w1 mc ms := by
  intro sz
  refine Met.ofW (cc := cy) (maxL := mL) (ret := none) hy rfl ?_
  intro p e s m args below meth c s₁ B hml hv
  obtain ⟨rfl, hsz, hP, hK, hD, hKS⟩ := hv
  subst hsz
  have hts := atoms_spec (ws := .code y cy mL none :: GT) B.pre
  rw [lg_entry_eq]
  exact body p e s m _ below meth c _ _ _ rfl ⟨B.exec, B.bytes, hml, findClass_of_methodNamed B.named, fun w hw => hts w (List.mem_cons_of_mem _ hw), hK, hKS⟩ B.returns B.notSynchronized (name_of_methodNamed B.named B.method).1 (fun q h => Or.inr h) hP hD va_S.rf (lv_entry As hL)
section CTOR
variable {p : Program} {l : Launch} {e : Env} {R : Room} {s : State} {m : MethodId} {args : Array Value} {below : List Frame} {meth : Method} {c : Code} {H : Heap} {locs : List Loc} {Q : State → Prop}
variable {cc : ByteArray} {pc nL : Nat} {ls : Array Slot} {rest : List Value} {D : va_G} {tys : List (ClassId × FieldType)} {A : Nat → Prop} {kS vS : Nat → Nat} {own : String} {w w' : va_W} {a cells slots : Nat}
theorem MK.ret {S : Type} {w1 : S → va_W} {mc ms : Nat} (u : S) (hQ : MQ below (va_Qv (fun (_ : S) => True) (fun u t => va_P D vwCl (w1 u) t.heap ∧ va_K D vwCl tys t ∧ va_D A (w1 u)) A) args s mc ms A = Q) (C : Cx p c cc nL s m args own D tys A kS vS) (hr : meth.sig.returnType = none) (hlocks : meth.locks = false) (hP : va_P D vwCl (w1 u) H) (hD : va_D A (w1 u)) (hS : va_S A s.heap H locs) (hcs : cells ≤ mc ∧ slots ≤ ms) (hd : decode cc pc = .ok (.return_, 1)) :
    W p l e R s m args below meth c H locs cells slots Q (F0 m pc ls []) := by
  subst hQ
  obtain ⟨hx, hb, hml, hown, hts, hK, hKS⟩ := C
  refine W.widen (k := mc) (n := ms) hcs.1 hcs.2 ?_
  exact W.vret hx hb hr (fun t ht hW => ⟨⟨u, rfl, trivial, by rw [ht]; exact hP, va_K.moved hW.alike hK, hD⟩, hS.F ht⟩) hS.2.2 hd hlocks
theorem oInit (C : Cx p c cc nL s m args own D tys A kS vS) {idx : Nat} (hg : Cond.methodLink own idx objectInit ∈ GT ∧ Cond.instanceMethod objectInit ∈ GT ∧ Cond.code objectInit ⟨#[0xb1]⟩ 1 none ∈ GT) (hls : ls.size = nL) (hR : 1 ≤ R.frames ∧ (rest.map fun v => v.category).sum + 12 ≤ R.locals) (hd : decode cc pc = .ok (.invokespecial idx, 3))
    (kk : W p l e R s m args below meth c H locs cells slots Q (F0 m (pc + 3) ls rest)) : W p l e R s m args below meth c H locs cells slots Q (F0 m pc ls (.ref a :: rest)) := by
  obtain ⟨hx, hb, hml, hown, hts, hK, hKS⟩ := C
  exact W.objInit hx hb hown (hts _ hg.1) (hts _ hg.2.1) (hts _ hg.2.2) (g := F0 m pc ls (.ref a :: rest)) rfl (hls.trans hml.symm) rfl hd hR.1 (by show 2 * 0 + _ + 12 ≤ _; omega) kk
theorem newO (C : Cx p c cc nL s m args own D tys A kS vS) (hA : ∀ q, s.heap.size ≤ q → A q) (hP : va_P D vwCl w H) (hD : va_D A w) (hS : va_S A s.heap H locs) {cN : String} {T : u_T} {N idx : Nat} {fs : List Value} (ci : Nat) (hc : vwCl[ci]? = some (cN, T, N)) (hin : ∀ x ∈ u_ws cN T N, x ∈ GT) (ty : Nat → FieldType) (hty : ∀ k, k < N → parseFieldDescriptor (T k).2.2.1 = some (ty k)) (hg : Cond.classLink own idx cN ∈ GT ∧ Cond.instantiable cN N ∈ GT ∧ Cond.initialized cN ∈ GT) (hfs : ∀ j, j < N → defaultValue (ty j) = vp_V fs j) (hcs : cells + 1 ≤ R.cells ∧ slots + N ≤ R.slots) (hd : decode cc pc = .ok (.new idx, 3))
    (kk : ∀ (q : Nat) (H1 : Heap), va_P D vwCl (w ++ [(q, .inr (ci, fs))]) H1 → va_D A (w ++ [(q, .inr (ci, fs))]) → va_S A s.heap H1 locs → W p l e R s m args below meth c H1 locs (cells + 1) (slots + N) Q (F0 m (pc + 3) ls (.ref q :: rest))) : W p l e R s m args below meth c H locs cells slots Q (F0 m pc ls rest) := by
  obtain ⟨hx, hb, hml, hown, hts, hK, hKS⟩ := C
  exact va_new hx hb hts hin ty hty hown (hts _ hg.1) (hts _ hg.2.1) (hts _ hg.2.2) hK hP hD hS hA hc hfs hcs.1 hcs.2 hd kk
theorem newA {cI cF : ClassId} (C : Cx p c cc nL s m args own D (tyC cI cF) A kS vS) (hA : ∀ q, s.heap.size ≤ q → A q) (hP : va_P D vwCl w H) (hD : va_D A w) (hS : va_S A s.heap H locs) (ha : Cond.arrayClass .int ∈ GT) {n : Int32} (N : Nat) (hn : ¬ n < 0) (hN : n.toNatClampNeg = N) (hbytes : N * componentBytes .int ≤ 536870912) (hcs : cells + 1 ≤ R.cells ∧ slots + N ≤ R.slots) (hd : decode cc pc = .ok (.newarray .int, 2))
    (kk : ∀ (q : Nat) (H1 : Heap), va_P D vwCl (w ++ [(q, .inl (cI, (N, .inl (fun _ => 0))))]) H1 → va_D A (w ++ [(q, .inl (cI, (N, .inl (fun _ => 0))))]) → va_S A s.heap H1 locs → W p l e R s m args below meth c H1 locs (cells + 1) (slots + N) Q (F0 m (pc + 2) ls (.ref q :: rest))) : W p l e R s m args below meth c H locs cells slots Q (F0 m pc ls (.int n :: rest)) := by
  obtain ⟨hx, hb, hml, hown, hts, hK, hKS⟩ := C
  refine va_newa (atype := .int) (a0 := (N, .inl (fun _ => 0))) hx hb (hts _ ha) rfl hK hP hD hS hA (fun _ => rfl) hn hN hbytes hcs.1 hcs.2 hd (fun q cA H1 hK1 hP1 hD1 hS1 => ?_)
  have e1 : s.vm.findClass ("[" ++ (FieldType.int).toString) = some cI := (hK.2 0 (cI, .int) rfl).2
  have e2 : s.vm.findClass ("[" ++ (FieldType.int).toString) = some cA := (hK1.2 2 (cA, .int) rfl).2
  cases e1.symm.trans e2
  exact kk q H1 hP1 hD1 hS1
theorem newQ {cI cF : ClassId} (C : Cx p c cc nL s m args own D (tyC cI cF) A kS vS) (hA : ∀ q, s.heap.size ≤ q → A q) (hP : va_P D vwCl w H) (hD : va_D A w) (hS : va_S A s.heap H locs) {idx : Nat} (hg : Cond.classLink own idx "ResumableCoder$Form" ∈ GT) {n : Int32} (N : Nat) (hn : ¬ n < 0) (hN : n.toNatClampNeg = N) (hbytes : N * 4 ≤ 536870912) (hcs : cells + 1 ≤ R.cells ∧ slots + N ≤ R.slots) (hd : decode cc pc = .ok (.anewarray idx, 3))
    (kk : ∀ (q : Nat) (H1 : Heap), va_P D vwCl (w ++ [(q, .inl (cF, (N, .inr (.inr (.inr (.inr (fun _ => none)))))))]) H1 → va_D A (w ++ [(q, .inl (cF, (N, .inr (.inr (.inr (.inr (fun _ => none)))))))]) → va_S A s.heap H1 locs → W p l e R s m args below meth c H1 locs (cells + 1) (slots + N) Q (F0 m (pc + 3) ls (.ref q :: rest))) : W p l e R s m args below meth c H locs cells slots Q (F0 m pc ls (.int n :: rest)) := by
  obtain ⟨hx, hb, hml, hown, hts, hK, hKS⟩ := C
  refine va_newq (C := "ResumableCoder$Form") hx hb hown (hts _ hg) hKS.2.2.2.2.2.2.2.2 hK hP hD hS hA hn hN hbytes hcs.1 hcs.2 hd (fun q cA H1 hK1 hP1 hD1 hS1 => ?_)
  obtain ⟨kA, comp, -, -, -, e1⟩ := (hK.2 1 (cF, .object "ResumableCoder$Form") rfl).2
  obtain ⟨kA2, comp2, -, -, -, e2⟩ := (hK1.2 2 (cA, .object "ResumableCoder$Form") rfl).2
  cases e1.symm.trans e2
  exact kk q H1 hP1 hD1 hS1
theorem getK (C : Cx p c cc nL s m args own D tys A kS vS) (hP : va_P D vwCl w H) {cN ref : String} {T : u_T} {N ci idx : Nat} {fs : List Value} {v : Value} (q0 k : Nat) (he : w[q0]? = some (a, .inr (ci, fs))) (hc : vwCl[ci]? = some (cN, T, N)) (hin : ∀ x ∈ u_ws cN T N, x ∈ GT) (hk : k < N) (hl : (Cond.fieldLink own idx ref (T k).2.1 (T k).2.2.1) ∈ GT) (href : (T k).1 = ref) (hv : fs[k]? = some v) (hd : decode cc pc = .ok (.getfield idx, 3))
    (kk : W p l e R s m args below meth c H locs cells slots Q (F0 m (pc + 3) ls (v :: rest))) : W p l e R s m args below meth c H locs cells slots Q (F0 m pc ls (.ref a :: rest)) := by
  obtain ⟨hx, hb, hml, hown, hts, hK, hKS⟩ := C
  subst href
  exact va_get hx hb hts hin hown hK hP q0 he hc k hk (hts _ hl) (fun _ h9 => h9) hv hd kk
theorem putK (C : Cx p c cc nL s m args own D tys A kS vS) (hP : va_P D vwCl w H) (hD : va_D A w) (hS : va_S A s.heap H locs) (w' : va_W) {cN ref : String} {T : u_T} {N ci idx : Nat} {fs : List Value} {v : Value} (q0 k : Nat) (he : w[q0]? = some (a, .inr (ci, fs))) (hc : vwCl[ci]? = some (cN, T, N)) (hin : ∀ x ∈ u_ws cN T N, x ∈ GT) (ty0 : Nat → FieldType) (hty : ∀ k, k < N → parseFieldDescriptor (T k).2.2.1 = some (ty0 k)) (hnm : ∀ a, a < N → ∀ b, b < N → a ≠ b → (T a).2.1 ≠ (T b).2.1) (hk : k < N) (hl : (Cond.fieldLink own idx ref (T k).2.1 (T k).2.2.1) ∈ GT) (href : (T k).1 = ref) (hfin : (T k).2.2.2 = false) (hn : narrow (ty0 k) v = v) (hfit : fits (ty0 k) v = true) (hlen : k < fs.length) (hw' : w.set q0 (a, .inr (ci, fs.set k v)) = w') (hd : decode cc pc = .ok (.putfield idx, 3))
    (kk : ∀ (H1 : Heap) (locs1 : List Loc), va_P D vwCl w' H1 → va_D A w' → va_S A s.heap H1 locs1 → W p l e R s m args below meth c H1 locs1 cells slots Q (F0 m (pc + 3) ls rest)) : W p l e R s m args below meth c H locs cells slots Q (F0 m pc ls (v :: .ref a :: rest)) := by
  obtain ⟨hx, hb, hml, hown, hts, hK, hKS⟩ := C
  subst href
  subst hw'
  exact va_put hx hb hts hin ty0 hty hnm hown hK hP hD hS q0 he hc k hk (hts _ hl) (fun _ h9 => h9) hfin (hty k hk) hn hfit hlen hd kk
theorem putKF (C : Cx p c cc nL s m args own D tys A kS vS) (hP : va_P D vwCl w H) (hD : va_D A w) (hS : va_S A s.heap H locs) (w' : va_W) {cN ref : String} {T : u_T} {N ci idx : Nat} {fs : List Value} {v : Value} (q0 k : Nat) (he : w[q0]? = some (a, .inr (ci, fs))) (hc : vwCl[ci]? = some (cN, T, N)) (hin : ∀ x ∈ u_ws cN T N, x ∈ GT) (ty0 : Nat → FieldType) (hty : ∀ k, k < N → parseFieldDescriptor (T k).2.2.1 = some (ty0 k)) (hnm : ∀ a, a < N → ∀ b, b < N → a ≠ b → (T a).2.1 ≠ (T b).2.1) (hk : k < N) (hl : (Cond.fieldLink own idx ref (T k).2.1 (T k).2.2.1) ∈ GT) (href : (T k).1 = ref) (hfin : (T k).2.2.2 = true) (hin2 : meth.name = "<init>") (hdecl : (T k).1 = own) (hn : narrow (ty0 k) v = v) (hfit : fits (ty0 k) v = true) (hlen : k < fs.length) (hw' : w.set q0 (a, .inr (ci, fs.set k v)) = w') (hd : decode cc pc = .ok (.putfield idx, 3))
    (kk : ∀ (H1 : Heap) (locs1 : List Loc), va_P D vwCl w' H1 → va_D A w' → va_S A s.heap H1 locs1 → W p l e R s m args below meth c H1 locs1 cells slots Q (F0 m (pc + 3) ls rest)) : W p l e R s m args below meth c H locs cells slots Q (F0 m pc ls (v :: .ref a :: rest)) := by
  obtain ⟨hx, hb, hml, hown, hts, hK, hKS⟩ := C
  subst href
  subst hw'
  exact va_putF hx hb hts hin ty0 hty hnm hown hK hP hD hS q0 he hc k hk (hts _ hl) (fun _ h9 => h9) hfin hin2 hdecl (hty k hk) hn hfit hlen hd kk
theorem astK {cI cF : ClassId} (C : Cx p c cc nL s m args own D (tyC cI cF) A kS vS) (hP : va_P D vwCl w H) (hD : va_D A w) (hS : va_S A s.heap H locs) (w' : va_W) (q0 qk : Nat) {ci n v : Nat} {vs : List Value} {f : Nat → Option Nat} {cN : String} {T : u_T} {N : Nat} (ha : w[q0]? = some (a, .inl (cF, (n, .inr (.inr (.inr (.inr f))))))) (hca : cN ∈ nwC) (hv : w[qk]? = some (v, .inr (ci, vs))) (hc : vwCl[ci]? = some (cN, T, N)) {i : Int32} (hin : vp_in i n) (hw' : w.set q0 (a, .inl (cF, (n, .inr (.inr (.inr (.inr (va_up f i.toNatClampNeg (some v)))))))) = w') (hd : decode cc pc = .ok (.aastore, 1))
    (kk : ∀ (H1 : Heap) (locs1 : List Loc), va_P D vwCl w' H1 → va_D A w' → va_S A s.heap H1 locs1 → W p l e R s m args below meth c H1 locs1 cells slots Q (F0 m (pc + 1) ls rest)) : W p l e R s m args below meth c H locs cells slots Q (F0 m pc ls (.ref v :: .int i :: .ref a :: rest)) := by
  obtain ⟨hx, hb, hml, hown, hts, hK, hKS⟩ := C
  subst hw'
  exact va_astqO (r := (cN, T, N)) (E := "ResumableCoder$Form") hx hb hK hP hD hS q0 1 qk ci ha rfl (hKS.2.2.2.2.2.2.2.1 _ hca) hv hc hin hd kk
theorem KS_call {wc : va_W} {U : State} (C : Cx p c cc nL s m args own D tys A kS vS) (hS : va_S A s.heap H locs) (hF : ∀ q, va_A wc H.size q → A q) (hU : U.heap = H) (hW : s.WarmedH U.vm) : KS (va_A wc H.size) kS vS U U.heap := (KS.pass C.2.2.2.2.2.2 hS hU hW).narrow hF
theorem MK_blind {wc : va_W} {As : List Value} {sz : Nat} : FrameBlind (va_Pc As (fun U => U.heap.size = sz ∧ va_P D vwCl wc U.heap ∧ va_K D vwCl tys U ∧ va_D (va_A wc sz) wc ∧ KS (va_A wc sz) kS vS U U.heap)) := fun a U g mk q => by
  obtain ⟨q0, q1, qP, qK, qD, qS⟩ := q
  exact ⟨q0, q1, qP, va_K.moved (u := U) (U := U.calling g mk a) (Vm.Alike.refl U.vm) qK, qD, KS.same (u := U) (U := U.calling g mk a) rfl qS⟩
set_option maxHeartbeats 2000000 in
theorem ctorI {S : Type} {y : MethodName} {cy : ByteArray} {mL fr lo n idx b mc ms : Nat} {As st0 : List Value} {wc wr : va_W} {w1 : S → va_W} (C : Cx p c cc nL s m args own D tys A kS vS) (hA : ∀ q, s.heap.size ≤ q → A q) (hM : MK l D tys kS vS y cy mL fr lo (.ref b :: As) wc w1 mc ms) (hg : Cond.methodLink own idx y ∈ GT ∧ Cond.instanceMethod y ∈ GT ∧ Cond.initialized y.cls ∈ GT ∧ Cond.code y cy mL none ∈ GT) (hy1 : y.name = "<init>") (hy : okY y n) (hR : fr + 1 ≤ R.frames ∧ 8 + (mL + 11) + lo ≤ R.locals) (hn : As.length = n) (hls : ls.size = nL) (hst : st0 = As.reverse ++ .ref b :: rest) (hcat : (rest.map fun v => v.category).sum ≤ 8) (hP : va_P D vwCl w H) (hD : va_D A w) (hS : va_S A s.heap H locs) (isC isR : List Nat) (hC : isC.map (fun i => w[i]?) = wc.map some) (hC2 : isC.filterMap (fun i => w[i]?) = wc) (hndC : va_nd isC = true) (hRr : isR.map (fun i => w[i]?) = wr.map some) (hndR : va_nd isR = true) (hdis : ∀ i ∈ isR, i ∉ isC) (hcs : cells + mc ≤ R.cells ∧ slots + ms ≤ R.slots) (hd : decode cc pc = .ok (.invokespecial idx, 3))
    (kk : ∀ (u : S) (H1 : Heap) (locs1 : List Loc), va_P D vwCl (wr ++ w1 u) H1 → va_D A (wr ++ w1 u) → va_S A s.heap H1 locs1 → W p l e R s m args below meth c H1 locs1 (cells + mc) (slots + ms) Q (F0 m (pc + 3) ls rest)) : W p l e R s m args below meth c H locs cells slots Q (F0 m pc ls st0) := by
  have hPc := hP.sub isC hC2
  have hDc : va_D (va_A wc H.size) wc := (hD.sub isC hndC hC).self
  have hFc := va_free hD hS hA isC hC
  have hKSc := fun (U : State) (hU : U.heap = H) (hW : s.WarmedH U.vm) => KS_call (wc := wc) C hS hFc hU hW
  obtain ⟨hx, hb, hml, hown, hts, hK, hKS⟩ := C
  have cw : CallB R s args own idx y cy mL none (.code y cy mL none :: GT) ({ frames := fr, cells := mc, slots := ms, locals := lo } : Room) mc ms n ∧ y.name = "<init>" ∧ (Cond.instanceMethod y).before args s = true := cwI n hts (GT_in (cons_in hg.2.2.2)) rfl rfl rfl (hts _ hg.2.2.1) (hts _ hg.1) (hts _ hg.2.1) hy1 ⟨hy.1.1, hy.1.2, hy.2⟩ hR
  refine va_callv (va_runI (As := As) (rest := rest) ⟨hx, hb, hml, hown, hts⟩ (hM H.size) cw ⟨MK_blind, fun U hU hW => ⟨rfl, by rw [hU], by rw [hU]; exact hPc, va_K.moved hW.alike hK, hDc, hKSc U hU hW⟩⟩ rfl hn hls hst (lv_room hcat) hd hcs) hS (fun q _ h => hFc q h) hFc (fun u t H1 locs1 ht hvm hw hB hz1 hk1 hS1 => ?_)
  obtain ⟨hP1, hK1, hD1⟩ := hB
  rw [ht] at hP1
  obtain ⟨hP2, hD2⟩ := va_join hP hD isC isR hC hRr hndR hdis hk1 hFc hP1 hD1
  exact kk u H1 locs1 hP2 hD2 hS1
set_option maxHeartbeats 2000000 in
theorem ctorN {S : Type} {y : MethodName} {cy : ByteArray} {mL fr lo n idx b mc ms : Nat} {As st0 : List Value} {wc wr : va_W} {w1 : S → va_W} (C : Cx p c cc nL s m args own D tys A kS vS) (hA : ∀ q, s.heap.size ≤ q → A q) (hM : MK l D tys kS vS y cy mL fr lo (.ref b :: As) wc w1 mc ms) (hg : (own, idx, y) ∈ nwM ∧ Cond.instanceMethod y ∈ GT ∧ Cond.initialized y.cls ∈ GT ∧ Cond.code y cy mL none ∈ GT) (hy1 : y.name = "<init>") (hy : okY y n) (hR : fr + 1 ≤ R.frames ∧ 8 + (mL + 11) + lo ≤ R.locals) (hn : As.length = n) (hls : ls.size = nL) (hst : st0 = As.reverse ++ .ref b :: rest) (hcat : (rest.map fun v => v.category).sum ≤ 8) (hP : va_P D vwCl w H) (hD : va_D A w) (hS : va_S A s.heap H locs) (isC isR : List Nat) (hC : isC.map (fun i => w[i]?) = wc.map some) (hC2 : isC.filterMap (fun i => w[i]?) = wc) (hndC : va_nd isC = true) (hRr : isR.map (fun i => w[i]?) = wr.map some) (hndR : va_nd isR = true) (hdis : ∀ i ∈ isR, i ∉ isC) (hcs : cells + mc ≤ R.cells ∧ slots + ms ≤ R.slots) (hd : decode cc pc = .ok (.invokespecial idx, 3))
    (kk : ∀ (u : S) (H1 : Heap) (locs1 : List Loc), va_P D vwCl (wr ++ w1 u) H1 → va_D A (wr ++ w1 u) → va_S A s.heap H1 locs1 → W p l e R s m args below meth c H1 locs1 (cells + mc) (slots + ms) Q (F0 m (pc + 3) ls rest)) : W p l e R s m args below meth c H locs cells slots Q (F0 m pc ls st0) := by
  have hPc := hP.sub isC hC2
  have hDc : va_D (va_A wc H.size) wc := (hD.sub isC hndC hC).self
  have hFc := va_free hD hS hA isC hC
  have hKSc := fun (U : State) (hU : U.heap = H) (hW : s.WarmedH U.vm) => KS_call (wc := wc) C hS hFc hU hW
  obtain ⟨hx, hb, hml, hown, hts, hK, hKS⟩ := C
  have cw : va_CN R s args own idx y "ResumableCoder" cy mL none (.code y cy mL none :: GT) ({ frames := fr, cells := mc, slots := ms, locals := lo } : Room) mc ms n ∧ y.name = "<init>" ∧ (Cond.instanceMethod y).before args s = true := ⟨va_cnB n hts (GT_in (cons_in hg.2.2.2)) rfl rfl rfl (hKS.2.2.2.2.2.2.1 _ hg.1) (hts _ hg.2.2.1) ⟨hy.1.1, hy.1.2, hy.2⟩ hR, hy1, hts _ hg.2.1⟩
  refine va_callv (va_runIN (As := As) (rest := rest) ⟨hx, hb, hml, hown, hts⟩ (hM H.size) cw ⟨MK_blind, fun U hU hW => ⟨rfl, by rw [hU], by rw [hU]; exact hPc, va_K.moved hW.alike hK, hDc, hKSc U hU hW⟩⟩ rfl hn hls hst (lv_room hcat) hd hcs) hS (fun q _ h => hFc q h) hFc (fun u t H1 locs1 ht hvm hw hB hz1 hk1 hS1 => ?_)
  obtain ⟨hP1, hK1, hD1⟩ := hB
  rw [ht] at hP1
  obtain ⟨hP2, hD2⟩ := va_join hP hD isC isR hC hRr hndR hdis hk1 hFc hP1 hD1
  exact kk u H1 locs1 hP2 hD2 hS1
set_option maxHeartbeats 2000000 in
theorem ctorS {S : Type} {y : MethodName} {cy : ByteArray} {mL fr lo n idx mc ms : Nat} {As st0 : List Value} {wc wr : va_W} {w1 : S → va_W} (C : Cx p c cc nL s m args own D tys A kS vS) (hA : ∀ q, s.heap.size ≤ q → A q) (hM : MK l D tys kS vS y cy mL fr lo As wc w1 mc ms) (hg : Cond.methodLink own idx y ∈ GT ∧ Cond.static y ∈ GT ∧ Cond.initialized y.cls ∈ GT ∧ Cond.code y cy mL none ∈ GT) (hy : okY y n) (hR : fr + 1 ≤ R.frames ∧ 8 + (mL + 11) + lo ≤ R.locals) (hn : As.length = n) (hls : ls.size = nL) (hst : st0 = As.reverse ++ rest) (hcat : (rest.map fun v => v.category).sum ≤ 8) (hP : va_P D vwCl w H) (hD : va_D A w) (hS : va_S A s.heap H locs) (isC isR : List Nat) (hC : isC.map (fun i => w[i]?) = wc.map some) (hC2 : isC.filterMap (fun i => w[i]?) = wc) (hndC : va_nd isC = true) (hRr : isR.map (fun i => w[i]?) = wr.map some) (hndR : va_nd isR = true) (hdis : ∀ i ∈ isR, i ∉ isC) (hcs : cells + mc ≤ R.cells ∧ slots + ms ≤ R.slots) (hd : decode cc pc = .ok (.invokestatic idx, 3))
    (kk : ∀ (u : S) (H1 : Heap) (locs1 : List Loc), va_P D vwCl (wr ++ w1 u) H1 → va_D A (wr ++ w1 u) → va_S A s.heap H1 locs1 → W p l e R s m args below meth c H1 locs1 (cells + mc) (slots + ms) Q (F0 m (pc + 3) ls rest)) : W p l e R s m args below meth c H locs cells slots Q (F0 m pc ls st0) := by
  have hPc := hP.sub isC hC2
  have hDc : va_D (va_A wc H.size) wc := (hD.sub isC hndC hC).self
  have hFc := va_free hD hS hA isC hC
  have hKSc := fun (U : State) (hU : U.heap = H) (hW : s.WarmedH U.vm) => KS_call (wc := wc) C hS hFc hU hW
  obtain ⟨hx, hb, hml, hown, hts, hK, hKS⟩ := C
  have cw : CallB R s args own idx y cy mL none (.code y cy mL none :: GT) ({ frames := fr, cells := mc, slots := ms, locals := lo } : Room) mc ms n ∧ (Cond.static y).before args s = true := ⟨callB_of n hts (GT_in (cons_in hg.2.2.2)) rfl rfl rfl (hts _ hg.2.2.1) (hts _ hg.1) ⟨hy.1.1, hy.1.2, hy.2⟩ hR, hts _ hg.2.1⟩
  refine va_callv (va_runS (As := As) (rest := rest) ⟨hx, hb, hml, hown, hts⟩ (hM H.size) cw ⟨MK_blind, fun U hU hW => ⟨rfl, by rw [hU], by rw [hU]; exact hPc, va_K.moved hW.alike hK, hDc, hKSc U hU hW⟩⟩ rfl hn hls hst (lv_room hcat) hd hcs) hS (fun q _ h => hFc q h) hFc (fun u t H1 locs1 ht hvm hw hB hz1 hk1 hS1 => ?_)
  obtain ⟨hP1, hK1, hD1⟩ := hB
  rw [ht] at hP1
  obtain ⟨hP2, hD2⟩ := va_join hP hD isC isR hC hRr hndR hdis hk1 hFc hP1 hD1
  exact kk u H1 locs1 hP2 hD2 hS1
end CTOR
