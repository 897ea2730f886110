/-! ===== the pure state, the words for it ===== -/
abbrev St : Type := Nat → Nat → Int32
def sx (σ : St) (j : Nat) (f : Nat → Int32) : St := fun i => if i = j then f else σ i
def up (σ : St) (j k : Nat) (v : Int32) : St := sx σ j (upd (σ j) k v)
def inA (ad : Nat → Nat) (n : Nat) : Nat → Prop := fun q => ∃ j, j < n ∧ q = ad j
def Inj (ad : Nat → Nat) (n : Nat) : Prop := ∀ i j, i < n → j < n → ad i = ad j → i = j
def fK (k : Nat) : Nat := match k with
  | 0 => 10
  | 1 => 11
  | 2 => 12
  | 3 => 13
  | 4 => 14
  | 5 => 15
  | _ => 1
def capU (j : Nat) : Nat := if j = 4 then 24 else 16
/-- the class's world -/
def wC (ad : Nat → Nat) (cI cF : ClassId) (σ : St) : va_W :=
  [(ad 0, .inr (7, [.ref (ad 1), .ref (ad 3), .ref (ad 4), .ref (ad 6), .ref (ad 8), .ref (ad (fK (σ 0 5).toNatClampNeg)), .int (σ 0 6), .int (σ 0 7), .int (σ 0 8), .int (σ 0 9), .int (σ 0 10), .int (σ 0 11), .int (σ 0 12), .int (σ 0 13), .int (σ 0 14)])),
   (ad 1, .inr (1, [.ref (ad 2)])),
   (ad 2, .inl (cI, (128, .inl (σ 2)))),
   (ad 3, .inl (cF, (7, .inr (.inr (.inr (.inr (fun i => some (ad (fK i))))))))),
   (ad 4, .inr (3, [.ref (ad 5), .int (σ 4 1)])),
   (ad 5, .inl (cI, (24, .inl (σ 5)))),
   (ad 6, .inr (3, [.ref (ad 7), .int (σ 6 1)])),
   (ad 7, .inl (cI, (16, .inl (σ 7)))),
   (ad 8, .inr (0, [.ref (ad 9), .int (σ 8 1), .int (σ 8 2), .int (σ 8 3)])),
   (ad 9, .inl (cI, (4, .inl (σ 9)))),
   (ad 10, .inr (6, [.int (σ 10 0)])),
   (ad 11, .inr (6, [.int (σ 11 0)])),
   (ad 12, .inr (4, [.int (σ 12 0), .int (σ 12 1), .int (σ 12 2), .int (σ 12 3), .int (σ 12 4)])),
   (ad 13, .inr (4, [.int (σ 13 0), .int (σ 13 1), .int (σ 13 2), .int (σ 13 3), .int (σ 13 4)])),
   (ad 14, .inr (4, [.int (σ 14 0), .int (σ 14 1), .int (σ 14 2), .int (σ 14 3), .int (σ 14 4)])),
   (ad 15, .inr (5, [.ref (ad 16), .ref (ad 17)])),
   (ad 16, .inr (2, [.int (σ 16 0), .int (σ 16 1), .int (σ 16 2), .int (σ 16 3)])),
   (ad 17, .inr (2, [.int (σ 17 0), .int (σ 17 1), .int (σ 17 2), .int (σ 17 3)]))]
/-- the reference's world -/
def wM (ad : Nat → Nat) (cI : ClassId) (σ : St) : va_W :=
  [(ad 0, .inr (8, [.int (σ 0 0), .int (σ 0 1), .int (σ 0 2), .int (σ 0 3), .int (σ 0 4), .ref (ad 1), .int (σ 0 6), .int (σ 0 7), .ref (ad 2), .int (σ 0 9), .ref (ad 3), .int (σ 0 11), .int (σ 0 12), .int (σ 0 13), .int (σ 0 14), .int (σ 0 15), .int (σ 0 16), .int (σ 0 17), .int (σ 0 18), .int (σ 0 19), .int (σ 0 20), .int (σ 0 21), .int (σ 0 22), .int (σ 0 23), .int (σ 0 24), .ref (ad 4), .int (σ 0 26), .int (σ 0 27), .int (σ 0 28), .int (σ 0 29), .int (σ 0 30), .int (σ 0 31)])),
   (ad 1, .inl (cI, (128, .inl (σ 1)))),
   (ad 2, .inl (cI, (24, .inl (σ 2)))),
   (ad 3, .inl (cI, (16, .inl (σ 3)))),
   (ad 4, .inl (cI, (8, .inl (σ 4))))]
abbrev tyC (cI cF : ClassId) : List (ClassId × FieldType) := [(cI, .int), (cF, .object "ResumableCoder$Form")]
theorem va_D_of {ad : Nat → Nat} {n : Nat} {w : va_W} (hI : Inj ad n) (hw : w.map Prod.fst = (List.range n).map ad) : va_D (inA ad n) w := by
  have key : ∀ (k : Nat) (q : Nat × va_E), w[k]? = some q → k < n ∧ q.1 = ad k := by
    intro k q h
    have h1 : (w.map Prod.fst)[k]? = some q.1 := by rw [List.getElem?_map, h]; rfl
    rw [hw, List.getElem?_map] at h1
    by_cases hk : k < n
    · rw [List.getElem?_range hk] at h1
      exact ⟨hk, (Option.some.inj h1).symm⟩
    · rw [List.getElem?_eq_none (by rw [List.length_range]; omega)] at h1
      cases h1
  refine ⟨fun i j p q hp hq e => ?_, fun k q h => ⟨k, (key k q h).1, (key k q h).2⟩⟩
  obtain ⟨h1, h2⟩ := key i p hp
  obtain ⟨h3, h4⟩ := key j q hq
  exact hI i j h1 h3 (by rw [← h2, ← h4]; exact e)
theorem dC {ad : Nat → Nat} {cI cF : ClassId} (hI : Inj ad 18) (σ : St) : va_D (inA ad 18) (wC ad cI cF σ) := va_D_of hI rfl
theorem dM {ad : Nat → Nat} {cI : ClassId} (hI : Inj ad 5) (σ : St) : va_D (inA ad 5) (wM ad cI σ) := va_D_of hI rfl
/-! ===== the words of the functions ===== -/
def nm {α β : Type} (e : α) (k : α → Option β) : Option β := k e
theorem nm_at {α β : Type} {e : α} {k : α → Option β} {r : β} (h : nm e k = some r) (x : α) (hx : x = e) : k x = some r := by subst hx; exact h
def ld {β : Type} (f : Nat → Int32) (n : Nat) (i : Int32) (k : Int32 → Option β) : Option β := if ¬ (i < 0 ∨ n ≤ i.toNatClampNeg) then k (f i.toNatClampNeg) else none
theorem ld_at {β : Type} {f : Nat → Int32} {n : Nat} {i : Int32} {k : Int32 → Option β} {r : β} (h : ld f n i k = some r) : vp_in i n ∧ ∀ x, x = f i.toNatClampNeg → k x = some r := by
  unfold ld at h
  split at h
  next hc => exact ⟨hc, fun x hx => by subst hx; exact h⟩
  next => cases h
def sv {β : Type} (σ : St) (j n : Nat) (i x : Int32) (k : St → Option β) : Option β := if ¬ (i < 0 ∨ n ≤ i.toNatClampNeg) then k (up σ j i.toNatClampNeg x) else none
theorem sv_at {β : Type} {σ : St} {j n : Nat} {i x : Int32} {k : St → Option β} {r : β} (h : sv σ j n i x k = some r) : vp_in i n ∧ ∀ σ', σ' = up σ j i.toNatClampNeg x → k σ' = some r := by
  unfold sv at h
  split at h
  next hc => exact ⟨hc, fun x hx => by subst hx; exact h⟩
  next => cases h
def bd {β : Type} (x : Option (Int32 × St)) (k : Int32 → St → Option β) : Option β := match x with
  | some r => k r.1 r.2
  | none => none
theorem bd_at {β : Type} {x : Option (Int32 × St)} {k : Int32 → St → Option β} {r : β} (h : bd x k = some r) : ∃ a σ, x = some (a, σ) ∧ k a σ = some r := by
  cases x with
  | none => cases h
  | some q => exact ⟨q.1, q.2, rfl, h⟩
def zk {β : Type} (v : Int32) (k : Option β) : Option β := if v = 0 ∨ v = 1 then k else none
theorem zk_at {β : Type} {v : Int32} {k : Option β} {r : β} (h : zk v k = some r) : (v = 0 ∨ v = 1) ∧ k = some r := by
  unfold zk at h
  split at h
  next hc => exact ⟨hc, h⟩
  next => cases h
def nz {β : Type} (v : Int32) (k : Option β) : Option β := if ¬ v = 0 then k else none
theorem nz_at {β : Type} {v : Int32} {k : Option β} {r : β} (h : nz v k = some r) : ¬ v = 0 ∧ k = some r := by
  unfold nz at h
  split at h
  next hc => exact ⟨hc, h⟩
  next => cases h
def ck {β : Type} (i : Int32) (n : Nat) (k : Option β) : Option β := if ¬ (i < 0 ∨ n ≤ i.toNatClampNeg) then k else none
theorem ck_at {β : Type} {i : Int32} {n : Nat} {k : Option β} {r : β} (h : ck i n k = some r) : vp_in i n ∧ k = some r := by
  unfold ck at h
  split at h
  next hc => exact ⟨hc, h⟩
  next => cases h
def cp {β : Type} (σ : St) (j n : Nat) (sp dp z : Int32) (k : St → Option β) : Option β := if ¬ sp < 0 ∧ ¬ dp < 0 ∧ ¬ z < 0 ∧ sp.toNatClampNeg + z.toNatClampNeg ≤ n ∧ dp.toNatClampNeg + z.toNatClampNeg ≤ n then k (sx σ j (va_cpy (σ j) (σ j) sp.toNatClampNeg dp.toNatClampNeg z.toNatClampNeg)) else none
theorem cp_at {β : Type} {σ : St} {j n : Nat} {sp dp z : Int32} {k : St → Option β} {r : β} (h : cp σ j n sp dp z k = some r) : (¬ sp < 0 ∧ ¬ dp < 0 ∧ ¬ z < 0 ∧ sp.toNatClampNeg + z.toNatClampNeg ≤ n ∧ dp.toNatClampNeg + z.toNatClampNeg ≤ n) ∧ ∀ σ', σ' = sx σ j (va_cpy (σ j) (σ j) sp.toNatClampNeg dp.toNatClampNeg z.toNatClampNeg) → k σ' = some r := by
  unfold cp at h
  split at h
  next hc => exact ⟨hc, fun x hx => by subst hx; exact h⟩
  next => cases h
def nkc {β : Type} (v : Int32) (k : Option β) : Option β := if (v.toUInt32 % 65536).toInt32 = v then k else none
theorem nkc_at {β : Type} {v : Int32} {k : Option β} {r : β} (h : nkc v k = some r) : narrow .char (.int v) = .int v ∧ k = some r := by
  unfold nkc at h
  split at h
  next hc => exact ⟨by have h1 := pk_nc v; rw [hc] at h1; exact h1, h⟩
  next => cases h
def nkb {β : Type} (v : Int32) (k : Option β) : Option β := if v.toInt8.toInt32 = v then k else none
theorem nkb_at {β : Type} {v : Int32} {k : Option β} {r : β} (h : nkb v k = some r) : narrow .byte (.int v) = .int v ∧ k = some r := by
  unfold nkb at h
  split at h
  next hc => exact ⟨by have h1 := pk_nb v; rw [hc] at h1; exact h1, h⟩
  next => cases h
theorem zq_at {C n d : String} {A : Nat → Prop} {U : State} {H : Heap} (h : va_Zq C n d A U H) : ∃ v : Value, (v = .null ∨ ∃ t, v = .ref t) ∧ va_Z C n d v A U H := by
  rcases h with h | ⟨t, h⟩
  · exact ⟨_, Or.inl rfl, h⟩
  · exact ⟨_, Or.inr ⟨t, rfl⟩, h⟩
theorem ite_t {β : Type} {c : Prop} [Decidable c] {x y : Option β} {r : β} (h : (if c then x else y) = some r) (hc : c) : x = some r := by rwa [if_pos hc] at h
theorem ite_f {β : Type} {c : Prop} [Decidable c] {x y : Option β} {r : β} (h : (if c then x else y) = some r) (hc : ¬ c) : y = some r := by rwa [if_neg hc] at h
theorem zn {v : Int32} (h : v = 0 ∨ v = 1) : narrow .boolean (.int v) = .int v := by rcases h with rfl | rfl <;> rfl
theorem zf {v : Int32} (h : v = 0 ∨ v = 1) : fits .boolean (.int v) = true := by rcases h with rfl | rfl <;> rfl
abbrev iS (i : Nat) : Prop := i < 2
abbrev jX3 (j : Nat) : Prop := j = 16 ∨ j = 17
abbrev jX5 (j : Nat) : Prop := j = 4 ∨ j = 6
abbrev jX6 (j : Nat) : Prop := j = 12 ∨ j = 13 ∨ j = 14
abbrev jX8 (j : Nat) : Prop := j = 10 ∨ j = 11
/-! ===== what stays: strings, statics, the nest's links ===== -/
def ksL : List Nat := [64, 13]
def ksB : List (List Int32) := [[65,66,67,68,69,70,71,72,73,74,75,76,77,78,79,80,81,82,83,84,85,86,87,88,89,90,97,98,99,100,101,102,103,104,105,106,107,108,109,110,111,112,113,114,115,116,117,118,119,120,121,122,48,49,50,51,52,53,54,55,56,57,43,47], [9,10,13,32,39,40,41,44,45,46,47,58,63]]
def ksT (i : Nat) : String := match i with
  | 0 => "ABCDEFGHIJKLMNOPQRSTUVWXYZabcdefghijklmnopqrstuvwxyz0123456789+/"
  | _ => "\t\n\r '(),-./:?"
def ksI (i : Nat) : Nat := match i with
  | 0 => 68
  | _ => 104
def bB (i : Nat) : Nat → Int32 := fun j => (ksB.getD i []).getD j 0
def nwF : List (String × Nat × String × String × String × String) := [("ResumableCoder", 136, "ResumableCoder$Move", "kind", "I", "ResumableCoder"), ("ResumableCoder", 159, "ResumableCoder$Move", "takes", "I", "ResumableCoder"), ("ResumableCoder", 179, "ResumableCoder$Move", "puts", "I", "ResumableCoder"), ("ResumableCoder$Utf7", 42, "ResumableCoder$Shift", "shifted", "Z", "ResumableCoder"), ("ResumableCoder$Utf7", 101, "ResumableCoder$Shift", "justBegun", "Z", "ResumableCoder"), ("ResumableCoder$Utf7", 79, "ResumableCoder$Shift", "bits", "I", "ResumableCoder"), ("ResumableCoder$Utf7", 64, "ResumableCoder$Shift", "kept", "I", "ResumableCoder")]
def nwM : List (String × Nat × MethodName) := [("ResumableCoder$Page", 3, yX0_init), ("ResumableCoder$Utf8", 1, yX0_init), ("ResumableCoder$Utf16", 1, yX0_init), ("ResumableCoder$Utf7", 1, yX0_init), ("ResumableCoder$Utf7", 9, yX3_init), ("ResumableCoder", 30, yX1_init), ("ResumableCoder", 56, yX7_init)]
def nwC : List String := ["ResumableCoder$Page", "ResumableCoder$Utf8", "ResumableCoder$Utf16", "ResumableCoder$Utf7"]
def nwD : List MethodName := [⟨"ResumableCoder$Form", "encode", "(LResumableCoder$Units;LResumableCoder$Move;)V"⟩, ⟨"ResumableCoder$Form", "decode", "(LResumableCoder$Units;LResumableCoder$Move;)V"⟩]
def KS (A : Nat → Prop) (kS vS : Nat → Nat) (U : State) (H : Heap) : Prop :=
  vk_S 2 ksL ksB kS vS A U H ∧ (∀ i, i < 2 → vk_R RX7 (ksI i) (ksT i) (kS i) U) ∧ va_Z "java/lang/String" "COMPACT_STRINGS" "Z" (.int 1) A U H ∧ va_Zq "jdk/internal/util/Preconditions" "SIOOBE_FORMATTER" "Ljava/util/function/BiFunction;" A U H ∧ (∀ q ∈ nwF, va_Nw (.fieldLinkNest q.1 q.2.1 q.2.2.1 q.2.2.2.1 q.2.2.2.2.1 q.2.2.2.2.2) U) ∧ (∀ x ∈ nwD, va_Nw (.declares x) U) ∧ (∀ q ∈ nwM, va_Nw (.methodLinkNest q.1 q.2.1 q.2.2 "ResumableCoder") U) ∧ (∀ x ∈ nwC, va_Nw (.castable x "ResumableCoder$Form") U) ∧ va_AO "ResumableCoder$Form" U
theorem KS.pass {A : Nat → Prop} {kS vS : Nat → Nat} {s U : State} {H : Heap} {locs : List Loc} (h : KS A kS vS s s.heap) (hS : va_S A s.heap H locs) (hU : U.heap = H) (hW : s.WarmedH U.vm) : KS A kS vS U U.heap := by
  obtain ⟨h1, h2, h3, h4, h5, h6, h7, h8, h9⟩ := h
  subst hU
  exact ⟨(h1.kept hS.2.1).moved hW.alike, fun i hi => (h2 i hi).warm hW, va_Z.moved hW.alike (h3.kept hS.2.1), va_Zq.moved hW.alike (h4.kept hS.2.1), fun q hq => va_Nw.warmF hW (h5 q hq), fun x hx => va_Nw.warmD hW (h6 x hx), fun x hx => va_Nw.warmM hW (h7 x hx), fun x hx => va_Nw.warmC hW (h8 x hx), va_AO.moved hW.alike h9⟩
theorem KS.same {A : Nat → Prop} {kS vS : Nat → Nat} {u U : State} {H : Heap} (hv : u.vm = U.vm) (h : KS A kS vS u H) : KS A kS vS U H := by
  obtain ⟨h1, h2, h3, h4, h5, h6, h7, h8, h9⟩ := h
  have ha : u.vm.Alike U.vm := by rw [hv]; exact Vm.Alike.refl _
  exact ⟨h1.moved ha, fun i hi => (h2 i hi).same hv.symm, va_Z.moved ha h3, va_Zq.moved ha h4, fun q hq => va_Nw.same rfl hv (h5 q hq), fun x hx => va_Nw.same rfl hv (h6 x hx), fun x hx => va_Nw.same rfl hv (h7 x hx), fun x hx => va_Nw.same rfl hv (h8 x hx), va_AO.moved ha h9⟩
theorem KS.narrow {A B : Nat → Prop} {kS vS : Nat → Nat} {U : State} {H : Heap} (h : KS A kS vS U H) (hAB : ∀ q, B q → A q) : KS B kS vS U H := by
  obtain ⟨h1, h2, h3, h4, h5, h6, h7, h8, h9⟩ := h
  exact ⟨h1.narrow hAB, h2, h3.narrow hAB, h4.narrow hAB, h5, h6, h7, h8, h9⟩
/-! ===== contracts ===== -/
def Pr (D : va_G) (tys : List (ClassId × FieldType)) (A : Nat → Prop) (kS vS : Nat → Nat) (w : va_W) (As : List Value) : Array Value → State → Prop := va_Pc As (fun U => va_P D vwCl w U.heap ∧ va_K D vwCl tys U ∧ KS A kS vS U U.heap)
def Po (D : va_G) (tys : List (ClassId × FieldType)) (w : va_W) : Unit → State → Prop := fun _ t => va_P D vwCl w t.heap ∧ va_K D vwCl tys t
abbrev rmN (fr lo : Nat) : Room := { frames := fr, cells := 0, slots := 0, locals := lo }
def MI (l : Launch) (D : va_G) (tys : List (ClassId × FieldType)) (A : Nat → Prop) (kS vS : Nat → Nat) (y : MethodName) (cy : ByteArray) (mL : Nat) (rt : FieldType) (fr lo : Nat) (As : List Value) (w w' : va_W) (r : Int32) : Prop :=
  Met l y (.code y cy mL (some rt) :: GT) (rmN fr lo) (Pr D tys A kS vS w As) (va_Qi (fun x (_ : Unit) => x = r) (Po D tys w') A) 0 0 A
def MV (l : Launch) (D : va_G) (tys : List (ClassId × FieldType)) (A : Nat → Prop) (kS vS : Nat → Nat) (y : MethodName) (cy : ByteArray) (mL : Nat) (fr lo : Nat) (As : List Value) (w w' : va_W) : Prop :=
  Met l y (.code y cy mL none :: GT) (rmN fr lo) (Pr D tys A kS vS w As) (va_Qv (fun (_ : Unit) => True) (Po D tys w') A) 0 0 A
/-- what a walk stands on -/
def Cx (p : Program) (c : Code) (cc : ByteArray) (nL : Nat) (s : State) (m : MethodId) (args : Array Value) (own : String) (D : va_G) (tys : List (ClassId × FieldType)) (A : Nat → Prop) (kS vS : Nat → Nat) : Prop :=
  p.tables.exec = Jvm.exec ∧ c.code = cc ∧ c.maxLocals = nL ∧ s.vm.findClass own = some m.cls ∧ (∀ w ∈ GT, w.before args s = true) ∧ va_K D vwCl tys s ∧ KS A kS vS s s.heap
theorem Pr_blind {D : va_G} {tys : List (ClassId × FieldType)} {A : Nat → Prop} {kS vS : Nat → Nat} {w : va_W} {As : List Value} : FrameBlind (Pr D tys A kS vS w As) := fun a U g mk q => by
  obtain ⟨q0, qP, qK, qS⟩ := q
  exact ⟨q0, qP, va_K.moved (u := U) (U := U.calling g mk a) (Vm.Alike.refl U.vm) qK, KS.same (u := U) (U := U.calling g mk a) rfl qS⟩
set_option maxHeartbeats 4000000 in
theorem MI.of {l : Launch} {D : va_G} {tys : List (ClassId × FieldType)} {A : Nat → Prop} {kS vS : Nat → Nat} {y : MethodName} {cy : ByteArray} {mL : Nat} {rt : FieldType} {fr lo : Nat} {As : List Value} {w w' : va_W} {r : Int32} (hy : plainName y.cls = true) (hL : (lg_sl As).length ≤ mL)
    (body : ∀ (p : Program) (e : Env) (s : State) (m : MethodId) (args : Array Value) (below : List Frame) (meth : Method) (c : Code) (ls : Array Slot) (Q : State → Prop), MQ below (va_Qi (fun x (_ : Unit) => x = r) (Po D tys w') A) args s 0 0 A = Q → Cx p c cy mL s m args y.cls D tys A kS vS → meth.sig.returnType = some rt → meth.locks = false → va_P D vwCl w s.heap → va_S A s.heap s.heap [] → lv_has ls mL (lv_args 0 As) →
      W p l e (rmN fr lo) s m args below meth c s.heap [] 0 0 Q (F0 m 0 ls [])) : MI l D tys A kS vS y cy mL rt fr lo As w w' r := by
  refine Met.ofW (cc := cy) (maxL := mL) (ret := some rt) hy rfl ?_
  intro p e s m args below meth c s₁ B hml hv
  obtain ⟨rfl, hP, hK, hKS⟩ := hv
  have hts := atoms_spec (ws := .code y cy mL (some rt) :: GT) B.pre
  rw [lg_entry_eq]
  exact body p e s m _ below meth c _ _ rfl ⟨B.exec, B.bytes, hml, findClass_of_methodNamed B.named, fun w hw => hts w (List.mem_cons_of_mem _ hw), hK, hKS⟩ B.returns B.notSynchronized hP va_S.rf (lv_entry As hL)
set_option maxHeartbeats 4000000 in
theorem MV.of {l : Launch} {D : va_G} {tys : List (ClassId × FieldType)} {A : Nat → Prop} {kS vS : Nat → Nat} {y : MethodName} {cy : ByteArray} {mL : Nat} {fr lo : Nat} {As : List Value} {w w' : va_W} (hy : plainName y.cls = true) (hL : (lg_sl As).length ≤ mL)
    (body : ∀ (p : Program) (e : Env) (s : State) (m : MethodId) (args : Array Value) (below : List Frame) (meth : Method) (c : Code) (ls : Array Slot) (Q : State → Prop), MQ below (va_Qv (fun (_ : Unit) => True) (Po D tys w') A) args s 0 0 A = Q → Cx p c cy mL s m args y.cls D tys A kS vS → meth.sig.returnType = none → meth.locks = false → va_P D vwCl w s.heap → va_S A s.heap s.heap [] → lv_has ls mL (lv_args 0 As) →
      W p l e (rmN fr lo) s m args below meth c s.heap [] 0 0 Q (F0 m 0 ls [])) : MV l D tys A kS vS y cy mL fr lo As w w' := by
  refine Met.ofW (cc := cy) (maxL := mL) (ret := none) hy rfl ?_
  intro p e s m args below meth c s₁ B hml hv
  obtain ⟨rfl, hP, hK, hKS⟩ := hv
  have hts := atoms_spec (ws := .code y cy mL none :: GT) B.pre
  rw [lg_entry_eq]
  exact body p e s m _ below meth c _ _ rfl ⟨B.exec, B.bytes, hml, findClass_of_methodNamed B.named, fun w hw => hts w (List.mem_cons_of_mem _ hw), hK, hKS⟩ B.returns B.notSynchronized hP va_S.rf (lv_entry As hL)
theorem GT_in {ws : List Cond} (h : ∀ w ∈ ws, w ∈ GT) : GoodIn GT ws := fun w hw => ⟨h w hw, GT_good w (h w hw)⟩
theorem cons_in {c : Cond} (h : c ∈ GT) : ∀ w ∈ c :: GT, w ∈ GT := List.forall_mem_cons.mpr ⟨h, fun _ h => h⟩
theorem in5 {a b c d e : Cond} {ws : List Cond} (h1 : a ∈ GT) (h2 : b ∈ GT) (h3 : c ∈ GT) (h4 : d ∈ GT) (h5 : e ∈ GT) (h : ∀ w ∈ ws, w ∈ GT) : ∀ w ∈ [a, b, c, d, e] ++ ws, w ∈ GT := fun w hw => by
  rcases List.mem_append.mp hw with hw | hw
  · simp only [List.mem_cons, List.not_mem_nil, or_false] at hw
    rcases hw with rfl | rfl | rfl | rfl | rfl <;> assumption
  · exact h w hw
theorem in6 {a b c d e f : Cond} {ws : List Cond} (h1 : a ∈ GT) (h2 : b ∈ GT) (h3 : c ∈ GT) (h4 : d ∈ GT) (h5 : e ∈ GT) (h6 : f ∈ GT) (h : ∀ w ∈ ws, w ∈ GT) : ∀ w ∈ [a, b, c, d, e, f] ++ ws, w ∈ GT := fun w hw => by
  rcases List.mem_append.mp hw with hw | hw
  · simp only [List.mem_cons, List.not_mem_nil, or_false] at hw
    rcases hw with rfl | rfl | rfl | rfl | rfl | rfl <;> assumption
  · exact h w hw
section BASE
variable {p : Program} {l : Launch} {e : Env} {R : Room} {s : State} {m : MethodId} {args : Array Value} {below : List Frame} {meth : Method} {c : Code} {H : Heap} {locs : List Loc} {Q : State → Prop}
variable {cc : ByteArray} {pc nL : Nat} {ls : Array Slot} {rest : List Value} {D : va_G} {tys : List (ClassId × FieldType)} {A : Nat → Prop} {kS vS : Nat → Nat} {own : String} {w w' : va_W} {a : Nat}
/-! returns -/
theorem MI.ret {wf : St → va_W} {rt : FieldType} {σc σ' : St} {v r : Int32} (hQ : MQ below (va_Qi (fun x (_ : Unit) => x = r) (Po D tys (wf σ')) A) args s 0 0 A = Q) (C : Cx p c cc nL s m args own D tys A kS vS) (hr : meth.sig.returnType = some rt) (hlocks : meth.locks = false) (hn : narrow rt (.int v) = .int v) (hf : some (v, σc) = some (r, σ')) (hP : va_P D vwCl (wf σc) H) (hS : va_S A s.heap H locs) (hd : decode cc pc = .ok (.ireturn, 1)) :
    W p l e R s m args below meth c H locs 0 0 Q (F0 m pc ls [.int v]) := by
  cases hf
  subst hQ
  obtain ⟨hx, hb, hml, hown, hts, hK, hKS⟩ := C
  exact W.zret hx hb hr hn (fun t ht hW => ⟨⟨_, (), rfl, rfl, by rw [ht]; exact hP, va_K.moved hW.alike hK⟩, hS.F ht⟩) hS.2.2 hd hlocks
theorem MV.ret {wf : St → va_W} {σc σ' : St} {r : Int32} (hQ : MQ below (va_Qv (fun (_ : Unit) => True) (Po D tys (wf σ')) A) args s 0 0 A = Q) (C : Cx p c cc nL s m args own D tys A kS vS) (hr : meth.sig.returnType = none) (hlocks : meth.locks = false) (hf : some (0, σc) = some (r, σ')) (hP : va_P D vwCl (wf σc) H) (hS : va_S A s.heap H locs) (hd : decode cc pc = .ok (.return_, 1)) :
    W p l e R s m args below meth c H locs 0 0 Q (F0 m pc ls []) := by
  cases hf
  subst hQ
  obtain ⟨hx, hb, hml, hown, hts, hK, hKS⟩ := C
  exact W.vret hx hb hr (fun t ht hW => ⟨⟨(), rfl, trivial, by rw [ht]; exact hP, va_K.moved hW.alike hK⟩, hS.F ht⟩) hS.2.2 hd hlocks
/-! fields -/
theorem getF (C : Cx p c cc nL s m args own D tys A kS vS) (hP : va_P D vwCl w H) {cN ref : String} {T : u_T} {N ci idx : Nat} {fs : List Value} {v : Value} (q0 k : Nat) (he : w[q0]? = some (a, .inr (ci, fs))) (hc : vwCl[ci]? = some (cN, T, N)) (hin : ∀ x ∈ u_ws cN T N, x ∈ GT) (hk : k < N) (hl : (Cond.fieldLink own idx ref (T k).2.1 (T k).2.2.1) ∈ GT) (href : (T k).1 = ref) (hv : fs[k]? = some v) (hd : decode cc pc = .ok (.getfield idx, 3))
    (kk : W p l e R s m args below meth c H locs 0 0 Q (F0 m (pc + 3) ls (v :: rest))) : W p l e R s m args below meth c H locs 0 0 Q (F0 m pc ls (.ref a :: rest)) := by
  obtain ⟨hx, hb, hml, hown, hts, hK, hKS⟩ := C
  subst href
  exact va_get hx hb hts hin hown hK hP q0 he hc k hk (hts _ hl) (fun _ h9 => h9) hv hd kk
theorem getFN (C : Cx p c cc nL s m args own D tys A kS vS) (hP : va_P D vwCl w H) {cN ref host : String} {T : u_T} {N ci idx : Nat} {fs : List Value} {v : Value} (q0 k : Nat) (he : w[q0]? = some (a, .inr (ci, fs))) (hc : vwCl[ci]? = some (cN, T, N)) (hin : ∀ x ∈ u_ws cN T N, x ∈ GT) (hk : k < N) (hl : (own, idx, ref, (T k).2.1, (T k).2.2.1, host) ∈ nwF) (href : (T k).1 = ref) (hv : fs[k]? = some v) (hd : decode cc pc = .ok (.getfield idx, 3))
    (kk : W p l e R s m args below meth c H locs 0 0 Q (F0 m (pc + 3) ls (v :: rest))) : W p l e R s m args below meth c H locs 0 0 Q (F0 m pc ls (.ref a :: rest)) := by
  obtain ⟨hx, hb, hml, hown, hts, hK, hKS⟩ := C
  subst href
  exact va_getN hx hb hts hin hown hK hP q0 he hc k hk (va_Nw.use rfl (hKS.2.2.2.2.1 _ hl)) (fun _ h9 => h9) hv hd kk
theorem putF (C : Cx p c cc nL s m args own D tys A kS vS) (hP : va_P D vwCl w H) (hD : va_D A w) (hS : va_S A s.heap H locs) {cN ref : String} {T : u_T} {N ci idx : Nat} {fs : List Value} {v : Value} (q0 k : Nat) (he : w[q0]? = some (a, .inr (ci, fs))) (hc : vwCl[ci]? = some (cN, T, N)) (hin : ∀ x ∈ u_ws cN T N, x ∈ GT) (ty0 : Nat → FieldType) (hty : ∀ k, k < N → parseFieldDescriptor (T k).2.2.1 = some (ty0 k)) (hnm : ∀ a, a < N → ∀ b, b < N → a ≠ b → (T a).2.1 ≠ (T b).2.1) (hk : k < N) (hl : (Cond.fieldLink own idx ref (T k).2.1 (T k).2.2.1) ∈ GT) (href : (T k).1 = ref) (hfin : (T k).2.2.2 = false) (hn : narrow (ty0 k) v = v) (hfit : fits (ty0 k) v = true) (hlen : k < fs.length) (hw' : w.set q0 (a, .inr (ci, fs.set k v)) = w') (hd : decode cc pc = .ok (.putfield idx, 3))
    (kk : ∀ (H1 : Heap) (locs1 : List Loc), va_P D vwCl w' H1 → va_S A s.heap H1 locs1 → W p l e R s m args below meth c H1 locs1 0 0 Q (F0 m (pc + 3) ls rest)) : W p l e R s m args below meth c H locs 0 0 Q (F0 m pc ls (v :: .ref a :: rest)) := by
  obtain ⟨hx, hb, hml, hown, hts, hK, hKS⟩ := C
  subst href
  subst hw'
  exact va_put hx hb hts hin ty0 hty hnm hown hK hP hD hS q0 he hc k hk (hts _ hl) (fun _ h9 => h9) hfin (hty k hk) hn hfit hlen hd (fun H1 locs1 h1 _ h3 => kk H1 locs1 h1 h3)
/-! arrays of ints -/
theorem aload (C : Cx p c cc nL s m args own D tys A kS vS) (hP : va_P D vwCl w H) {cA : ClassId} {n : Nat} {f : Nat → Int32} (q0 : Nat) (he : w[q0]? = some (a, .inl (cA, n, .inl f))) (ht : tys[0]? = some (cA, .int)) {i : Int32} (hin : vp_in i n) (hd : decode cc pc = .ok (.iaload, 1))
    (kk : ∀ x : Int32, x = f i.toNatClampNeg → W p l e R s m args below meth c H locs 0 0 Q (F0 m (pc + 1) ls (.int x :: rest))) : W p l e R s m args below meth c H locs 0 0 Q (F0 m pc ls (.int i :: .ref a :: rest)) := by
  obtain ⟨hx, hb, hml, hown, hts, hK, hKS⟩ := C
  exact va_iald hx hb hK hP q0 0 he ht hin hd (kk _ rfl)
theorem astor {wf : St → va_W} {σ : St} (C : Cx p c cc nL s m args own D tys A kS vS) (hP : va_P D vwCl (wf σ) H) (hD : va_D A (wf σ)) (hS : va_S A s.heap H locs) {cA : ClassId} {n : Nat} (q0 : Nat) (he : (wf σ)[q0]? = some (a, .inl (cA, n, .inl (σ q0)))) (ht : tys[0]? = some (cA, .int)) {i x : Int32} (hin : vp_in i n) (hw' : ∀ k : Nat, (wf σ).set q0 (a, .inl (cA, n, .inl (upd (σ q0) k x))) = wf (up σ q0 k x)) (hd : decode cc pc = .ok (.iastore, 1))
    (kk : ∀ σ' : St, σ' = up σ q0 i.toNatClampNeg x → ∀ (H1 : Heap) (locs1 : List Loc), va_P D vwCl (wf σ') H1 → va_S A s.heap H1 locs1 → W p l e R s m args below meth c H1 locs1 0 0 Q (F0 m (pc + 1) ls rest)) : W p l e R s m args below meth c H locs 0 0 Q (F0 m pc ls (.int x :: .int i :: .ref a :: rest)) := by
  obtain ⟨hx, hb, hml, hown, hts, hK, hKS⟩ := C
  exact va_iast hx hb hK hP hD hS q0 0 he ht hin hd (fun H1 locs1 h1 _ h3 => kk _ rfl H1 locs1 (by rw [← hw']; exact h1) h3)
theorem acopy {wf : St → va_W} {σ : St} (C : Cx p c cc nL s m args own D tys A kS vS) (hP : va_P D vwCl (wf σ) H) (hD : va_D A (wf σ)) (hS : va_S A s.heap H locs) {cA : ClassId} {n idx : Nat} (q0 : Nat) (he : (wf σ)[q0]? = some (a, .inl (cA, n, .inl (σ q0)))) (ht : tys[0]? = some (cA, .int)) {sp dp z : Int32} (h1 : ¬ sp < 0) (h2 : ¬ dp < 0) (h3 : ¬ z < 0) (h4 : sp.toNatClampNeg + z.toNatClampNeg ≤ n) (h5 : dp.toNatClampNeg + z.toNatClampNeg ≤ n) (hw' : ∀ f : Nat → Int32, (wf σ).set q0 (a, .inl (cA, n, .inl f)) = wf (sx σ q0 f)) (hml : c.maxLocals = ls.size) (hg : Cond.methodLink own idx arraycopyName ∈ GT ∧ Cond.native arraycopyName ∈ GT ∧ Cond.static arraycopyName ∈ GT ∧ Cond.initialized "java/lang/System" ∈ GT) (hfr : 1 ≤ R.frames) (hlo : (rest.map fun v => v.category).sum + (nativeFrameWords "java/lang/System" "arraycopy" 5 + 11) ≤ R.locals) (hd : decode cc pc = .ok (.invokestatic idx, 3))
    (kk : ∀ σ' : St, σ' = sx σ q0 (va_cpy (σ q0) (σ q0) sp.toNatClampNeg dp.toNatClampNeg z.toNatClampNeg) → ∀ (H1 : Heap) (locs1 : List Loc), va_P D vwCl (wf σ') H1 → va_S A s.heap H1 locs1 → W p l e R s m args below meth c H1 locs1 0 0 Q (F0 m (pc + 3) ls rest)) : W p l e R s m args below meth c H locs 0 0 Q (F0 m pc ls (.int z :: .int dp :: .ref a :: .int sp :: .ref a :: rest)) := by
  obtain ⟨hx, hb, -, hown, hts, hK, hKS⟩ := C
  exact va_copyi hx hb hml hown (hts _ hg.1) (hts _ hg.2.1) (hts _ hg.2.2.1) (hts _ hg.2.2.2) hK hP hD hS q0 q0 0 0 he he ht ht rfl h1 h2 h3 h4 h5 (fun _ _ => rfl) hfr hlo hd (fun H1 locs1 g1 _ g3 => kk _ rfl H1 locs1 (by rw [← hw']; exact g1) g3)
theorem faload {ad : Nat → Nat} {cI cF : ClassId} {σ : St} (C : Cx p c cc nL s m args own D (tyC cI cF) A kS vS) (hP : va_P D vwCl (wC ad cI cF σ) H) {i : Int32} (hin : vp_in i 7) (hd : decode cc pc = .ok (.aaload, 1))
    (kk : W p l e R s m args below meth c H locs 0 0 Q (F0 m (pc + 1) ls (.ref (ad (fK i.toNatClampNeg)) :: rest))) : W p l e R s m args below meth c H locs 0 0 Q (F0 m pc ls (.int i :: .ref (ad 3) :: rest)) := by
  obtain ⟨hx, hb, hml, hown, hts, hK, hKS⟩ := C
  exact va_aldq (f := fun i => some (ad (fK i))) hx hb hK hP 3 1 rfl rfl hin hd kk
theorem alen (C : Cx p c cc nL s m args own D tys A kS vS) (hP : va_P D vwCl w H) {cA : ClassId} {x : vp_A} (q0 : Nat) (he : w[q0]? = some (a, .inl (cA, x))) (ht : tys[0]? = some (cA, .int)) {v : Int32} (hv : Int32.ofNat x.1 = v) (hd : decode cc pc = .ok (.arraylength, 1))
    (kk : W p l e R s m args below meth c H locs 0 0 Q (F0 m (pc + 1) ls (.int v :: rest))) : W p l e R s m args below meth c H locs 0 0 Q (F0 m pc ls (.ref a :: rest)) := by
  obtain ⟨hx, hb, hml, hown, hts, hK, hKS⟩ := C
  exact va_alen hx hb hK hP q0 0 he ht hv hd kk
/-! calls -/
def okY (y : MethodName) (n : Nat) : Prop := (y.cls ≠ "java/lang/invoke/MethodHandle" ∧ y.cls ≠ "java/lang/invoke/VarHandle") ∧ (parseMethodDescriptor y.desc).map (fun d => d.parameters.length) = some n
theorem Pr_at {As : List Value} (C : Cx p c cc nL s m args own D tys A kS vS) (hP : va_P D vwCl w H) (hS : va_S A s.heap H locs) : ∀ U : State, U.heap = H → s.WarmedH U.vm → Pr D tys A kS vS w As As.toArray U := fun U hU hW => by
  obtain ⟨hx, hb, hml, hown, hts, hK, hKS⟩ := C
  exact ⟨rfl, by rw [hU]; exact hP, va_K.moved hW.alike hK, hKS.pass hS hU hW⟩
theorem callS_of {y : MethodName} {cy : ByteArray} {mL : Nat} {ro : Option FieldType} {fr lo n idx : Nat} (C : Cx p c cc nL s m args own D tys A kS vS) (hg : Cond.methodLink own idx y ∈ GT ∧ Cond.static y ∈ GT ∧ Cond.initialized y.cls ∈ GT ∧ Cond.code y cy mL ro ∈ GT) (hy : okY y n) (hR : fr + 1 ≤ R.frames ∧ 8 + (mL + 11) + lo ≤ R.locals) :
    CallB R s args own idx y cy mL ro (.code y cy mL ro :: GT) (rmN fr lo) 0 0 n ∧ (Cond.static y).before args s = true := by
  obtain ⟨hx, hb, hml, hown, hts, hK, hKS⟩ := C
  exact ⟨callB_of n hts (GT_in (cons_in hg.2.2.2)) rfl rfl rfl (hts _ hg.2.2.1) (hts _ hg.1) ⟨hy.1.1, hy.1.2, hy.2⟩ hR, hts _ hg.2.1⟩
theorem callV_of {y : MethodName} {cy : ByteArray} {mL : Nat} {ro : Option FieldType} {fr lo n idx : Nat} (C : Cx p c cc nL s m args own D tys A kS vS) (hg : Cond.methodLink own idx y ∈ GT ∧ Cond.instanceMethod y ∈ GT ∧ Cond.selects y.cls y y ∈ GT ∧ Cond.initialized y.cls ∈ GT ∧ Cond.code y cy mL ro ∈ GT) (hy : okY y n) (hR : fr + 1 ≤ R.frames ∧ 8 + (mL + 11) + lo ≤ R.locals) :
    CallW R s args own y.cls idx y cy mL ro (.code y cy mL ro :: GT) (rmN fr lo) 0 0 n := by
  obtain ⟨hx, hb, hml, hown, hts, hK, hKS⟩ := C
  exact ⟨callB_of n hts (GT_in (cons_in hg.2.2.2.2)) rfl rfl rfl (hts _ hg.2.2.2.1) (hts _ hg.1) ⟨hy.1.1, hy.1.2, hy.2⟩ hR, hts _ hg.2.1, hts _ hg.2.2.1⟩
set_option maxHeartbeats 2000000 in
theorem callSI {y : MethodName} {cy : ByteArray} {mL : Nat} {rt : FieldType} {fr lo n idx : Nat} {As st0 : List Value} {r : Int32} (C : Cx p c cc nL s m args own D tys A kS vS) (hM : MI l D tys A kS vS y cy mL rt fr lo As w w' r) (hg : Cond.methodLink own idx y ∈ GT ∧ Cond.static y ∈ GT ∧ Cond.initialized y.cls ∈ GT ∧ Cond.code y cy mL (some rt) ∈ GT) (hy : okY y n) (hR : fr + 1 ≤ R.frames ∧ 8 + (mL + 11) + lo ≤ R.locals) (hn : As.length = n) (hls : ls.size = nL) (hst : st0 = As.reverse ++ rest) (hcat : (rest.map fun v => v.category).sum ≤ 8) (hP : va_P D vwCl w H) (hS : va_S A s.heap H locs) (hd : decode cc pc = .ok (.invokestatic idx, 3))
    (kk : ∀ (H1 : Heap) (locs1 : List Loc), va_P D vwCl w' H1 → va_S A s.heap H1 locs1 → W p l e R s m args below meth c H1 locs1 0 0 Q (F0 m (pc + 3) ls (.int r :: rest))) : W p l e R s m args below meth c H locs 0 0 Q (F0 m pc ls st0) := by
  have cw := callS_of C hg hy hR
  have hp : PreS s H (Pr D tys A kS vS w As) As := ⟨Pr_blind, Pr_at C hP hS⟩
  obtain ⟨hx, hb, hml, hown, hts, hK, hKS⟩ := C
  refine va_calli (va_runS ⟨hx, hb, hml, hown, hts⟩ hM cw hp rfl hn hls hst (lv_room hcat) hd ⟨Nat.zero_le _, Nat.zero_le _⟩) hS (fun q _ h => h) (fun q h => h) (fun x u t H1 locs1 ht hvm hw hB hz hk hS1 => ?_)
  subst hw
  exact kk H1 locs1 (by rw [← ht]; exact hB.1) hS1
set_option maxHeartbeats 2000000 in
theorem callSV {y : MethodName} {cy : ByteArray} {mL : Nat} {fr lo n idx : Nat} {As st0 : List Value} (C : Cx p c cc nL s m args own D tys A kS vS) (hM : MV l D tys A kS vS y cy mL fr lo As w w') (hg : Cond.methodLink own idx y ∈ GT ∧ Cond.static y ∈ GT ∧ Cond.initialized y.cls ∈ GT ∧ Cond.code y cy mL none ∈ GT) (hy : okY y n) (hR : fr + 1 ≤ R.frames ∧ 8 + (mL + 11) + lo ≤ R.locals) (hn : As.length = n) (hls : ls.size = nL) (hst : st0 = As.reverse ++ rest) (hcat : (rest.map fun v => v.category).sum ≤ 8) (hP : va_P D vwCl w H) (hS : va_S A s.heap H locs) (hd : decode cc pc = .ok (.invokestatic idx, 3))
    (kk : ∀ (H1 : Heap) (locs1 : List Loc), va_P D vwCl w' H1 → va_S A s.heap H1 locs1 → W p l e R s m args below meth c H1 locs1 0 0 Q (F0 m (pc + 3) ls rest)) : W p l e R s m args below meth c H locs 0 0 Q (F0 m pc ls st0) := by
  have cw := callS_of C hg hy hR
  have hp : PreS s H (Pr D tys A kS vS w As) As := ⟨Pr_blind, Pr_at C hP hS⟩
  obtain ⟨hx, hb, hml, hown, hts, hK, hKS⟩ := C
  refine va_callv (va_runS ⟨hx, hb, hml, hown, hts⟩ hM cw hp rfl hn hls hst (lv_room hcat) hd ⟨Nat.zero_le _, Nat.zero_le _⟩) hS (fun q _ h => h) (fun q h => h) (fun u t H1 locs1 ht hvm hw hB hz hk hS1 => ?_)
  exact kk H1 locs1 (by rw [← ht]; exact hB.1) hS1
theorem rcvOf {b q0 ci N : Nat} {cN : String} {T : u_T} {fs : List Value} (C : Cx p c cc nL s m args own D tys A kS vS) (hP : va_P D vwCl w H) (he : w[q0]? = some (b, .inr (ci, fs))) (hc : vwCl[ci]? = some (cN, T, N)) : ∃ cell : Cell, H[b]? = some cell ∧ cell.vm.isStatics = false ∧ s.vm.findClass cN = some cell.cls := va_recv (q := (cN, T, N)) C.2.2.2.2.2.1 hP hc he
set_option maxHeartbeats 2000000 in
theorem callVI {y : MethodName} {cy : ByteArray} {mL : Nat} {rt : FieldType} {fr lo n idx b : Nat} {As st0 : List Value} {r : Int32} (C : Cx p c cc nL s m args own D tys A kS vS) (hM : MI l D tys A kS vS y cy mL rt fr lo (.ref b :: As) w w' r) (hg : Cond.methodLink own idx y ∈ GT ∧ Cond.instanceMethod y ∈ GT ∧ Cond.selects y.cls y y ∈ GT ∧ Cond.initialized y.cls ∈ GT ∧ Cond.code y cy mL (some rt) ∈ GT) (hy : okY y n) (hR : fr + 1 ≤ R.frames ∧ 8 + (mL + 11) + lo ≤ R.locals) (hrc : ∃ cell : Cell, H[b]? = some cell ∧ cell.vm.isStatics = false ∧ s.vm.findClass y.cls = some cell.cls) (hn : As.length = n) (hls : ls.size = nL) (hst : st0 = As.reverse ++ .ref b :: rest) (hcat : (rest.map fun v => v.category).sum ≤ 8) (hP : va_P D vwCl w H) (hS : va_S A s.heap H locs) (hd : decode cc pc = .ok (.invokevirtual idx, 3))
    (kk : ∀ (H1 : Heap) (locs1 : List Loc), va_P D vwCl w' H1 → va_S A s.heap H1 locs1 → W p l e R s m args below meth c H1 locs1 0 0 Q (F0 m (pc + 3) ls (.int r :: rest))) : W p l e R s m args below meth c H locs 0 0 Q (F0 m pc ls st0) := by
  have cw := callV_of C hg hy hR
  have hp : PreV s H y.cls b (Pr D tys A kS vS w (.ref b :: As)) As := ⟨Pr_blind, hrc, Pr_at C hP hS⟩
  obtain ⟨hx, hb, hml, hown, hts, hK, hKS⟩ := C
  refine va_calli (va_runV ⟨hx, hb, hml, hown, hts⟩ hM cw hp rfl hn hls hst (lv_room hcat) hd ⟨Nat.zero_le _, Nat.zero_le _⟩) hS (fun q _ h => h) (fun q h => h) (fun x u t H1 locs1 ht hvm hw hB hz hk hS1 => ?_)
  subst hw
  exact kk H1 locs1 (by rw [← ht]; exact hB.1) hS1
set_option maxHeartbeats 2000000 in
theorem callVV {y : MethodName} {cy : ByteArray} {mL : Nat} {fr lo n idx b : Nat} {As st0 : List Value} (C : Cx p c cc nL s m args own D tys A kS vS) (hM : MV l D tys A kS vS y cy mL fr lo (.ref b :: As) w w') (hg : Cond.methodLink own idx y ∈ GT ∧ Cond.instanceMethod y ∈ GT ∧ Cond.selects y.cls y y ∈ GT ∧ Cond.initialized y.cls ∈ GT ∧ Cond.code y cy mL none ∈ GT) (hy : okY y n) (hR : fr + 1 ≤ R.frames ∧ 8 + (mL + 11) + lo ≤ R.locals) (hrc : ∃ cell : Cell, H[b]? = some cell ∧ cell.vm.isStatics = false ∧ s.vm.findClass y.cls = some cell.cls) (hn : As.length = n) (hls : ls.size = nL) (hst : st0 = As.reverse ++ .ref b :: rest) (hcat : (rest.map fun v => v.category).sum ≤ 8) (hP : va_P D vwCl w H) (hS : va_S A s.heap H locs) (hd : decode cc pc = .ok (.invokevirtual idx, 3))
    (kk : ∀ (H1 : Heap) (locs1 : List Loc), va_P D vwCl w' H1 → va_S A s.heap H1 locs1 → W p l e R s m args below meth c H1 locs1 0 0 Q (F0 m (pc + 3) ls rest)) : W p l e R s m args below meth c H locs 0 0 Q (F0 m pc ls st0) := by
  have cw := callV_of C hg hy hR
  have hp : PreV s H y.cls b (Pr D tys A kS vS w (.ref b :: As)) As := ⟨Pr_blind, hrc, Pr_at C hP hS⟩
  obtain ⟨hx, hb, hml, hown, hts, hK, hKS⟩ := C
  refine va_callv (va_runV ⟨hx, hb, hml, hown, hts⟩ hM cw hp rfl hn hls hst (lv_room hcat) hd ⟨Nat.zero_le _, Nat.zero_le _⟩) hS (fun q _ h => h) (fun q h => h) (fun u t H1 locs1 ht hvm hw hB hz hk hS1 => ?_)
  exact kk H1 locs1 (by rw [← ht]; exact hB.1) hS1
set_option maxHeartbeats 2000000 in
theorem callUI {x y : MethodName} {C0 owner : String} {cy : ByteArray} {mL : Nat} {rt : FieldType} {fr lo n idx b : Nat} {As st0 : List Value} {r : Int32} (C : Cx p c cc nL s m args own D tys A kS vS) (hM : MI l D tys A kS vS y cy mL rt fr lo (.ref b :: As) w w' r) (cw : va_CU R s args own C0 owner idx x y cy mL (some rt) (.code y cy mL (some rt) :: GT) (rmN fr lo) 0 0 n) (hrc : ∃ cell : Cell, H[b]? = some cell ∧ cell.vm.isStatics = false ∧ s.vm.findClass C0 = some cell.cls) (hn : As.length = n) (hls : ls.size = nL) (hst : st0 = As.reverse ++ .ref b :: rest) (hcat : (rest.map fun v => v.category).sum ≤ 8) (hP : va_P D vwCl w H) (hS : va_S A s.heap H locs) (hd : decode cc pc = .ok (.invokevirtual idx, 3))
    (kk : ∀ (H1 : Heap) (locs1 : List Loc), va_P D vwCl w' H1 → va_S A s.heap H1 locs1 → W p l e R s m args below meth c H1 locs1 0 0 Q (F0 m (pc + 3) ls (.int r :: rest))) : W p l e R s m args below meth c H locs 0 0 Q (F0 m pc ls st0) := by
  have hp : PreV s H C0 b (Pr D tys A kS vS w (.ref b :: As)) As := ⟨Pr_blind, hrc, Pr_at C hP hS⟩
  obtain ⟨hx, hb, hml, hown, hts, hK, hKS⟩ := C
  refine va_calli (va_runU ⟨hx, hb, hml, hown, hts⟩ hM cw hp rfl hn hls hst (lv_room hcat) hd ⟨Nat.zero_le _, Nat.zero_le _⟩) hS (fun q _ h => h) (fun q h => h) (fun x u t H1 locs1 ht hvm hw hB hz hk hS1 => ?_)
  subst hw
  exact kk H1 locs1 (by rw [← ht]; exact hB.1) hS1
set_option maxHeartbeats 2000000 in
theorem callUV {x y : MethodName} {C0 owner : String} {cy : ByteArray} {mL : Nat} {fr lo n idx b : Nat} {As st0 : List Value} (C : Cx p c cc nL s m args own D tys A kS vS) (hM : MV l D tys A kS vS y cy mL fr lo (.ref b :: As) w w') (cw : va_CU R s args own C0 owner idx x y cy mL none (.code y cy mL none :: GT) (rmN fr lo) 0 0 n) (hrc : ∃ cell : Cell, H[b]? = some cell ∧ cell.vm.isStatics = false ∧ s.vm.findClass C0 = some cell.cls) (hn : As.length = n) (hls : ls.size = nL) (hst : st0 = As.reverse ++ .ref b :: rest) (hcat : (rest.map fun v => v.category).sum ≤ 8) (hP : va_P D vwCl w H) (hS : va_S A s.heap H locs) (hd : decode cc pc = .ok (.invokevirtual idx, 3))
    (kk : ∀ (H1 : Heap) (locs1 : List Loc), va_P D vwCl w' H1 → va_S A s.heap H1 locs1 → W p l e R s m args below meth c H1 locs1 0 0 Q (F0 m (pc + 3) ls rest)) : W p l e R s m args below meth c H locs 0 0 Q (F0 m pc ls st0) := by
  have hp : PreV s H C0 b (Pr D tys A kS vS w (.ref b :: As)) As := ⟨Pr_blind, hrc, Pr_at C hP hS⟩
  obtain ⟨hx, hb, hml, hown, hts, hK, hKS⟩ := C
  refine va_callv (va_runU ⟨hx, hb, hml, hown, hts⟩ hM cw hp rfl hn hls hst (lv_room hcat) hd ⟨Nat.zero_le _, Nat.zero_le _⟩) hS (fun q _ h => h) (fun q h => h) (fun u t H1 locs1 ht hvm hw hB hz hk hS1 => ?_)
  exact kk H1 locs1 (by rw [← ht]; exact hB.1) hS1
end BASE
