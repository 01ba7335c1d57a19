/-! ===== constant objects beside the world: strings, commands, tables ===== -/
def sTx : List (List Int) := [[112, 111, 114, 116], [108, 101, 103], [99, 117, 116], [115, 104, 105, 112], [112, 97, 121], [108, 101, 97, 118, 101], [102, 111, 103], [110, 105, 103, 104, 116], [], [49, 49, 50, 50], [49, 49], [49, 49, 52], [49, 52], [49], [62], [58], [45], [110], [47], [42], [102, 111, 103, 32], [59, 110, 105, 103, 104, 116, 59, 112, 97, 121, 32], [32, 55, 53, 59, 110, 105, 103, 104, 116], []]
def sLn (i : Nat) : Nat := (sTx.getD i []).length
def sCh (i : Nat) (j : Int) : Int := (sTx.getD i []).getD j.toNat 0
theorem sLn_le (i : Nat) : sLn i ≤ 11 := by
  by_cases h : i < 24
  · have := (by decide : ∀ i, i < 24 → sLn i ≤ 11) i h
    exact this
  · unfold sLn
    rw [List.getD_eq_getElem?_getD, List.getElem?_eq_none (by show 24 ≤ i; omega)]
    decide
theorem sCh_in (i : Nat) (j : Int) : 0 ≤ sCh i j ∧ sCh i j ≤ 126 := by
  by_cases h : i < 24
  · by_cases g : j.toNat < 11
    · exact (by decide : ∀ i, i < 24 → ∀ k, k < 11 → 0 ≤ (sTx.getD i []).getD k 0 ∧ (sTx.getD i []).getD k 0 ≤ 126) i h j.toNat g
    · have := sLn_le i
      unfold sCh
      rw [List.getD_eq_getElem?_getD, List.getElem?_eq_none (by have : (sTx.getD i []).length ≤ 11 := this; omega)]
      decide
  · unfold sCh
    rw [List.getD_eq_getElem?_getD (l := sTx), List.getElem?_eq_none (by show 24 ≤ i; omega)]
    exact (by decide : (0 : Int) ≤ 0 ∧ (0 : Int) ≤ 126)
/-- which string has a command's digits -/
def dgI : Nat → Nat
  | 0 => 8
  | 1 => 9
  | 2 => 10
  | 3 => 11
  | 4 => 12
  | 5 => 13
  | 6 => 13
  | _ => 8
/-- the row by which the class's switches go -/
def swV : Nat → Int
  | 0 => 1
  | 1 => 2
  | 2 => 3
  | 3 => 4
  | 4 => 5
  | 5 => 6
  | 6 => 7
  | _ => 0
/-- the strings of the law's own words: (entry, which) -/
def mStrs : List (Nat × String × Nat) := [(317, ">", 14), (322, ":", 15), (324, "-", 16), (326, "n", 17), (338, "/", 18), (340, "*", 19), (342, "", 23), (376, "fog ", 20), (378, ";night;pay ", 21), (380, " 75;night", 22)]
def zStr (K : Nat → Nat) (i : Nat) (A : Nat → Prop) (U : State) (H : Heap) : Prop := va_O "java/lang/String" (K (100 + i)) A U H ∧ va_OF "java/lang/String" "coder" "B" (.int (iI 0)) (K (100 + i)) A U H ∧ va_OF "java/lang/String" "value" "[B" (.ref (K (200 + i))) (K (100 + i)) A U H ∧ va_T .byte (K (200 + i)) (sLn i) (fun j => .int (iI (sCh i (j : Int)))) A U H
def zCmd (K : Nat → Nat) (i : Nat) (A : Nat → Prop) (U : State) (H : Heap) : Prop := va_O "HarborLights$Command" (K i) A U H ∧ va_OF "java/lang/Enum" "ordinal" "I" (.int (iI (i : Int))) (K i) A U H ∧ va_OF "HarborLights$Command" "word" "Ljava/lang/String;" (.ref (K (100 + i))) (K i) A U H ∧ va_OF "HarborLights$Command" "digits" "Ljava/lang/String;" (.ref (K (100 + dgI i))) (K i) A U H
def zTab (K : Nat → Nat) (A : Nat → Prop) (U : State) (H : Heap) : Prop := va_Z "java/lang/String" "COMPACT_STRINGS" "Z" (.int (iI 1)) A U H ∧ va_Zq "jdk/internal/util/Preconditions" "SIOOBE_FORMATTER" "Ljava/util/function/BiFunction;" A U H ∧
  (va_Z "java/lang/Integer" "DigitOnes" "[B" (.ref (K 10)) A U H ∧ va_T .byte (K 10) 100 (fun j => .int (iI (48 + (j : Int) % 10))) A U H) ∧ (va_Z "java/lang/Integer" "DigitTens" "[B" (.ref (K 11)) A U H ∧ va_T .byte (K 11) 100 (fun j => .int (iI (48 + (j : Int) / 10))) A U H) ∧
  (va_Z "HarborLights$1" "$SwitchMap$HarborLights$Command" "[I" (.ref (K 9)) A U H ∧ va_T .int (K 9) 8 (fun j => .int (iI (swV j))) A U H) ∧ (va_Z "HarborLights$Script" "COMMANDS" "[LHarborLights$Command;" (.ref (K 8)) A U H ∧ va_T (.object "HarborLights$Command") (K 8) 8 (fun j => .ref (K j)) A U H)
def zCnH (K : Nat → Nat) (A : Nat → Prop) (U : State) (H : Heap) : Prop := zTab K A U H ∧ (∀ i, i < 8 → zCmd K i A U H) ∧ (∀ i, i < 24 → zStr K i A U H)
def zCnR (K : Nat → Nat) (U : State) : Prop := ∀ q ∈ mStrs, vk_R RL q.1 q.2.1 (K (100 + q.2.2)) U
def nestL : List (String × Nat × MethodName) := [(RX9, 9, yX1_init), (RX9, 18, yX8_init), (RX4, 11, yX9_init), (RX4, 20, yX5_init), (RX4, 27, yX7_init), (RX10, 9, yX4_init), (RX10, 18, yX6_init), (RX10, 32, yX9_init), (RX3, 17, yX9_init)]
def zPort (K : Nat → Nat) (A : Nat → Prop) (U : State) (H : Heap) : Prop := va_Z "HarborLights$Command" "PORT" "LHarborLights$Command;" (.ref (K 0)) A U H ∧ va_AO "HarborLights$State" U ∧ ∀ q ∈ nestL, va_Nw (.methodLinkNest q.1 q.2.1 q.2.2 "HarborLights") U
theorem zPort.at {K : Nat → Nat} {A A' : Nat → Prop} {s U : State} {H : Heap} {locs : List Loc} (h : zPort K A s s.heap) (hS : va_S A s.heap H locs) (hAA : ∀ q, A' q → A q) (hU : U.heap = H) (hW : s.WarmedH U.vm) : zPort K A' U U.heap := by
  rw [hU]
  exact ⟨va_Z.moved hW.alike ((h.1.kept hS.2.1).narrow hAA), va_AO.moved hW.alike h.2.1, fun q hq => va_Nw.warmM hW (h.2.2 q hq)⟩
theorem zPort.same {K : Nat → Nat} {A : Nat → Prop} {u U : State} (hv : u.vm = U.vm) (hh : u.heap = U.heap) (h : zPort K A u u.heap) : zPort K A U U.heap := by
  rw [← hh]
  exact ⟨va_Z.moved (by rw [← hv]; exact Vm.Alike.refl _) h.1, va_AO.moved (by rw [← hv]; exact Vm.Alike.refl _) h.2.1, fun q hq => va_Nw.same (u := u) (U := U) rfl hv (h.2.2 q hq)⟩
/-- the script: an array of ints that nobody writes -/
def zScr (K : Nat → Nat) (A : Nat → Prop) (U : State) (H : Heap) : Prop := K 13 ≤ 260 ∧ ∃ f : Nat → Int32, va_T .int (K 12) (K 13) (fun j => .int (f j)) A U H
theorem zScr.tr {K : Nat → Nat} {A B : Nat → Prop} {u U : State} {H H1 : Heap} (h : zScr K A u H) (hq : ∀ a : Nat, a < H.size → ¬ A a → H1[a]? = H[a]?) (hAB : ∀ q, B q → A q) (hvm : u.vm.Alike U.vm) : zScr K B U H1 := ⟨h.1, h.2.elim fun f hf => ⟨f, va_T.moved hvm ((hf.kept hq).narrow hAB)⟩⟩
def zCn (K : Nat → Nat) (A : Nat → Prop) (U : State) : Prop := zCnH K A U U.heap ∧ zCnR K U ∧ zScr K A U U.heap ∧ zPort K A U U.heap
theorem zStr.tr {K : Nat → Nat} {i : Nat} {A B : Nat → Prop} {u U : State} {H H1 : Heap} (h : zStr K i A u H) (hq : ∀ a : Nat, a < H.size → ¬ A a → H1[a]? = H[a]?) (hAB : ∀ q, B q → A q) (hvm : u.vm.Alike U.vm) : zStr K i B U H1 := ⟨va_O.moved hvm ((h.1.kept hq).narrow hAB), va_OF.moved hvm ((h.2.1.kept hq).narrow hAB), va_OF.moved hvm ((h.2.2.1.kept hq).narrow hAB), va_T.moved hvm ((h.2.2.2.kept hq).narrow hAB)⟩
theorem zCmd.tr {K : Nat → Nat} {i : Nat} {A B : Nat → Prop} {u U : State} {H H1 : Heap} (h : zCmd K i A u H) (hq : ∀ a : Nat, a < H.size → ¬ A a → H1[a]? = H[a]?) (hAB : ∀ q, B q → A q) (hvm : u.vm.Alike U.vm) : zCmd K i B U H1 := ⟨va_O.moved hvm ((h.1.kept hq).narrow hAB), va_OF.moved hvm ((h.2.1.kept hq).narrow hAB), va_OF.moved hvm ((h.2.2.1.kept hq).narrow hAB), va_OF.moved hvm ((h.2.2.2.kept hq).narrow hAB)⟩
theorem zTab.tr {K : Nat → Nat} {A B : Nat → Prop} {u U : State} {H H1 : Heap} (h : zTab K A u H) (hq : ∀ a : Nat, a < H.size → ¬ A a → H1[a]? = H[a]?) (hAB : ∀ q, B q → A q) (hvm : u.vm.Alike U.vm) : zTab K B U H1 := by
  obtain ⟨h1, h2, ⟨h3, h4⟩, ⟨h5, h6⟩, ⟨h7, h8⟩, ⟨h9, h10⟩⟩ := h
  exact ⟨va_Z.moved hvm ((h1.kept hq).narrow hAB), va_Zq.moved hvm ((h2.kept hq).narrow hAB), ⟨va_Z.moved hvm ((h3.kept hq).narrow hAB), va_T.moved hvm ((h4.kept hq).narrow hAB)⟩, ⟨va_Z.moved hvm ((h5.kept hq).narrow hAB), va_T.moved hvm ((h6.kept hq).narrow hAB)⟩, ⟨va_Z.moved hvm ((h7.kept hq).narrow hAB), va_T.moved hvm ((h8.kept hq).narrow hAB)⟩, ⟨va_Z.moved hvm ((h9.kept hq).narrow hAB), va_T.moved hvm ((h10.kept hq).narrow hAB)⟩⟩
theorem zCnH.tr {K : Nat → Nat} {A B : Nat → Prop} {u U : State} {H H1 : Heap} (h : zCnH K A u H) (hq : ∀ a : Nat, a < H.size → ¬ A a → H1[a]? = H[a]?) (hAB : ∀ q, B q → A q) (hvm : u.vm.Alike U.vm) : zCnH K B U H1 := ⟨h.1.tr hq hAB hvm, fun i hi => (h.2.1 i hi).tr hq hAB hvm, fun i hi => (h.2.2 i hi).tr hq hAB hvm⟩
theorem zCn.at {K : Nat → Nat} {A A' : Nat → Prop} {s U : State} {H : Heap} {locs : List Loc} (h : zCn K A s) (hS : va_S A s.heap H locs) (hAA : ∀ q, A' q → A q) (hU : U.heap = H) (hW : s.WarmedH U.vm) : zCn K A' U := by
  refine ⟨?_, fun q hq => vk_R.warm hW (h.2.1 q hq), ?_, h.2.2.2.at hS hAA hU hW⟩
  · rw [hU]
    exact h.1.tr hS.2.1 hAA hW.alike
  · rw [hU]
    exact h.2.2.1.tr hS.2.1 hAA hW.alike
theorem zCn.same {K : Nat → Nat} {A : Nat → Prop} {u U : State} (hv : u.vm = U.vm) (hh : u.heap = U.heap) (h : zCn K A u) : zCn K A U := by
  refine ⟨?_, fun q hq => vk_R.same hv.symm (h.2.1 q hq), ?_, h.2.2.2.same hv hh⟩
  · rw [← hh]
    exact h.1.tr (fun _ _ _ => rfl) (fun _ z => z) (by rw [← hv]; exact Vm.Alike.refl _)
  · rw [← hh]
    exact h.2.2.1.tr (fun _ _ _ => rfl) (fun _ z => z) (by rw [← hv]; exact Vm.Alike.refl _)
def zPreC (K : Nat → Nat) (D : va_G) (tA : Nat → ClassId) (ws : va_W) (sz : Nat) : State → Prop := fun U => zPre D tA ws sz U ∧ zCn K (va_A ws sz) U
theorem zPcC_calling {K : Nat → Nat} {D : va_G} {tA : Nat → ClassId} {av : List Value} {ws : va_W} {sz : Nat} : ∀ (a : Array Value) (U : State) (g : JFrame) (mk : MethodId), va_Pc av (zPreC K D tA ws sz) a U → va_Pc av (zPreC K D tA ws sz) a (U.calling g mk a) := by
  intro a U g mk ⟨q0, q1, q2⟩
  have h := zPc_calling a U g mk ⟨q0, q1⟩
  exact ⟨q0, h.2, q2.same rfl rfl⟩
def zCi {S : Type} (l : Launch) (y : MethodName) (w : List Cond) (rm : Room) (K : Nat → Nat) (D : va_G) (tA : Nat → ClassId) (av : List Value) (ws : va_W) (sz : Nat) (post : Int → S → Prop) (ws' : S → va_W) (mc ms : Nat) : Prop :=
  Met l y w rm (va_Pc av (zPreC K D tA ws sz)) (va_Qi (fun r (u : Int × S) => r = iI u.1 ∧ post u.1 u.2) (fun u => zB D tA (va_A ws sz) (ws' u.2)) (va_A ws sz)) mc ms (va_A ws sz)
def zCv {S : Type} (l : Launch) (y : MethodName) (w : List Cond) (rm : Room) (K : Nat → Nat) (D : va_G) (tA : Nat → ClassId) (av : List Value) (ws : va_W) (sz : Nat) (post : S → Prop) (ws' : S → va_W) (mc ms : Nat) : Prop :=
  Met l y w rm (va_Pc av (zPreC K D tA ws sz)) (va_Qv (fun (u : S) => post u) (fun u => zB D tA (va_A ws sz) (ws' u)) (va_A ws sz)) mc ms (va_A ws sz)
def zCr {S : Type} (l : Launch) (y : MethodName) (w : List Cond) (rm : Room) (K : Nat → Nat) (D : va_G) (tA : Nat → ClassId) (av : List Value) (rv : Nat) (ws : va_W) (sz : Nat) (post : S → Prop) (ws' : S → va_W) (mc ms : Nat) : Prop :=
  Met l y w rm (va_Pc av (zPreC K D tA ws sz)) (va_Qr (fun (u : S) => post u) (fun u q t => q = rv ∧ zB D tA (va_A ws sz) (ws' u) t) (va_A ws sz)) mc ms (va_A ws sz)
theorem zCi_of {S : Type} {l : Launch} {y : MethodName} {w : List Cond} {rm : Room} {K : Nat → Nat} {D : va_G} {tA : Nat → ClassId} {av : List Value} {ws : va_W} {sz : Nat} {post : Int → S → Prop} {ws' : S → va_W} {mc ms : Nat} {cc : ByteArray} {maxL : Nat} {ty : FieldType} {w0 : List Cond} (hy : plainName y.cls = true) (hw : w = Cond.code y cc maxL (some ty) :: w0) (hn : ∀ z u, post z u → narrow ty (.int (iI z)) = .int (iI z)) (hlen : (lg_sl av).length ≤ maxL)
    (body : ∀ (p : Program) (e : Env) (s : State) (m : MethodId) (args : Array Value) (below : List Frame) (meth : Method) (c : Code) (A : Nat → Prop) (Q : State → Prop) (ls : Array Slot), p.tables.exec = Jvm.exec → c.code = cc → c.maxLocals = maxL → (∀ v ∈ w, v.before args s = true) → s.vm.findClass y.cls = some m.cls → zK D tA s → va_P D vwCl ws s.heap → va_D A ws → (∀ q, s.heap.size ≤ q → A q) → zCn K A s →
      (∀ (z : Int) (u : S) (H : Heap) (locs : List Loc) (pc : Nat) (ls : Array Slot), decode cc pc = .ok (.ireturn, 1) → post z u → va_P D vwCl (ws' u) H → va_D A (ws' u) → va_S A s.heap H locs → W p l e (headSpec w rm).room s m args below meth c H locs mc ms Q (F0 m pc ls [.int (iI z)])) →
      lv_has ls maxL (lv_args 0 av) → W p l e (headSpec w rm).room s m args below meth c s.heap [] 0 0 Q (F0 m 0 ls [])) : zCi l y w rm K D tA av ws sz post ws' mc ms := by
  refine Met.ofW (cc := cc) (maxL := maxL) (ret := (some ty)) hy hw ?_
  intro p e s m args below meth c s₁ B hml hv
  obtain ⟨hav, ⟨hsz, hP, hK, hD0⟩, hC⟩ := hv
  subst hav
  subst hsz
  have hts := atoms_spec (ws := w) B.pre
  have hl := lv_entry av (n := maxL) hlen
  rw [lg_entry_eq]
  exact body p e s m _ below meth c (va_A ws s.heap.size) _ _ B.exec B.bytes hml hts (findClass_of_methodNamed B.named) hK hP hD0.self (fun q h => Or.inr h) hC
    (fun z u H locs pc ls hd hp hP' hD' hS => W.zret B.exec B.bytes B.returns (hn z u hp) (fun t ht hW => ⟨⟨iI z, (z, u), rfl, ⟨rfl, hp⟩, by rw [ht]; exact hP', va_K.moved hW.alike hK, hD'⟩, hS.F ht⟩) hS.2.2 hd B.notSynchronized) hl
theorem zCv_of {S : Type} {l : Launch} {y : MethodName} {w : List Cond} {rm : Room} {K : Nat → Nat} {D : va_G} {tA : Nat → ClassId} {av : List Value} {ws : va_W} {sz : Nat} {post : S → Prop} {ws' : S → va_W} {mc ms : Nat} {cc : ByteArray} {maxL : Nat} {w0 : List Cond} (hy : plainName y.cls = true) (hw : w = Cond.code y cc maxL none :: w0) (hlen : (lg_sl av).length ≤ maxL)
    (body : ∀ (p : Program) (e : Env) (s : State) (m : MethodId) (args : Array Value) (below : List Frame) (meth : Method) (c : Code) (A : Nat → Prop) (Q : State → Prop) (ls : Array Slot), p.tables.exec = Jvm.exec → c.code = cc → c.maxLocals = maxL → (∀ v ∈ w, v.before args s = true) → s.vm.findClass y.cls = some m.cls → zK D tA s → va_P D vwCl ws s.heap → va_D A ws → (∀ q, s.heap.size ≤ q → A q) → zCn K A s →
      (∀ (u : S) (H : Heap) (locs : List Loc) (pc : Nat) (ls : Array Slot), decode cc pc = .ok (.return_, 1) → post u → va_P D vwCl (ws' u) H → va_D A (ws' u) → va_S A s.heap H locs → W p l e (headSpec w rm).room s m args below meth c H locs mc ms Q (F0 m pc ls [])) →
      lv_has ls maxL (lv_args 0 av) → W p l e (headSpec w rm).room s m args below meth c s.heap [] 0 0 Q (F0 m 0 ls [])) : zCv l y w rm K D tA av ws sz post ws' mc ms := by
  refine Met.ofW (cc := cc) (maxL := maxL) (ret := none) hy hw ?_
  intro p e s m args below meth c s₁ B hml hv
  obtain ⟨hav, ⟨hsz, hP, hK, hD0⟩, hC⟩ := hv
  subst hav
  subst hsz
  have hts := atoms_spec (ws := w) B.pre
  have hl := lv_entry av (n := maxL) hlen
  rw [lg_entry_eq]
  exact body p e s m _ below meth c (va_A ws s.heap.size) _ _ B.exec B.bytes hml hts (findClass_of_methodNamed B.named) hK hP hD0.self (fun q h => Or.inr h) hC
    (fun u H locs pc ls hd hp hP' hD' hS => W.vret B.exec B.bytes B.returns (fun t ht hW => ⟨⟨u, rfl, hp, by rw [ht]; exact hP', va_K.moved hW.alike hK, hD'⟩, hS.F ht⟩) hS.2.2 hd B.notSynchronized) hl
theorem zCr_of {S : Type} {l : Launch} {y : MethodName} {w : List Cond} {rm : Room} {K : Nat → Nat} {D : va_G} {tA : Nat → ClassId} {av : List Value} {rv : Nat} {ws : va_W} {sz : Nat} {post : S → Prop} {ws' : S → va_W} {mc ms : Nat} {cc : ByteArray} {maxL : Nat} {ty : FieldType} {w0 : List Cond} (hy : plainName y.cls = true) (hw : w = Cond.code y cc maxL (some ty) :: w0) (hrt : (∃ n, ty = .object n) ∨ ∃ t, ty = .array t) (hlen : (lg_sl av).length ≤ maxL)
    (body : ∀ (p : Program) (e : Env) (s : State) (m : MethodId) (args : Array Value) (below : List Frame) (meth : Method) (c : Code) (A : Nat → Prop) (Q : State → Prop) (ls : Array Slot), p.tables.exec = Jvm.exec → c.code = cc → c.maxLocals = maxL → (∀ v ∈ w, v.before args s = true) → s.vm.findClass y.cls = some m.cls → zK D tA s → va_P D vwCl ws s.heap → va_D A ws → (∀ q, s.heap.size ≤ q → A q) → zCn K A s →
      (∀ (u : S) (H : Heap) (locs : List Loc) (pc : Nat) (ls : Array Slot), decode cc pc = .ok (.areturn, 1) → post u → va_P D vwCl (ws' u) H → va_D A (ws' u) → va_S A s.heap H locs → W p l e (headSpec w rm).room s m args below meth c H locs mc ms Q (F0 m pc ls [.ref rv])) →
      lv_has ls maxL (lv_args 0 av) → W p l e (headSpec w rm).room s m args below meth c s.heap [] 0 0 Q (F0 m 0 ls [])) : zCr l y w rm K D tA av rv ws sz post ws' mc ms := by
  refine Met.ofW (cc := cc) (maxL := maxL) (ret := (some ty)) hy hw ?_
  intro p e s m args below meth c s₁ B hml hv
  obtain ⟨hav, ⟨hsz, hP, hK, hD0⟩, hC⟩ := hv
  subst hav
  subst hsz
  have hts := atoms_spec (ws := w) B.pre
  have hl := lv_entry av (n := maxL) hlen
  rw [lg_entry_eq]
  exact body p e s m _ below meth c (va_A ws s.heap.size) _ _ B.exec B.bytes hml hts (findClass_of_methodNamed B.named) hK hP hD0.self (fun q h => Or.inr h) hC
    (fun u H locs pc ls hd hp hP' hD' hS => W.aret B.exec B.bytes B.returns hrt (Or.inr ⟨rv, rfl⟩) (fun t ht hW => ⟨⟨u, rv, rfl, hp, rfl, by rw [ht]; exact hP', va_K.moved hW.alike hK, hD'⟩, hS.F ht⟩) hS.2.2 hd B.notSynchronized) hl
section ZCC
variable {p : Program} {l : Launch} {e : Env} {R : Room} {s : State} {m : MethodId} {args : Array Value} {below : List Frame} {meth : Method} {c : Code} {H : Heap} {locs : List Loc} {cells slots : Nat} {Q : State → Prop}
variable {cc : ByteArray} {pc : Nat} {ls : Array Slot} {rest st0 : List Value} {K : Nat → Nat} {D : va_G} {tA : Nat → ClassId} {ws wc : va_W} {A : Nat → Prop}
variable {y : MethodName} {bytes : ByteArray} {maxL nL mc ms n index : Nat} {ret : Option FieldType} {w Ts : List Cond} {rm : Room} {own C : String} {b : Addr} {As : List Value}
theorem zc_callVi {S : Type} {post : Int → S → Prop} {ws' wf : S → va_W} (hfix : CallFix p m c cc nL s args Ts own) (hM : zCi l y w rm K D tA (.ref b :: As) wc H.size post ws' mc ms) (cw : CallW R s args own C index y bytes maxL ret w rm mc ms n) (hK : zK D tA s) (hP : va_P D vwCl ws H) (hD : va_D A ws) (hS : va_S A s.heap H locs) (hA : ∀ q, s.heap.size ≤ q → A q) (hCn : zCn K A s) (isC isR isF : List Nat)
    (hC : isC.map (fun i => ws[i]?) = wc.map some) (hR : isR.map (fun i => ws[i]?) = (isR.filterMap (fun i => ws[i]?)).map some) (hn1 : va_nd isC = true) (hn2 : va_nd isR = true) (hn3 : va_nd isF = true) (hdis : ∀ i ∈ isR, i ∉ isC) (hF : ∀ u, isF.map (fun i => (isR.filterMap (fun i => ws[i]?) ++ ws' u)[i]?) = (wf u).map some) {ci q0 : Nat} {cq : vw_C} {fs : List Value} (hc : vwCl[ci]? = some cq) (hcq : cq.1 = C) (he : wc[q0]? = some (b, .inr (ci, fs)))
    (hst : st0 = As.reverse ++ .ref b :: rest) (hnn : As.length = n) (hsize : ls.size = nL) (hroom : (rest.map fun v => v.category).sum ≤ 8) (hd : decode cc pc = .ok (.invokevirtual index, 3)) (hf : cells + mc ≤ R.cells ∧ slots + ms ≤ R.slots)
    (kk : ∀ (z : Int) (u : S) (H1 : Heap) (locs1 : List Loc), post z u → va_P D vwCl (wf u) H1 → va_D A (wf u) → va_S A s.heap H1 locs1 → W p l e R s m args below meth c H1 locs1 (cells + mc) (slots + ms) Q (F0 m (pc + 3) ls (.int (iI z) :: rest))) : W p l e R s m args below meth c H locs cells slots Q (F0 m pc ls st0) := by
  have hPc := zP_sub hP isC hC
  have hDc := hD.sub isC hn1 hC
  have hFc := va_free hD hS hA isC hC
  refine va_calli (va_runV hfix hM cw ⟨fun a U g mk => zPcC_calling a U g mk, ?_, ?_⟩ rfl hnn hsize hst (lv_room hroom) hd hf) hS (fun q _ h => hFc q h) hFc ?_
  · have h := va_recv hK hPc hc he
    rw [hcq] at h
    exact h
  · intro U hU hW
    exact ⟨rfl, ⟨by rw [hU], by rw [hU]; exact hPc, va_K.moved hW.alike hK, hDc.weaken (fun _ _ _ _ => trivial)⟩, hCn.at hS hFc hU hW⟩
  · intro r u t H1 locs1 ht hvm hw hB hz1 hk1 hS1
    obtain ⟨hP1, hK1, hD1⟩ := hB
    obtain ⟨hr, hp⟩ := hw
    subst hr
    rw [ht] at hP1
    obtain ⟨hP2, hD2⟩ := va_join hP hD isC isR hC hR hn2 hdis hk1 hFc hP1 hD1
    exact kk u.1 u.2 H1 locs1 hp (zP_sub hP2 isF (hF u.2)) (hD2.sub isF hn3 (hF u.2)) hS1
theorem zc_callVv {S : Type} {post : S → Prop} {ws' wf : S → va_W} (hfix : CallFix p m c cc nL s args Ts own) (hM : zCv l y w rm K D tA (.ref b :: As) wc H.size post ws' mc ms) (cw : CallW R s args own C index y bytes maxL ret w rm mc ms n) (hK : zK D tA s) (hP : va_P D vwCl ws H) (hD : va_D A ws) (hS : va_S A s.heap H locs) (hA : ∀ q, s.heap.size ≤ q → A q) (hCn : zCn K A s) (isC isR isF : List Nat)
    (hC : isC.map (fun i => ws[i]?) = wc.map some) (hR : isR.map (fun i => ws[i]?) = (isR.filterMap (fun i => ws[i]?)).map some) (hn1 : va_nd isC = true) (hn2 : va_nd isR = true) (hn3 : va_nd isF = true) (hdis : ∀ i ∈ isR, i ∉ isC) (hF : ∀ u, isF.map (fun i => (isR.filterMap (fun i => ws[i]?) ++ ws' u)[i]?) = (wf u).map some) {ci q0 : Nat} {cq : vw_C} {fs : List Value} (hc : vwCl[ci]? = some cq) (hcq : cq.1 = C) (he : wc[q0]? = some (b, .inr (ci, fs)))
    (hst : st0 = As.reverse ++ .ref b :: rest) (hnn : As.length = n) (hsize : ls.size = nL) (hroom : (rest.map fun v => v.category).sum ≤ 8) (hd : decode cc pc = .ok (.invokevirtual index, 3)) (hf : cells + mc ≤ R.cells ∧ slots + ms ≤ R.slots)
    (kk : ∀ (u : S) (H1 : Heap) (locs1 : List Loc), post u → va_P D vwCl (wf u) H1 → va_D A (wf u) → va_S A s.heap H1 locs1 → W p l e R s m args below meth c H1 locs1 (cells + mc) (slots + ms) Q (F0 m (pc + 3) ls rest)) : W p l e R s m args below meth c H locs cells slots Q (F0 m pc ls st0) := by
  have hPc := zP_sub hP isC hC
  have hDc := hD.sub isC hn1 hC
  have hFc := va_free hD hS hA isC hC
  refine va_callv (va_runV hfix hM cw ⟨fun a U g mk => zPcC_calling a U g mk, ?_, ?_⟩ rfl hnn hsize hst (lv_room hroom) hd hf) hS (fun q _ h => hFc q h) hFc ?_
  · have h := va_recv hK hPc hc he
    rw [hcq] at h
    exact h
  · intro U hU hW
    exact ⟨rfl, ⟨by rw [hU], by rw [hU]; exact hPc, va_K.moved hW.alike hK, hDc.weaken (fun _ _ _ _ => trivial)⟩, hCn.at hS hFc hU hW⟩
  · intro u t H1 locs1 ht hvm hp hB hz1 hk1 hS1
    obtain ⟨hP1, hK1, hD1⟩ := hB
    rw [ht] at hP1
    obtain ⟨hP2, hD2⟩ := va_join hP hD isC isR hC hR hn2 hdis hk1 hFc hP1 hD1
    exact kk u H1 locs1 hp (zP_sub hP2 isF (hF u)) (hD2.sub isF hn3 (hF u)) hS1
theorem zc_callVr {S : Type} {rv : Nat} {post : S → Prop} {ws' wf : S → va_W} (hfix : CallFix p m c cc nL s args Ts own) (hM : zCr l y w rm K D tA (.ref b :: As) rv wc H.size post ws' mc ms) (cw : CallW R s args own C index y bytes maxL ret w rm mc ms n) (hK : zK D tA s) (hP : va_P D vwCl ws H) (hD : va_D A ws) (hS : va_S A s.heap H locs) (hA : ∀ q, s.heap.size ≤ q → A q) (hCn : zCn K A s) (isC isR isF : List Nat)
    (hC : isC.map (fun i => ws[i]?) = wc.map some) (hR : isR.map (fun i => ws[i]?) = (isR.filterMap (fun i => ws[i]?)).map some) (hn1 : va_nd isC = true) (hn2 : va_nd isR = true) (hn3 : va_nd isF = true) (hdis : ∀ i ∈ isR, i ∉ isC) (hF : ∀ u, isF.map (fun i => (isR.filterMap (fun i => ws[i]?) ++ ws' u)[i]?) = (wf u).map some) {ci q0 : Nat} {cq : vw_C} {fs : List Value} (hc : vwCl[ci]? = some cq) (hcq : cq.1 = C) (he : wc[q0]? = some (b, .inr (ci, fs)))
    (hst : st0 = As.reverse ++ .ref b :: rest) (hnn : As.length = n) (hsize : ls.size = nL) (hroom : (rest.map fun v => v.category).sum ≤ 8) (hd : decode cc pc = .ok (.invokevirtual index, 3)) (hf : cells + mc ≤ R.cells ∧ slots + ms ≤ R.slots)
    (kk : ∀ (u : S) (H1 : Heap) (locs1 : List Loc), post u → va_P D vwCl (wf u) H1 → va_D A (wf u) → va_S A s.heap H1 locs1 → W p l e R s m args below meth c H1 locs1 (cells + mc) (slots + ms) Q (F0 m (pc + 3) ls (.ref rv :: rest))) : W p l e R s m args below meth c H locs cells slots Q (F0 m pc ls st0) := by
  have hPc := zP_sub hP isC hC
  have hDc := hD.sub isC hn1 hC
  have hFc := va_free hD hS hA isC hC
  refine va_callr (va_runV hfix hM cw ⟨fun a U g mk => zPcC_calling a U g mk, ?_, ?_⟩ rfl hnn hsize hst (lv_room hroom) hd hf) hS (fun q _ h => hFc q h) hFc ?_
  · have h := va_recv hK hPc hc he
    rw [hcq] at h
    exact h
  · intro U hU hW
    exact ⟨rfl, ⟨by rw [hU], by rw [hU]; exact hPc, va_K.moved hW.alike hK, hDc.weaken (fun _ _ _ _ => trivial)⟩, hCn.at hS hFc hU hW⟩
  · intro u ra t H1 locs1 ht hvm hp hB hz1 hk1 hS1
    obtain ⟨hra, hP1, hK1, hD1⟩ := hB
    subst hra
    rw [ht] at hP1
    obtain ⟨hP2, hD2⟩ := va_join hP hD isC isR hC hR hn2 hdis hk1 hFc hP1 hD1
    exact kk u H1 locs1 hp (zP_sub hP2 isF (hF u)) (hD2.sub isF hn3 (hF u)) hS1
theorem zc_callSi {S : Type} {post : Int → S → Prop} {ws' wf : S → va_W} (hfix : CallFix p m c cc nL s args Ts own) (hM : zCi l y w rm K D tA (As) wc H.size post ws' mc ms) (cw : CallB R s args own index y bytes maxL ret w rm mc ms n ∧ (Cond.static y).before args s = true) (hK : zK D tA s) (hP : va_P D vwCl ws H) (hD : va_D A ws) (hS : va_S A s.heap H locs) (hA : ∀ q, s.heap.size ≤ q → A q) (hCn : zCn K A s) (isC isR isF : List Nat)
    (hC : isC.map (fun i => ws[i]?) = wc.map some) (hR : isR.map (fun i => ws[i]?) = (isR.filterMap (fun i => ws[i]?)).map some) (hn1 : va_nd isC = true) (hn2 : va_nd isR = true) (hn3 : va_nd isF = true) (hdis : ∀ i ∈ isR, i ∉ isC) (hF : ∀ u, isF.map (fun i => (isR.filterMap (fun i => ws[i]?) ++ ws' u)[i]?) = (wf u).map some) 
    (hst : st0 = As.reverse ++ rest) (hnn : As.length = n) (hsize : ls.size = nL) (hroom : (rest.map fun v => v.category).sum ≤ 8) (hd : decode cc pc = .ok (.invokestatic index, 3)) (hf : cells + mc ≤ R.cells ∧ slots + ms ≤ R.slots)
    (kk : ∀ (z : Int) (u : S) (H1 : Heap) (locs1 : List Loc), post z u → va_P D vwCl (wf u) H1 → va_D A (wf u) → va_S A s.heap H1 locs1 → W p l e R s m args below meth c H1 locs1 (cells + mc) (slots + ms) Q (F0 m (pc + 3) ls (.int (iI z) :: rest))) : W p l e R s m args below meth c H locs cells slots Q (F0 m pc ls st0) := by
  have hPc := zP_sub hP isC hC
  have hDc := hD.sub isC hn1 hC
  have hFc := va_free hD hS hA isC hC
  refine va_calli (va_runS hfix hM cw ⟨fun a U g mk => zPcC_calling a U g mk, ?_⟩ rfl hnn hsize hst (lv_room hroom) hd hf) hS (fun q _ h => hFc q h) hFc ?_
  · intro U hU hW
    exact ⟨rfl, ⟨by rw [hU], by rw [hU]; exact hPc, va_K.moved hW.alike hK, hDc.weaken (fun _ _ _ _ => trivial)⟩, hCn.at hS hFc hU hW⟩
  · intro r u t H1 locs1 ht hvm hw hB hz1 hk1 hS1
    obtain ⟨hP1, hK1, hD1⟩ := hB
    obtain ⟨hr, hp⟩ := hw
    subst hr
    rw [ht] at hP1
    obtain ⟨hP2, hD2⟩ := va_join hP hD isC isR hC hR hn2 hdis hk1 hFc hP1 hD1
    exact kk u.1 u.2 H1 locs1 hp (zP_sub hP2 isF (hF u.2)) (hD2.sub isF hn3 (hF u.2)) hS1
theorem zc_callSv {S : Type} {post : S → Prop} {ws' wf : S → va_W} (hfix : CallFix p m c cc nL s args Ts own) (hM : zCv l y w rm K D tA (As) wc H.size post ws' mc ms) (cw : CallB R s args own index y bytes maxL ret w rm mc ms n ∧ (Cond.static y).before args s = true) (hK : zK D tA s) (hP : va_P D vwCl ws H) (hD : va_D A ws) (hS : va_S A s.heap H locs) (hA : ∀ q, s.heap.size ≤ q → A q) (hCn : zCn K A s) (isC isR isF : List Nat)
    (hC : isC.map (fun i => ws[i]?) = wc.map some) (hR : isR.map (fun i => ws[i]?) = (isR.filterMap (fun i => ws[i]?)).map some) (hn1 : va_nd isC = true) (hn2 : va_nd isR = true) (hn3 : va_nd isF = true) (hdis : ∀ i ∈ isR, i ∉ isC) (hF : ∀ u, isF.map (fun i => (isR.filterMap (fun i => ws[i]?) ++ ws' u)[i]?) = (wf u).map some) 
    (hst : st0 = As.reverse ++ rest) (hnn : As.length = n) (hsize : ls.size = nL) (hroom : (rest.map fun v => v.category).sum ≤ 8) (hd : decode cc pc = .ok (.invokestatic index, 3)) (hf : cells + mc ≤ R.cells ∧ slots + ms ≤ R.slots)
    (kk : ∀ (u : S) (H1 : Heap) (locs1 : List Loc), post u → va_P D vwCl (wf u) H1 → va_D A (wf u) → va_S A s.heap H1 locs1 → W p l e R s m args below meth c H1 locs1 (cells + mc) (slots + ms) Q (F0 m (pc + 3) ls rest)) : W p l e R s m args below meth c H locs cells slots Q (F0 m pc ls st0) := by
  have hPc := zP_sub hP isC hC
  have hDc := hD.sub isC hn1 hC
  have hFc := va_free hD hS hA isC hC
  refine va_callv (va_runS hfix hM cw ⟨fun a U g mk => zPcC_calling a U g mk, ?_⟩ rfl hnn hsize hst (lv_room hroom) hd hf) hS (fun q _ h => hFc q h) hFc ?_
  · intro U hU hW
    exact ⟨rfl, ⟨by rw [hU], by rw [hU]; exact hPc, va_K.moved hW.alike hK, hDc.weaken (fun _ _ _ _ => trivial)⟩, hCn.at hS hFc hU hW⟩
  · intro u t H1 locs1 ht hvm hp hB hz1 hk1 hS1
    obtain ⟨hP1, hK1, hD1⟩ := hB
    rw [ht] at hP1
    obtain ⟨hP2, hD2⟩ := va_join hP hD isC isR hC hR hn2 hdis hk1 hFc hP1 hD1
    exact kk u H1 locs1 hp (zP_sub hP2 isF (hF u)) (hD2.sub isF hn3 (hF u)) hS1
theorem zc_callUi {S : Type} {ow : String} {x : MethodName} {post : Int → S → Prop} {ws' wf : S → va_W} (hfix : CallFix p m c cc nL s args Ts own) (hM : zCi l y w rm K D tA (.ref b :: As) wc H.size post ws' mc ms) (cw : va_CU R s args own C ow index x y bytes maxL ret w rm mc ms n) (hK : zK D tA s) (hP : va_P D vwCl ws H) (hD : va_D A ws) (hS : va_S A s.heap H locs) (hA : ∀ q, s.heap.size ≤ q → A q) (hCn : zCn K A s) (isC isR isF : List Nat)
    (hC : isC.map (fun i => ws[i]?) = wc.map some) (hR : isR.map (fun i => ws[i]?) = (isR.filterMap (fun i => ws[i]?)).map some) (hn1 : va_nd isC = true) (hn2 : va_nd isR = true) (hn3 : va_nd isF = true) (hdis : ∀ i ∈ isR, i ∉ isC) (hF : ∀ u, isF.map (fun i => (isR.filterMap (fun i => ws[i]?) ++ ws' u)[i]?) = (wf u).map some) {ci q0 : Nat} {cq : vw_C} {fs : List Value} (hc : vwCl[ci]? = some cq) (hcq : cq.1 = C) (he : wc[q0]? = some (b, .inr (ci, fs)))
    (hst : st0 = As.reverse ++ .ref b :: rest) (hnn : As.length = n) (hsize : ls.size = nL) (hroom : (rest.map fun v => v.category).sum ≤ 8) (hd : decode cc pc = .ok (.invokevirtual index, 3)) (hf : cells + mc ≤ R.cells ∧ slots + ms ≤ R.slots)
    (kk : ∀ (z : Int) (u : S) (H1 : Heap) (locs1 : List Loc), post z u → va_P D vwCl (wf u) H1 → va_D A (wf u) → va_S A s.heap H1 locs1 → W p l e R s m args below meth c H1 locs1 (cells + mc) (slots + ms) Q (F0 m (pc + 3) ls (.int (iI z) :: rest))) : W p l e R s m args below meth c H locs cells slots Q (F0 m pc ls st0) := by
  have hPc := zP_sub hP isC hC
  have hDc := hD.sub isC hn1 hC
  have hFc := va_free hD hS hA isC hC
  refine va_calli (va_runU hfix hM cw ⟨fun a U g mk => zPcC_calling a U g mk, ?_, ?_⟩ rfl hnn hsize hst (lv_room hroom) hd hf) hS (fun q _ h => hFc q h) hFc ?_
  · have h := va_recv hK hPc hc he
    rw [hcq] at h
    exact h
  · intro U hU hW
    exact ⟨rfl, ⟨by rw [hU], by rw [hU]; exact hPc, va_K.moved hW.alike hK, hDc.weaken (fun _ _ _ _ => trivial)⟩, hCn.at hS hFc hU hW⟩
  · intro r u t H1 locs1 ht hvm hw hB hz1 hk1 hS1
    obtain ⟨hP1, hK1, hD1⟩ := hB
    obtain ⟨hr, hp⟩ := hw
    subst hr
    rw [ht] at hP1
    obtain ⟨hP2, hD2⟩ := va_join hP hD isC isR hC hR hn2 hdis hk1 hFc hP1 hD1
    exact kk u.1 u.2 H1 locs1 hp (zP_sub hP2 isF (hF u.2)) (hD2.sub isF hn3 (hF u.2)) hS1
theorem zc_callUv {S : Type} {ow : String} {x : MethodName} {post : S → Prop} {ws' wf : S → va_W} (hfix : CallFix p m c cc nL s args Ts own) (hM : zCv l y w rm K D tA (.ref b :: As) wc H.size post ws' mc ms) (cw : va_CU R s args own C ow index x y bytes maxL ret w rm mc ms n) (hK : zK D tA s) (hP : va_P D vwCl ws H) (hD : va_D A ws) (hS : va_S A s.heap H locs) (hA : ∀ q, s.heap.size ≤ q → A q) (hCn : zCn K A s) (isC isR isF : List Nat)
    (hC : isC.map (fun i => ws[i]?) = wc.map some) (hR : isR.map (fun i => ws[i]?) = (isR.filterMap (fun i => ws[i]?)).map some) (hn1 : va_nd isC = true) (hn2 : va_nd isR = true) (hn3 : va_nd isF = true) (hdis : ∀ i ∈ isR, i ∉ isC) (hF : ∀ u, isF.map (fun i => (isR.filterMap (fun i => ws[i]?) ++ ws' u)[i]?) = (wf u).map some) {ci q0 : Nat} {cq : vw_C} {fs : List Value} (hc : vwCl[ci]? = some cq) (hcq : cq.1 = C) (he : wc[q0]? = some (b, .inr (ci, fs)))
    (hst : st0 = As.reverse ++ .ref b :: rest) (hnn : As.length = n) (hsize : ls.size = nL) (hroom : (rest.map fun v => v.category).sum ≤ 8) (hd : decode cc pc = .ok (.invokevirtual index, 3)) (hf : cells + mc ≤ R.cells ∧ slots + ms ≤ R.slots)
    (kk : ∀ (u : S) (H1 : Heap) (locs1 : List Loc), post u → va_P D vwCl (wf u) H1 → va_D A (wf u) → va_S A s.heap H1 locs1 → W p l e R s m args below meth c H1 locs1 (cells + mc) (slots + ms) Q (F0 m (pc + 3) ls rest)) : W p l e R s m args below meth c H locs cells slots Q (F0 m pc ls st0) := by
  have hPc := zP_sub hP isC hC
  have hDc := hD.sub isC hn1 hC
  have hFc := va_free hD hS hA isC hC
  refine va_callv (va_runU hfix hM cw ⟨fun a U g mk => zPcC_calling a U g mk, ?_, ?_⟩ rfl hnn hsize hst (lv_room hroom) hd hf) hS (fun q _ h => hFc q h) hFc ?_
  · have h := va_recv hK hPc hc he
    rw [hcq] at h
    exact h
  · intro U hU hW
    exact ⟨rfl, ⟨by rw [hU], by rw [hU]; exact hPc, va_K.moved hW.alike hK, hDc.weaken (fun _ _ _ _ => trivial)⟩, hCn.at hS hFc hU hW⟩
  · intro u t H1 locs1 ht hvm hp hB hz1 hk1 hS1
    obtain ⟨hP1, hK1, hD1⟩ := hB
    rw [ht] at hP1
    obtain ⟨hP2, hD2⟩ := va_join hP hD isC isR hC hR hn2 hdis hk1 hFc hP1 hD1
    exact kk u H1 locs1 hp (zP_sub hP2 isF (hF u)) (hD2.sub isF hn3 (hF u)) hS1
theorem zc_callOi {S : Type} {post : Int → S → Prop} {ws' wf : S → va_W} (hfix : CallFix p m c cc nL s args Ts own) (hM : zCi l y w rm K D tA (.ref b :: As) wc H.size post ws' mc ms) (cw : CallW R s args own C index y bytes maxL ret w rm mc ms n) (hK : zK D tA s) (hP : va_P D vwCl ws H) (hD : va_D A ws) (hS : va_S A s.heap H locs) (hA : ∀ q, s.heap.size ≤ q → A q) (hCn : zCn K A s) (isC isR isF : List Nat)
    (hC : isC.map (fun i => ws[i]?) = wc.map some) (hR : isR.map (fun i => ws[i]?) = (isR.filterMap (fun i => ws[i]?)).map some) (hn1 : va_nd isC = true) (hn2 : va_nd isR = true) (hn3 : va_nd isF = true) (hdis : ∀ i ∈ isR, i ∉ isC) (hF : ∀ u, isF.map (fun i => (isR.filterMap (fun i => ws[i]?) ++ ws' u)[i]?) = (wf u).map some) (hO : va_O C b A s s.heap)
    (hst : st0 = As.reverse ++ .ref b :: rest) (hnn : As.length = n) (hsize : ls.size = nL) (hroom : (rest.map fun v => v.category).sum ≤ 8) (hd : decode cc pc = .ok (.invokevirtual index, 3)) (hf : cells + mc ≤ R.cells ∧ slots + ms ≤ R.slots)
    (kk : ∀ (z : Int) (u : S) (H1 : Heap) (locs1 : List Loc), post z u → va_P D vwCl (wf u) H1 → va_D A (wf u) → va_S A s.heap H1 locs1 → W p l e R s m args below meth c H1 locs1 (cells + mc) (slots + ms) Q (F0 m (pc + 3) ls (.int (iI z) :: rest))) : W p l e R s m args below meth c H locs cells slots Q (F0 m pc ls st0) := by
  have hPc := zP_sub hP isC hC
  have hDc := hD.sub isC hn1 hC
  have hFc := va_free hD hS hA isC hC
  refine va_calli (va_runV hfix hM cw ⟨fun a U g mk => zPcC_calling a U g mk, ?_, ?_⟩ rfl hnn hsize hst (lv_room hroom) hd hf) hS (fun q _ h => hFc q h) hFc ?_
  · obtain ⟨cell, o1, o2, o3, o4⟩ := hO.kept hS.2.1
    exact ⟨cell, o1, o2, o3⟩
  · intro U hU hW
    exact ⟨rfl, ⟨by rw [hU], by rw [hU]; exact hPc, va_K.moved hW.alike hK, hDc.weaken (fun _ _ _ _ => trivial)⟩, hCn.at hS hFc hU hW⟩
  · intro r u t H1 locs1 ht hvm hw hB hz1 hk1 hS1
    obtain ⟨hP1, hK1, hD1⟩ := hB
    obtain ⟨hr, hp⟩ := hw
    subst hr
    rw [ht] at hP1
    obtain ⟨hP2, hD2⟩ := va_join hP hD isC isR hC hR hn2 hdis hk1 hFc hP1 hD1
    exact kk u.1 u.2 H1 locs1 hp (zP_sub hP2 isF (hF u.2)) (hD2.sub isF hn3 (hF u.2)) hS1
theorem zc_callOv {S : Type} {post : S → Prop} {ws' wf : S → va_W} (hfix : CallFix p m c cc nL s args Ts own) (hM : zCv l y w rm K D tA (.ref b :: As) wc H.size post ws' mc ms) (cw : CallW R s args own C index y bytes maxL ret w rm mc ms n) (hK : zK D tA s) (hP : va_P D vwCl ws H) (hD : va_D A ws) (hS : va_S A s.heap H locs) (hA : ∀ q, s.heap.size ≤ q → A q) (hCn : zCn K A s) (isC isR isF : List Nat)
    (hC : isC.map (fun i => ws[i]?) = wc.map some) (hR : isR.map (fun i => ws[i]?) = (isR.filterMap (fun i => ws[i]?)).map some) (hn1 : va_nd isC = true) (hn2 : va_nd isR = true) (hn3 : va_nd isF = true) (hdis : ∀ i ∈ isR, i ∉ isC) (hF : ∀ u, isF.map (fun i => (isR.filterMap (fun i => ws[i]?) ++ ws' u)[i]?) = (wf u).map some) (hO : va_O C b A s s.heap)
    (hst : st0 = As.reverse ++ .ref b :: rest) (hnn : As.length = n) (hsize : ls.size = nL) (hroom : (rest.map fun v => v.category).sum ≤ 8) (hd : decode cc pc = .ok (.invokevirtual index, 3)) (hf : cells + mc ≤ R.cells ∧ slots + ms ≤ R.slots)
    (kk : ∀ (u : S) (H1 : Heap) (locs1 : List Loc), post u → va_P D vwCl (wf u) H1 → va_D A (wf u) → va_S A s.heap H1 locs1 → W p l e R s m args below meth c H1 locs1 (cells + mc) (slots + ms) Q (F0 m (pc + 3) ls rest)) : W p l e R s m args below meth c H locs cells slots Q (F0 m pc ls st0) := by
  have hPc := zP_sub hP isC hC
  have hDc := hD.sub isC hn1 hC
  have hFc := va_free hD hS hA isC hC
  refine va_callv (va_runV hfix hM cw ⟨fun a U g mk => zPcC_calling a U g mk, ?_, ?_⟩ rfl hnn hsize hst (lv_room hroom) hd hf) hS (fun q _ h => hFc q h) hFc ?_
  · obtain ⟨cell, o1, o2, o3, o4⟩ := hO.kept hS.2.1
    exact ⟨cell, o1, o2, o3⟩
  · intro U hU hW
    exact ⟨rfl, ⟨by rw [hU], by rw [hU]; exact hPc, va_K.moved hW.alike hK, hDc.weaken (fun _ _ _ _ => trivial)⟩, hCn.at hS hFc hU hW⟩
  · intro u t H1 locs1 ht hvm hp hB hz1 hk1 hS1
    obtain ⟨hP1, hK1, hD1⟩ := hB
    rw [ht] at hP1
    obtain ⟨hP2, hD2⟩ := va_join hP hD isC isR hC hR hn2 hdis hk1 hFc hP1 hD1
    exact kk u H1 locs1 hp (zP_sub hP2 isF (hF u)) (hD2.sub isF hn3 (hF u)) hS1
theorem zc_callSUi {S : Type} {post : Int → S → Prop} {ws' wf : S → va_W} (hfix : CallFix p m c cc nL s args Ts own) (hM : zCi l y w rm K D tA (.ref b :: As) wc H.size post ws' mc ms) (cw : va_CS R s args own index y bytes maxL ret w rm mc ms n) (hK : zK D tA s) (hP : va_P D vwCl ws H) (hD : va_D A ws) (hS : va_S A s.heap H locs) (hA : ∀ q, s.heap.size ≤ q → A q) (hCn : zCn K A s) (isC isR isF : List Nat)
    (hC : isC.map (fun i => ws[i]?) = wc.map some) (hR : isR.map (fun i => ws[i]?) = (isR.filterMap (fun i => ws[i]?)).map some) (hn1 : va_nd isC = true) (hn2 : va_nd isR = true) (hn3 : va_nd isF = true) (hdis : ∀ i ∈ isR, i ∉ isC) (hF : ∀ u, isF.map (fun i => (isR.filterMap (fun i => ws[i]?) ++ ws' u)[i]?) = (wf u).map some) {cC : ClassId} (hat : ClassAt s C cC) {ci q0 : Nat} {cq : vw_C} {fs : List Value} (hc : vwCl[ci]? = some cq) (hcq : cq.1 = C) (he : wc[q0]? = some (b, .inr (ci, fs)))
    (hst : st0 = As.reverse ++ .ref b :: rest) (hnn : As.length = n) (hsize : ls.size = nL) (hroom : (rest.map fun v => v.category).sum ≤ 8) (hd : decode cc pc = .ok (.invokespecial index, 3)) (hf : cells + mc ≤ R.cells ∧ slots + ms ≤ R.slots)
    (kk : ∀ (z : Int) (u : S) (H1 : Heap) (locs1 : List Loc), post z u → va_P D vwCl (wf u) H1 → va_D A (wf u) → va_S A s.heap H1 locs1 → W p l e R s m args below meth c H1 locs1 (cells + mc) (slots + ms) Q (F0 m (pc + 3) ls (.int (iI z) :: rest))) : W p l e R s m args below meth c H locs cells slots Q (F0 m pc ls st0) := by
  have hPc := zP_sub hP isC hC
  have hDc := hD.sub isC hn1 hC
  have hFc := va_free hD hS hA isC hC
  refine va_calli (va_runSU hat hfix hM cw ⟨fun a U g mk => zPcC_calling a U g mk, ?_, ?_⟩ rfl hnn hsize hst (lv_room hroom) hd hf) hS (fun q _ h => hFc q h) hFc ?_
  · have h := va_recv hK hPc hc he
    rw [hcq] at h
    exact h
  · intro U hU hW
    exact ⟨rfl, ⟨by rw [hU], by rw [hU]; exact hPc, va_K.moved hW.alike hK, hDc.weaken (fun _ _ _ _ => trivial)⟩, hCn.at hS hFc hU hW⟩
  · intro r u t H1 locs1 ht hvm hw hB hz1 hk1 hS1
    obtain ⟨hP1, hK1, hD1⟩ := hB
    obtain ⟨hr, hp⟩ := hw
    subst hr
    rw [ht] at hP1
    obtain ⟨hP2, hD2⟩ := va_join hP hD isC isR hC hR hn2 hdis hk1 hFc hP1 hD1
    exact kk u.1 u.2 H1 locs1 hp (zP_sub hP2 isF (hF u.2)) (hD2.sub isF hn3 (hF u.2)) hS1
theorem zc_callSUv {S : Type} {post : S → Prop} {ws' wf : S → va_W} (hfix : CallFix p m c cc nL s args Ts own) (hM : zCv l y w rm K D tA (.ref b :: As) wc H.size post ws' mc ms) (cw : va_CS R s args own index y bytes maxL ret w rm mc ms n) (hK : zK D tA s) (hP : va_P D vwCl ws H) (hD : va_D A ws) (hS : va_S A s.heap H locs) (hA : ∀ q, s.heap.size ≤ q → A q) (hCn : zCn K A s) (isC isR isF : List Nat)
    (hC : isC.map (fun i => ws[i]?) = wc.map some) (hR : isR.map (fun i => ws[i]?) = (isR.filterMap (fun i => ws[i]?)).map some) (hn1 : va_nd isC = true) (hn2 : va_nd isR = true) (hn3 : va_nd isF = true) (hdis : ∀ i ∈ isR, i ∉ isC) (hF : ∀ u, isF.map (fun i => (isR.filterMap (fun i => ws[i]?) ++ ws' u)[i]?) = (wf u).map some) {cC : ClassId} (hat : ClassAt s C cC) {ci q0 : Nat} {cq : vw_C} {fs : List Value} (hc : vwCl[ci]? = some cq) (hcq : cq.1 = C) (he : wc[q0]? = some (b, .inr (ci, fs)))
    (hst : st0 = As.reverse ++ .ref b :: rest) (hnn : As.length = n) (hsize : ls.size = nL) (hroom : (rest.map fun v => v.category).sum ≤ 8) (hd : decode cc pc = .ok (.invokespecial index, 3)) (hf : cells + mc ≤ R.cells ∧ slots + ms ≤ R.slots)
    (kk : ∀ (u : S) (H1 : Heap) (locs1 : List Loc), post u → va_P D vwCl (wf u) H1 → va_D A (wf u) → va_S A s.heap H1 locs1 → W p l e R s m args below meth c H1 locs1 (cells + mc) (slots + ms) Q (F0 m (pc + 3) ls rest)) : W p l e R s m args below meth c H locs cells slots Q (F0 m pc ls st0) := by
  have hPc := zP_sub hP isC hC
  have hDc := hD.sub isC hn1 hC
  have hFc := va_free hD hS hA isC hC
  refine va_callv (va_runSU hat hfix hM cw ⟨fun a U g mk => zPcC_calling a U g mk, ?_, ?_⟩ rfl hnn hsize hst (lv_room hroom) hd hf) hS (fun q _ h => hFc q h) hFc ?_
  · have h := va_recv hK hPc hc he
    rw [hcq] at h
    exact h
  · intro U hU hW
    exact ⟨rfl, ⟨by rw [hU], by rw [hU]; exact hPc, va_K.moved hW.alike hK, hDc.weaken (fun _ _ _ _ => trivial)⟩, hCn.at hS hFc hU hW⟩
  · intro u t H1 locs1 ht hvm hp hB hz1 hk1 hS1
    obtain ⟨hP1, hK1, hD1⟩ := hB
    rw [ht] at hP1
    obtain ⟨hP2, hD2⟩ := va_join hP hD isC isR hC hR hn2 hdis hk1 hFc hP1 hD1
    exact kk u H1 locs1 hp (zP_sub hP2 isF (hF u)) (hD2.sub isF hn3 (hF u)) hS1
theorem zc_callSUr {S : Type} {rv : Nat} {post : S → Prop} {ws' wf : S → va_W} (hfix : CallFix p m c cc nL s args Ts own) (hM : zCr l y w rm K D tA (.ref b :: As) rv wc H.size post ws' mc ms) (cw : va_CS R s args own index y bytes maxL ret w rm mc ms n) (hK : zK D tA s) (hP : va_P D vwCl ws H) (hD : va_D A ws) (hS : va_S A s.heap H locs) (hA : ∀ q, s.heap.size ≤ q → A q) (hCn : zCn K A s) (isC isR isF : List Nat)
    (hC : isC.map (fun i => ws[i]?) = wc.map some) (hR : isR.map (fun i => ws[i]?) = (isR.filterMap (fun i => ws[i]?)).map some) (hn1 : va_nd isC = true) (hn2 : va_nd isR = true) (hn3 : va_nd isF = true) (hdis : ∀ i ∈ isR, i ∉ isC) (hF : ∀ u, isF.map (fun i => (isR.filterMap (fun i => ws[i]?) ++ ws' u)[i]?) = (wf u).map some) {cC : ClassId} (hat : ClassAt s C cC) {ci q0 : Nat} {cq : vw_C} {fs : List Value} (hc : vwCl[ci]? = some cq) (hcq : cq.1 = C) (he : wc[q0]? = some (b, .inr (ci, fs)))
    (hst : st0 = As.reverse ++ .ref b :: rest) (hnn : As.length = n) (hsize : ls.size = nL) (hroom : (rest.map fun v => v.category).sum ≤ 8) (hd : decode cc pc = .ok (.invokespecial index, 3)) (hf : cells + mc ≤ R.cells ∧ slots + ms ≤ R.slots)
    (kk : ∀ (u : S) (H1 : Heap) (locs1 : List Loc), post u → va_P D vwCl (wf u) H1 → va_D A (wf u) → va_S A s.heap H1 locs1 → W p l e R s m args below meth c H1 locs1 (cells + mc) (slots + ms) Q (F0 m (pc + 3) ls (.ref rv :: rest))) : W p l e R s m args below meth c H locs cells slots Q (F0 m pc ls st0) := by
  have hPc := zP_sub hP isC hC
  have hDc := hD.sub isC hn1 hC
  have hFc := va_free hD hS hA isC hC
  refine va_callr (va_runSU hat hfix hM cw ⟨fun a U g mk => zPcC_calling a U g mk, ?_, ?_⟩ rfl hnn hsize hst (lv_room hroom) hd hf) hS (fun q _ h => hFc q h) hFc ?_
  · have h := va_recv hK hPc hc he
    rw [hcq] at h
    exact h
  · intro U hU hW
    exact ⟨rfl, ⟨by rw [hU], by rw [hU]; exact hPc, va_K.moved hW.alike hK, hDc.weaken (fun _ _ _ _ => trivial)⟩, hCn.at hS hFc hU hW⟩
  · intro u ra t H1 locs1 ht hvm hp hB hz1 hk1 hS1
    obtain ⟨hra, hP1, hK1, hD1⟩ := hB
    subst hra
    rw [ht] at hP1
    obtain ⟨hP2, hD2⟩ := va_join hP hD isC isR hC hR hn2 hdis hk1 hFc hP1 hD1
    exact kk u H1 locs1 hp (zP_sub hP2 isF (hF u)) (hD2.sub isF hn3 (hF u)) hS1
theorem zc_callOUi {S : Type} {ow : String} {x : MethodName} {post : Int → S → Prop} {ws' wf : S → va_W} (hfix : CallFix p m c cc nL s args Ts own) (hM : zCi l y w rm K D tA (.ref b :: As) wc H.size post ws' mc ms) (cw : va_CU R s args own C ow index x y bytes maxL ret w rm mc ms n) (hK : zK D tA s) (hP : va_P D vwCl ws H) (hD : va_D A ws) (hS : va_S A s.heap H locs) (hA : ∀ q, s.heap.size ≤ q → A q) (hCn : zCn K A s) (isC isR isF : List Nat)
    (hC : isC.map (fun i => ws[i]?) = wc.map some) (hR : isR.map (fun i => ws[i]?) = (isR.filterMap (fun i => ws[i]?)).map some) (hn1 : va_nd isC = true) (hn2 : va_nd isR = true) (hn3 : va_nd isF = true) (hdis : ∀ i ∈ isR, i ∉ isC) (hF : ∀ u, isF.map (fun i => (isR.filterMap (fun i => ws[i]?) ++ ws' u)[i]?) = (wf u).map some) (hO : va_O C b A s s.heap)
    (hst : st0 = As.reverse ++ .ref b :: rest) (hnn : As.length = n) (hsize : ls.size = nL) (hroom : (rest.map fun v => v.category).sum ≤ 8) (hd : decode cc pc = .ok (.invokevirtual index, 3)) (hf : cells + mc ≤ R.cells ∧ slots + ms ≤ R.slots)
    (kk : ∀ (z : Int) (u : S) (H1 : Heap) (locs1 : List Loc), post z u → va_P D vwCl (wf u) H1 → va_D A (wf u) → va_S A s.heap H1 locs1 → W p l e R s m args below meth c H1 locs1 (cells + mc) (slots + ms) Q (F0 m (pc + 3) ls (.int (iI z) :: rest))) : W p l e R s m args below meth c H locs cells slots Q (F0 m pc ls st0) := by
  have hPc := zP_sub hP isC hC
  have hDc := hD.sub isC hn1 hC
  have hFc := va_free hD hS hA isC hC
  refine va_calli (va_runU hfix hM cw ⟨fun a U g mk => zPcC_calling a U g mk, ?_, ?_⟩ rfl hnn hsize hst (lv_room hroom) hd hf) hS (fun q _ h => hFc q h) hFc ?_
  · obtain ⟨cell, o1, o2, o3, o4⟩ := hO.kept hS.2.1
    exact ⟨cell, o1, o2, o3⟩
  · intro U hU hW
    exact ⟨rfl, ⟨by rw [hU], by rw [hU]; exact hPc, va_K.moved hW.alike hK, hDc.weaken (fun _ _ _ _ => trivial)⟩, hCn.at hS hFc hU hW⟩
  · intro r u t H1 locs1 ht hvm hw hB hz1 hk1 hS1
    obtain ⟨hP1, hK1, hD1⟩ := hB
    obtain ⟨hr, hp⟩ := hw
    subst hr
    rw [ht] at hP1
    obtain ⟨hP2, hD2⟩ := va_join hP hD isC isR hC hR hn2 hdis hk1 hFc hP1 hD1
    exact kk u.1 u.2 H1 locs1 hp (zP_sub hP2 isF (hF u.2)) (hD2.sub isF hn3 (hF u.2)) hS1
theorem zc_callOUv {S : Type} {ow : String} {x : MethodName} {post : S → Prop} {ws' wf : S → va_W} (hfix : CallFix p m c cc nL s args Ts own) (hM : zCv l y w rm K D tA (.ref b :: As) wc H.size post ws' mc ms) (cw : va_CU R s args own C ow index x y bytes maxL ret w rm mc ms n) (hK : zK D tA s) (hP : va_P D vwCl ws H) (hD : va_D A ws) (hS : va_S A s.heap H locs) (hA : ∀ q, s.heap.size ≤ q → A q) (hCn : zCn K A s) (isC isR isF : List Nat)
    (hC : isC.map (fun i => ws[i]?) = wc.map some) (hR : isR.map (fun i => ws[i]?) = (isR.filterMap (fun i => ws[i]?)).map some) (hn1 : va_nd isC = true) (hn2 : va_nd isR = true) (hn3 : va_nd isF = true) (hdis : ∀ i ∈ isR, i ∉ isC) (hF : ∀ u, isF.map (fun i => (isR.filterMap (fun i => ws[i]?) ++ ws' u)[i]?) = (wf u).map some) (hO : va_O C b A s s.heap)
    (hst : st0 = As.reverse ++ .ref b :: rest) (hnn : As.length = n) (hsize : ls.size = nL) (hroom : (rest.map fun v => v.category).sum ≤ 8) (hd : decode cc pc = .ok (.invokevirtual index, 3)) (hf : cells + mc ≤ R.cells ∧ slots + ms ≤ R.slots)
    (kk : ∀ (u : S) (H1 : Heap) (locs1 : List Loc), post u → va_P D vwCl (wf u) H1 → va_D A (wf u) → va_S A s.heap H1 locs1 → W p l e R s m args below meth c H1 locs1 (cells + mc) (slots + ms) Q (F0 m (pc + 3) ls rest)) : W p l e R s m args below meth c H locs cells slots Q (F0 m pc ls st0) := by
  have hPc := zP_sub hP isC hC
  have hDc := hD.sub isC hn1 hC
  have hFc := va_free hD hS hA isC hC
  refine va_callv (va_runU hfix hM cw ⟨fun a U g mk => zPcC_calling a U g mk, ?_, ?_⟩ rfl hnn hsize hst (lv_room hroom) hd hf) hS (fun q _ h => hFc q h) hFc ?_
  · obtain ⟨cell, o1, o2, o3, o4⟩ := hO.kept hS.2.1
    exact ⟨cell, o1, o2, o3⟩
  · intro U hU hW
    exact ⟨rfl, ⟨by rw [hU], by rw [hU]; exact hPc, va_K.moved hW.alike hK, hDc.weaken (fun _ _ _ _ => trivial)⟩, hCn.at hS hFc hU hW⟩
  · intro u t H1 locs1 ht hvm hp hB hz1 hk1 hS1
    obtain ⟨hP1, hK1, hD1⟩ := hB
    rw [ht] at hP1
    obtain ⟨hP2, hD2⟩ := va_join hP hD isC isR hC hR hn2 hdis hk1 hFc hP1 hD1
    exact kk u H1 locs1 hp (zP_sub hP2 isF (hF u)) (hD2.sub isF hn3 (hF u)) hS1
theorem zz_bald (hx : p.tables.exec = Jvm.exec) (hb : c.code = cc) (hK : zK D tA s) (hP : va_P D vwCl ws H) (q0 : Nat) {a n : Nat} {f : Int → Int} {k : Int} (ha : ws[q0]? = some (a, .inl (tA 3, n, .inl (zA f)))) (hn : n ≤ 2147483647) (hk : 0 ≤ k ∧ k < n) (hd : decode cc pc = .ok (.baload, 1)) (kk : W p l e R s m args below meth c H locs cells slots Q (F0 m (pc + 1) ls (.int (iI (f k)) :: rest))) : W p l e R s m args below meth c H locs cells slots Q (F0 m pc ls (.int (iI k) :: .ref a :: rest)) :=
  va_bald hx hb hK hP q0 3 ha rfl (zin hk hn) hd (by rw [zA_at f (by omega)]; exact kk)
theorem zbyte (v : Int) (h : 0 ≤ v ∧ v ≤ 127) : vp_nar .byte (iI v) = iI v := by
  have h2 : ∀ n : Nat, n < 128 → vp_nar .byte (nI n) = nI n := by decide +kernel
  have h3 := h2 v.toNat (by omega)
  rw [nI_iI, Int.toNat_of_nonneg h.1] at h3
  exact h3
theorem zz_bast {H0 : Heap} (hx : p.tables.exec = Jvm.exec) (hb : c.code = cc) (hK : zK D tA s) (hP : va_P D vwCl ws H) (hD : va_D A ws) (hS : va_S A H0 H locs) (q0 : Nat) {a n : Nat} {f : Int → Int} {k v : Int} (ha : ws[q0]? = some (a, .inl (tA 3, n, .inl (zA f)))) (hn : n ≤ 2147483647) (hk : 0 ≤ k ∧ k < n) (hv : 0 ≤ v ∧ v ≤ 127) (hd : decode cc pc = .ok (.bastore, 1))
    (kk : ∀ (H1 : Heap) (locs1 : List Loc), va_P D vwCl (ws.set q0 (a, .inl (tA 3, n, .inl (zA (zU f k v))))) H1 → va_D A (ws.set q0 (a, .inl (tA 3, n, .inl (zA (zU f k v))))) → va_S A H0 H1 locs1 → W p l e R s m args below meth c H1 locs1 cells slots Q (F0 m (pc + 1) ls rest)) : W p l e R s m args below meth c H locs cells slots Q (F0 m pc ls (.int (iI v) :: .int (iI k) :: .ref a :: rest)) :=
  va_bast hx hb hK hP hD hS q0 3 ha rfl (zin hk hn) hd (by rw [zbyte v hv, zA_up f (by omega)]; exact kk)
theorem zz_cast {H0 : Heap} (hx : p.tables.exec = Jvm.exec) (hb : c.code = cc) (hK : zK D tA s) (hP : va_P D vwCl ws H) (hD : va_D A ws) (hS : va_S A H0 H locs) (q0 : Nat) {a n : Nat} {f : Int → Int} {k v : Int} (ha : ws[q0]? = some (a, .inl (tA 2, n, .inl (zA f)))) (hn : n ≤ 2147483647) (hk : 0 ≤ k ∧ k < n) (hv : 0 ≤ v ∧ v ≤ 65535) (hd : decode cc pc = .ok (.castore, 1))
    (kk : ∀ (H1 : Heap) (locs1 : List Loc), va_P D vwCl (ws.set q0 (a, .inl (tA 2, n, .inl (zA (zU f k v))))) H1 → va_D A (ws.set q0 (a, .inl (tA 2, n, .inl (zA (zU f k v))))) → va_S A H0 H1 locs1 → W p l e R s m args below meth c H1 locs1 cells slots Q (F0 m (pc + 1) ls rest)) : W p l e R s m args below meth c H locs cells slots Q (F0 m pc ls (.int (iI v) :: .int (iI k) :: .ref a :: rest)) :=
  va_cast hx hb hK hP hD hS q0 2 ha rfl (zin hk hn) hd (by
    have e : vp_nar .char (iI v) = iI v := by
      have h := (zcharv v hv).1
      unfold vp_nar
      rw [h]
    rw [e, zA_up f (by omega)]
    exact kk)
theorem zz_ishr0 (hx : p.tables.exec = Jvm.exec) (hb : c.code = cc) {x : Int} (hd : decode cc pc = .ok (.ishr, 1)) (rx : 0 ≤ x ∧ x ≤ 2147483647) (k : W p l e R s m args below meth c H locs cells slots Q (F0 m (pc + 1) ls (.int (iI x) :: rest))) : W p l e R s m args below meth c H locs cells slots Q (F0 m pc ls (.int (iI 0) :: .int (iI x) :: rest)) := by
  refine lv_ishr hx hb hd ?_
  rw [show iI 0 &&& 31 = (0 : Int32) by decide, show iI x >>> (0 : Int32) = iI x from Int32.shiftRight_zero]
  exact k
theorem zz_iand255 (hx : p.tables.exec = Jvm.exec) (hb : c.code = cc) {x : Int} (hd : decode cc pc = .ok (.iand, 1)) (rx : 0 ≤ x ∧ x ≤ 255) (k : W p l e R s m args below meth c H locs cells slots Q (F0 m (pc + 1) ls (.int (iI x) :: rest))) : W p l e R s m args below meth c H locs cells slots Q (F0 m pc ls (.int (iI 255) :: .int (iI x) :: rest)) := by
  refine lv_iand hx hb hd ?_
  have h2 : ∀ n : Nat, n < 256 → nI n &&& nI 255 = nI n := by decide +kernel
  have h3 := h2 x.toNat (by omega)
  rw [nI_iI, nI_iI, Int.toNat_of_nonneg rx.1] at h3
  rw [show iI x &&& iI 255 = iI x from h3]
  exact k
theorem zz_i2b (hx : p.tables.exec = Jvm.exec) (hb : c.code = cc) {x : Int} (hd : decode cc pc = .ok (.i2b, 1)) (rx : 0 ≤ x ∧ x ≤ 127) (k : W p l e R s m args below meth c H locs cells slots Q (F0 m (pc + 1) ls (.int (iI x) :: rest))) : W p l e R s m args below meth c H locs cells slots Q (F0 m pc ls (.int (iI x) :: rest)) :=
  lv_i2b hx hb hd (by rw [← vp_nar_byte]; exact zbyte x rx) k
theorem zz_idivm (hx : p.tables.exec = Jvm.exec) (hb : c.code = cc) {x y : Int} (hd : decode cc pc = .ok (.idiv, 1)) (h1 : 0 ≤ x ∧ x ≤ 2147483647) (h2 : 0 < y ∧ y ≤ 2147483647) (k : W p l e R s m args below meth c H locs cells slots Q (F0 m (pc + 1) ls (.int (iI (-(x / y))) :: rest))) : W p l e R s m args below meth c H locs cells slots Q (F0 m pc ls (.int (iI y) :: .int (iI (-x)) :: rest)) := by
  have h : iI (-x) / iI y = iI (-(x / y)) := by
    have h3 := Int32.ofInt_tdiv (a := -x) (b := y) (by show (-2147483648 : Int) ≤ -x; omega) (by show -x ≤ (2147483647 : Int); omega) (by show (-2147483648 : Int) ≤ y; omega) (by show y ≤ (2147483647 : Int); omega)
    rw [Int.neg_tdiv, Int.tdiv_eq_ediv_of_nonneg h1.1] at h3
    exact h3.symm
  exact lv_idiv hx hb hd (iI_ne0 h2) (by rw [h]; exact k)
end ZCC
