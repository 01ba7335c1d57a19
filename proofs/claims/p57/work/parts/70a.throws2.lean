/-! ===== contracts of methods that return or throw, over whole numbers ===== -/
def xStrs : List (Nat × String) := [(258, "no such range"), (275, "no subscribers"), (288, "no nights"), (304, "no such character"), (326, "the text buffer is full"), (341, "the text is malformed"), (363, "a command failed"), (366, "nothing can be undone"), (378, "no such port or subscriber"), (380, "not allowed as an argument"), (382, "not possible now"), (386, "no leg between the ports"), (391, "no route between the ports"), (394, "nothing found"), (400, "no such port"), (402, "both are the same port"), (404, "no such position"), (410, "no such subscriber")]
def xCls : List String := ["java/lang/IndexOutOfBoundsException", "java/lang/IllegalArgumentException", "java/lang/IllegalStateException", "java/util/NoSuchElementException", "java/lang/UnsupportedOperationException", "java/lang/ArithmeticException"]
def xCat : List String := ["java/lang/IndexOutOfBoundsException", "java/lang/IllegalArgumentException", "java/lang/IllegalStateException", "java/util/NoSuchElementException", "java/lang/UnsupportedOperationException"]
def xDecl : List MethodName := [Bundle.initS "java/lang/RuntimeException", Bundle.initS "java/lang/Exception", Bundle.initS Bundle.tN]
def xWords : List Cond := xDecl.map Cond.declares ++ xCls.map (fun X => Cond.castable X X)
def zTh (U : State) : Prop := (∀ q ∈ xStrs, ∃ sa, vk_R RX10 q.1 q.2 sa U) ∧ (∀ x ∈ xDecl, va_Nw (.declares x) U) ∧ (∀ X ∈ xCls, va_Nw (.castable X X) U) ∧ ∀ X ∈ xCls, ∀ Y ∈ xCat, X ≠ Y → va_Nc X Y U
theorem zTh.warm {s U : State} (hW : s.WarmedH U.vm) (h : zTh s) : zTh U :=
  ⟨fun q hq => (h.1 q hq).elim fun sa hs => ⟨sa, vk_R.warm hW hs⟩, fun x hx => va_Nw.warmD hW (h.2.1 x hx), fun X hX => va_Nw.warmC hW (h.2.2.1 X hX), fun X hX Y hY hn => (h.2.2.2 X hX Y hY hn).moved hW.alike⟩
theorem zTh.same {u U : State} (hv : u.vm = U.vm) (h : zTh u) : zTh U :=
  ⟨fun q hq => (h.1 q hq).elim fun sa hs => ⟨sa, vk_R.same hv.symm hs⟩, fun x hx => va_Nw.same rfl hv (h.2.1 x hx), fun X hX => va_Nw.same rfl hv (h.2.2.1 X hX), fun X hX Y hY hn => (h.2.2.2 X hX Y hY hn).moved (by rw [hv]; exact Vm.Alike.refl _)⟩
theorem zTh.words {args : Array Value} {U : State} (h : zTh U) : ∀ w ∈ xWords, w.before args U = true := by
  intro w hw
  rcases List.mem_append.mp hw with h1 | h1
  · obtain ⟨x, hx, rfl⟩ := List.mem_map.mp h1
    exact va_Nw.use rfl (h.2.1 x hx)
  · obtain ⟨X, hX, rfl⟩ := List.mem_map.mp h1
    exact va_Nw.use rfl (h.2.2.1 X hX)
def zT (K : Nat → Nat) (A : Nat → Prop) (U : State) : Prop := zTh U ∧ vx_Zq Bundle.tN "UNASSIGNED_STACK" Bundle.steD A U U.heap ∧ vx_Zq Bundle.tN "SUPPRESSED_SENTINEL" Bundle.listD A U U.heap ∧ zCn K A U
theorem zT.at {K : Nat → Nat} {A A' : Nat → Prop} {s U : State} {H : Heap} {locs : List Loc} (h : zT K A s) (hS : va_S A s.heap H locs) (hAA : ∀ q, A' q → A q) (hU : U.heap = H) (hW : s.WarmedH U.vm) : zT K A' U := by
  refine ⟨h.1.warm hW, ?_, ?_, h.2.2.2.at hS hAA hU hW⟩
  · have h1 := (h.2.1.kept hS.2.1).narrow hAA
    rw [hU]
    exact h1.moved hW.alike
  · have h1 := (h.2.2.1.kept hS.2.1).narrow hAA
    rw [hU]
    exact h1.moved hW.alike
def zPreX (K : Nat → Nat) (D : va_G) (tA : Nat → ClassId) (ws : va_W) (sz : Nat) : State → Prop := fun U => zPre D tA ws sz U ∧ zT K (va_A ws sz) U
theorem zPcX_calling {K : Nat → Nat} {D : va_G} {tA : Nat → ClassId} {av : List Value} {ws : va_W} {sz : Nat} : ∀ (a : Array Value) (U : State) (g : JFrame) (mk : MethodId), va_Pc av (zPreX K D tA ws sz) a U → va_Pc av (zPreX K D tA ws sz) a (U.calling g mk a) := by
  intro a U g mk ⟨q0, q1, q2⟩
  have h := zPc_calling a U g mk ⟨q0, q1⟩
  refine ⟨q0, h.2, q2.1.same rfl, ?_, ?_, q2.2.2.2.same rfl rfl⟩
  · exact vx_Zq.moved (u := U) (U := U.calling g mk a) (Vm.Alike.refl U.vm) q2.2.1
  · exact vx_Zq.moved (u := U) (U := U.calling g mk a) (Vm.Alike.refl U.vm) q2.2.2.1
/-- how it ends when it throws: the class's name, the world -/
def zXE {SX : Type} (D : va_G) (tA : Nat → ClassId) (A : Nat → Prop) (px : String → SX → Prop) (wx : SX → va_W) : String → State → State → Prop := vx_X (fun u : String × SX => px u.1 u.2) (fun E u t => E = u.1 ∧ zB D tA A (wx u.2) t) A
def zXi {S SX : Type} (l : Launch) (y : MethodName) (w : List Cond) (rm : Room) (K : Nat → Nat) (D : va_G) (tA : Nat → ClassId) (av : List Value) (ws : va_W) (sz : Nat) (post : Int → S → Prop) (ws' : S → va_W) (px : String → SX → Prop) (wx : SX → va_W) (mc ms : Nat) : Prop :=
  vx_Met l y w rm (va_Pc av (zPreX K D tA ws sz)) (va_Qi (fun r (u : Int × S) => r = iI u.1 ∧ post u.1 u.2) (fun u => zB D tA (va_A ws sz) (ws' u.2)) (va_A ws sz)) (zXE D tA (va_A ws sz) px wx) mc ms (va_A ws sz)
def zXv {S SX : Type} (l : Launch) (y : MethodName) (w : List Cond) (rm : Room) (K : Nat → Nat) (D : va_G) (tA : Nat → ClassId) (av : List Value) (ws : va_W) (sz : Nat) (post : S → Prop) (ws' : S → va_W) (px : String → SX → Prop) (wx : SX → va_W) (mc ms : Nat) : Prop :=
  vx_Met l y w rm (va_Pc av (zPreX K D tA ws sz)) (va_Qv (fun (u : S) => post u) (fun u => zB D tA (va_A ws sz) (ws' u)) (va_A ws sz)) (zXE D tA (va_A ws sz) px wx) mc ms (va_A ws sz)
theorem zP_kept {D : va_G} {ws : va_W} {H H1 : Heap} (h : va_P D vwCl ws H) (hq : ∀ q : Nat, q < H.size → H1[q]? = H[q]?) : va_P D vwCl ws H1 := h.kept (fun k q hk => hq q.1 (vx_lt h hk))
/-- 'throw new E("..")' at pc, and what is known of the method's words -/
def zThr (p : Program) (l : Launch) (e : Env) (R : Room) (s : State) (m : MethodId) (args : Array Value) (below : List Frame) (meth : Method) (c : Code) (cc : ByteArray) (Q : State → Prop) (D : va_G) (tA : Nat → ClassId) (A : Nat → Prop) (mc ms : Nat) {SX : Type} (px : String → SX → Prop) (wx : SX → va_W) : Prop :=
  ∀ (cls text : String) (ik is ic : Nat) (u : SX) (H : Heap) (locs : List Loc) (pc k n : Nat) (ls : Array Slot) (rest : List Value), ls.size = c.maxLocals → (is, text) ∈ xStrs → Bundle.fit cls = true →
    (Cond.classLink RX10 ik cls).before args s = true → (Cond.initialized cls).before args s = true → (∀ w ∈ (vx_atS RX10 ic cls ["java/lang/RuntimeException", "java/lang/Exception"]).filter goodWord, w.before args s = true) →
    (∀ w ∈ (vx_atS RX10 ic cls ["java/lang/RuntimeException", "java/lang/Exception"]).filter (fun w => !goodWord w), w ∈ xWords) → (∀ w ∈ Cond.classLink RX10 ik cls :: Cond.initialized cls :: vx_atS RX10 ic cls ["java/lang/RuntimeException", "java/lang/Exception"], vx_ot w = true) →
    decode cc pc = .ok (.new ik, 3) → decode cc (pc + 3) = .ok (.dup, 1) → decode cc (pc + 4) = .ok (.ldc_w is, 3) → decode cc (pc + 7) = .ok (.invokespecial ic, 3) → decode cc (pc + 10) = .ok (.athrow, 1) →
    (rest.map fun v => v.category).sum ≤ 8 → k + 1 ≤ mc → n + 6 ≤ ms → px cls u → va_P D vwCl (wx u) H → va_D A (wx u) → va_S A s.heap H locs → W p l e R s m args below meth c H locs k n Q (F0 m pc ls rest)
/-- an exception goes on to the caller -/
def zEsc (p : Program) (l : Launch) (e : Env) (R : Room) (s : State) (m : MethodId) (args : Array Value) (below : List Frame) (meth : Method) (c : Code) (Q : State → Prop) (D : va_G) (tA : Nat → ClassId) (A : Nat → Prop) (mc ms : Nat) {SX : Type} (px : String → SX → Prop) (wx : SX → va_W) : Prop :=
  ∀ (E : String) (ce : Cell) (q : Addr) (u : SX) (H : Heap) (locs : List Loc) (pc k n : Nat) (ls : Array Slot) (rest : List Value), H[q]? = some ce → ce.vm = .none → s.vm.findClass E = some ce.cls → k ≤ mc → n ≤ ms → px E u → va_P D vwCl (wx u) H → va_D A (wx u) → va_S A s.heap H locs →
    vx_W p l e R s m args below meth c H locs k n Q (F0 m pc ls rest) q
theorem zXi_of {S SX : Type} {l : Launch} {y : MethodName} {w : List Cond} {rm : Room} {K : Nat → Nat} {D : va_G} {tA : Nat → ClassId} {av : List Value} {ws : va_W} {sz : Nat} {post : Int → S → Prop} {ws' : S → va_W} {px : String → SX → Prop} {wx : SX → va_W} {mc ms : Nat} {cc : ByteArray} {maxL : Nat} {ty : FieldType} {w0 : List Cond} (hst : l.stackTraces = false) (hcls : y.cls = RX10) (hR : 5 < rm.frames ∧ 90 ≤ rm.locals ∧ mc ≤ rm.cells ∧ ms ≤ rm.slots) (hy : plainName y.cls = true) (hw : w = Cond.code y cc maxL (some ty) :: w0) (hn : ∀ z u, post z u → narrow ty (.int (iI z)) = .int (iI z)) (hlen : (lg_sl av).length ≤ maxL)
    (body : ∀ (p : Program) (e : Env) (s : State) (m : MethodId) (args : Array Value) (below : List Frame) (meth : Method) (c : Code) (A : Nat → Prop) (Q : State → Prop) (ls : Array Slot), p.tables.exec = Jvm.exec → c.code = cc → c.maxLocals = maxL → (∀ v ∈ w, v.before args s = true) → s.vm.findClass y.cls = some m.cls → zK D tA s → va_P D vwCl ws s.heap → va_D A ws → (∀ q, s.heap.size ≤ q → A q) → zT K A s →
      (∀ (z : Int) (u : S) (H : Heap) (locs : List Loc) (pc k n : Nat) (ls : Array Slot), k ≤ mc → n ≤ ms → decode cc pc = .ok (.ireturn, 1) → post z u → va_P D vwCl (ws' u) H → va_D A (ws' u) → va_S A s.heap H locs → W p l e (headSpec w rm).room s m args below meth c H locs k n Q (F0 m pc ls [.int (iI z)])) →
      zThr p l e (headSpec w rm).room s m args below meth c cc Q D tA A mc ms px wx → zEsc p l e (headSpec w rm).room s m args below meth c Q D tA A mc ms px wx →
      lv_has ls maxL (lv_args 0 av) → W p l e (headSpec w rm).room s m args below meth c s.heap [] 0 0 Q (F0 m 0 ls [])) : zXi l y w rm K D tA av ws sz post ws' px wx mc ms := by
  refine vx_ofW (cc := cc) (maxL := maxL) (ret := some ty) hy hw ?_
  intro p e s m args below meth c s₁ B hml ht hv
  obtain ⟨hav, ⟨hsz, hP, hK, hD0⟩, hZ⟩ := hv
  subst hav
  subst hsz
  have hts := atoms_spec (ws := w) B.pre
  have hl := lv_entry av (n := maxL) hlen
  have hown := findClass_of_methodNamed B.named
  rw [lg_entry_eq]
  refine body p e s m _ below meth c (va_A ws s.heap.size) _ _ B.exec B.bytes hml hts hown hK hP hD0.self (fun q h => Or.inr h) hZ
    (fun z u H locs pc k n ls hk hn' hd hp hP' hD' hS => vx_ret (W.widen hk hn' (W.zret B.exec B.bytes B.returns (hn z u hp) (fun t ht hW => ⟨⟨iI z, (z, u), rfl, ⟨rfl, hp⟩, by rw [ht]; exact hP', va_K.moved hW.alike hK, hD'⟩, hS.F ht⟩) hS.2.2 hd B.notSynchronized))) ?_ ?_ hl
  · intro cls text ik is ic u H locs pc k n ls rest hls hstr hfit hck hini hgw hbw hot d0 d3 d4 d7 d10 hrest hk hn' hp hP' hD' hS
    obtain ⟨sa, hsa⟩ := hZ.1.1 _ hstr
    refine vx_throwSW (own := RX10) (sa := sa) B.exec B.bytes hst (hcls ▸ hown) hfit (by decide) hck hini hsa (vx_hat hgw hbw hZ.1.words) hot hZ.2.1 hZ.2.2.1 hS hls d0 d3 d4 d7 d10 (fun x hx => (ht x hx).elim) (by have := hR.1; show 2 + 3 < rm.frames; omega) (by have := hR.2.1; show _ + (13 * (2 + 1) + 43) ≤ rm.locals; omega) (by have := hR.2.2.1; show k + 1 ≤ rm.cells; omega) (by have := hR.2.2.2; show n + 6 ≤ rm.slots; omega) B.notSynchronized ?_ hS.2.2 hk hn'
    intro t hal hsz1 hkeep
    exact ⟨(cls, u), hp, ⟨rfl, zP_kept hP' hkeep, va_K.moved hal hK, hD'⟩, Nat.le_trans hS.1 hsz1, fun q h1 h2 => by rw [hkeep q (Nat.lt_of_lt_of_le h1 hS.1)]; exact hS.2.1 q h1 h2⟩
  · intro E ce q u H locs pc k n ls rest hce hcv hcl hk hn' hp hP' hD' hS
    exact vx_out (fun x hx => (ht x hx).elim) B.notSynchronized hce hcv hcl (fun t ht' hal => ⟨(E, u), hp, ⟨rfl, by rw [ht']; exact hP', va_K.moved hal hK, hD'⟩, hS.F ht'⟩) hS.2.2 hk hn'
theorem zXv_of {S SX : Type} {l : Launch} {y : MethodName} {w : List Cond} {rm : Room} {K : Nat → Nat} {D : va_G} {tA : Nat → ClassId} {av : List Value} {ws : va_W} {sz : Nat} {post : S → Prop} {ws' : S → va_W} {px : String → SX → Prop} {wx : SX → va_W} {mc ms : Nat} {cc : ByteArray} {maxL : Nat} {w0 : List Cond} (hst : l.stackTraces = false) (hcls : y.cls = RX10) (hR : 5 < rm.frames ∧ 90 ≤ rm.locals ∧ mc ≤ rm.cells ∧ ms ≤ rm.slots) (hy : plainName y.cls = true) (hw : w = Cond.code y cc maxL none :: w0) (hlen : (lg_sl av).length ≤ maxL)
    (body : ∀ (p : Program) (e : Env) (s : State) (m : MethodId) (args : Array Value) (below : List Frame) (meth : Method) (c : Code) (A : Nat → Prop) (Q : State → Prop) (ls : Array Slot), p.tables.exec = Jvm.exec → c.code = cc → c.maxLocals = maxL → (∀ v ∈ w, v.before args s = true) → s.vm.findClass y.cls = some m.cls → zK D tA s → va_P D vwCl ws s.heap → va_D A ws → (∀ q, s.heap.size ≤ q → A q) → zT K A s →
      (∀ (u : S) (H : Heap) (locs : List Loc) (pc k n : Nat) (ls : Array Slot), k ≤ mc → n ≤ ms → decode cc pc = .ok (.return_, 1) → post u → va_P D vwCl (ws' u) H → va_D A (ws' u) → va_S A s.heap H locs → W p l e (headSpec w rm).room s m args below meth c H locs k n Q (F0 m pc ls [])) →
      zThr p l e (headSpec w rm).room s m args below meth c cc Q D tA A mc ms px wx → zEsc p l e (headSpec w rm).room s m args below meth c Q D tA A mc ms px wx →
      lv_has ls maxL (lv_args 0 av) → W p l e (headSpec w rm).room s m args below meth c s.heap [] 0 0 Q (F0 m 0 ls [])) : zXv l y w rm K D tA av ws sz post ws' px wx mc ms := by
  refine vx_ofW (cc := cc) (maxL := maxL) (ret := none) hy hw ?_
  intro p e s m args below meth c s₁ B hml ht hv
  obtain ⟨hav, ⟨hsz, hP, hK, hD0⟩, hZ⟩ := hv
  subst hav
  subst hsz
  have hts := atoms_spec (ws := w) B.pre
  have hl := lv_entry av (n := maxL) hlen
  have hown := findClass_of_methodNamed B.named
  rw [lg_entry_eq]
  refine body p e s m _ below meth c (va_A ws s.heap.size) _ _ B.exec B.bytes hml hts hown hK hP hD0.self (fun q h => Or.inr h) hZ
    (fun u H locs pc k n ls hk hn' hd hp hP' hD' hS => vx_ret (W.widen hk hn' (W.vret B.exec B.bytes B.returns (fun t ht hW => ⟨⟨u, rfl, hp, by rw [ht]; exact hP', va_K.moved hW.alike hK, hD'⟩, hS.F ht⟩) hS.2.2 hd B.notSynchronized))) ?_ ?_ hl
  · intro cls text ik is ic u H locs pc k n ls rest hls hstr hfit hck hini hgw hbw hot d0 d3 d4 d7 d10 hrest hk hn' hp hP' hD' hS
    obtain ⟨sa, hsa⟩ := hZ.1.1 _ hstr
    refine vx_throwSW (own := RX10) (sa := sa) B.exec B.bytes hst (hcls ▸ hown) hfit (by decide) hck hini hsa (vx_hat hgw hbw hZ.1.words) hot hZ.2.1 hZ.2.2.1 hS hls d0 d3 d4 d7 d10 (fun x hx => (ht x hx).elim) (by have := hR.1; show 2 + 3 < rm.frames; omega) (by have := hR.2.1; show _ + (13 * (2 + 1) + 43) ≤ rm.locals; omega) (by have := hR.2.2.1; show k + 1 ≤ rm.cells; omega) (by have := hR.2.2.2; show n + 6 ≤ rm.slots; omega) B.notSynchronized ?_ hS.2.2 hk hn'
    intro t hal hsz1 hkeep
    exact ⟨(cls, u), hp, ⟨rfl, zP_kept hP' hkeep, va_K.moved hal hK, hD'⟩, Nat.le_trans hS.1 hsz1, fun q h1 h2 => by rw [hkeep q (Nat.lt_of_lt_of_le h1 hS.1)]; exact hS.2.1 q h1 h2⟩
  · intro E ce q u H locs pc k n ls rest hce hcv hcl hk hn' hp hP' hD' hS
    exact vx_out (fun x hx => (ht x hx).elim) B.notSynchronized hce hcv hcl (fun t ht' hal => ⟨(E, u), hp, ⟨rfl, by rw [ht']; exact hP', va_K.moved hal hK, hD'⟩, hS.F ht'⟩) hS.2.2 hk hn'
section ZXC
variable {p : Program} {l : Launch} {e : Env} {R : Room} {s : State} {m : MethodId} {args : Array Value} {below : List Frame} {meth : Method} {c : Code} {H : Heap} {locs : List Loc} {cells slots : Nat} {Q : State → Prop}
variable {cc : ByteArray} {pc : Nat} {ls : Array Slot} {rest st0 : List Value} {K : Nat → Nat} {D : va_G} {tA : Nat → ClassId} {ws wc : va_W} {A : Nat → Prop} {H0 : Heap}
variable {y : MethodName} {bytes : ByteArray} {maxL nL mc ms n index : Nat} {ret : Option FieldType} {w Ts : List Cond} {rm : Room} {own C : String} {b : Addr} {As : List Value}
theorem zx_callVi {S SX : Type} {post : Int → S → Prop} {ws' wf : S → va_W} {px : String → SX → Prop} {wx wfx : SX → va_W} (hfix : CallFix p m c cc nL s args Ts own) (hM : zXi l y w rm K D tA (.ref b :: As) wc H.size post ws' px wx mc ms) (cw : CallW R s args own C index y bytes maxL ret w rm mc ms n) (hK : zK D tA s) (hP : va_P D vwCl ws H) (hD : va_D A ws) (hS : va_S A s.heap H locs) (hA : ∀ q, s.heap.size ≤ q → A q) (hZ : zT K A s) (isC isR isF isX : List Nat)
    (hC : isC.map (fun i => ws[i]?) = wc.map some) (hR : isR.map (fun i => ws[i]?) = (isR.filterMap (fun i => ws[i]?)).map some) (hn1 : va_nd isC = true) (hn2 : va_nd isR = true) (hn3 : va_nd isF = true) (hn4 : va_nd isX = true) (hdis : ∀ i ∈ isR, i ∉ isC) (hF : ∀ u, isF.map (fun i => (isR.filterMap (fun i => ws[i]?) ++ ws' u)[i]?) = (wf u).map some) (hX : ∀ u, isX.map (fun i => (isR.filterMap (fun i => ws[i]?) ++ wx u)[i]?) = (wfx u).map some) {ci q0 : Nat} {cq : vw_C} {fs : List Value} (hc : vwCl[ci]? = some cq) (hcq : cq.1 = C) (he : wc[q0]? = some (b, .inr (ci, fs)))
    (hst : st0 = As.reverse ++ .ref b :: rest) (hnn : As.length = n) (hsize : ls.size = nL) (hroom : (rest.map fun v => v.category).sum ≤ 8) (hd : decode cc pc = .ok (.invokevirtual index, 3)) (hf : cells + mc ≤ R.cells ∧ slots + ms ≤ R.slots)
    (kx : ∀ (E : String) (ce : Cell) (q9 : Addr) (u : SX) (H1 : Heap) (locs1 : List Loc), px E u → va_P D vwCl (wfx u) H1 → va_D A (wfx u) → va_S A s.heap H1 locs1 → H1[q9]? = some ce → ce.vm = .none → s.vm.findClass E = some ce.cls → vx_W p l e R s m args below meth c H1 locs1 (cells + mc) (slots + ms) Q (F0 m pc ls rest) q9)
    (kk : ∀ (z : Int) (u : S) (H1 : Heap) (locs1 : List Loc), post z u → va_P D vwCl (wf u) H1 → va_D A (wf u) → va_S A s.heap H1 locs1 → W p l e R s m args below meth c H1 locs1 (cells + mc) (slots + ms) Q (F0 m (pc + 3) ls (.int (iI z) :: rest))) : W p l e R s m args below meth c H locs cells slots Q (F0 m pc ls st0) := by
  have hPc := zP_sub hP isC hC
  have hDc := hD.sub isC hn1 hC
  have hFc := va_free hD hS hA isC hC
  refine vx_calli (vx_runV hfix hM cw ⟨fun a U g mk => zPcX_calling a U g mk, ?_, ?_⟩ rfl hnn hsize hst (lv_room hroom) hd hf) hS (fun q _ h => hFc q h) hFc (fun q _ h => hFc q h) ?_ ?_
  · have h := va_recv hK hPc hc he
    rw [hcq] at h
    exact h
  · intro U hU hW
    exact ⟨rfl, ⟨by rw [hU], by rw [hU]; exact hPc, va_K.moved hW.alike hK, hDc.weaken (fun _ _ _ _ => trivial)⟩, hZ.at hS hFc hU hW⟩
  · intro E ce q9 u t H1 locs1 ht hvm hp hB hz1 hk1 hS1 hce hcv hcl
    obtain ⟨hE, hP1, hK1, hD1⟩ := hB
    have hE2 : u.1 = E := hE.symm
    rw [ht] at hP1
    obtain ⟨hP2, hD2⟩ := va_join hP hD isC isR hC hR hn2 hdis hk1 hFc hP1 hD1
    exact kx E ce q9 u.2 H1 locs1 (by rw [← hE2]; exact hp) (zP_sub hP2 isX (hX u.2)) (hD2.sub isX hn4 (hX u.2)) hS1 hce hcv hcl
  · intro r u t H1 locs1 ht hvm hw hB hz1 hk1 hS1
    obtain ⟨hP1, hK1, hD1⟩ := hB
    obtain ⟨hr, hp⟩ := hw
    subst hr
    rw [ht] at hP1
    obtain ⟨hP2, hD2⟩ := va_join hP hD isC isR hC hR hn2 hdis hk1 hFc hP1 hD1
    exact kk u.1 u.2 H1 locs1 hp (zP_sub hP2 isF (hF u.2)) (hD2.sub isF hn3 (hF u.2)) hS1
theorem zx_callVv {S SX : Type} {post : S → Prop} {ws' wf : S → va_W} {px : String → SX → Prop} {wx wfx : SX → va_W} (hfix : CallFix p m c cc nL s args Ts own) (hM : zXv l y w rm K D tA (.ref b :: As) wc H.size post ws' px wx mc ms) (cw : CallW R s args own C index y bytes maxL ret w rm mc ms n) (hK : zK D tA s) (hP : va_P D vwCl ws H) (hD : va_D A ws) (hS : va_S A s.heap H locs) (hA : ∀ q, s.heap.size ≤ q → A q) (hZ : zT K A s) (isC isR isF isX : List Nat)
    (hC : isC.map (fun i => ws[i]?) = wc.map some) (hR : isR.map (fun i => ws[i]?) = (isR.filterMap (fun i => ws[i]?)).map some) (hn1 : va_nd isC = true) (hn2 : va_nd isR = true) (hn3 : va_nd isF = true) (hn4 : va_nd isX = true) (hdis : ∀ i ∈ isR, i ∉ isC) (hF : ∀ u, isF.map (fun i => (isR.filterMap (fun i => ws[i]?) ++ ws' u)[i]?) = (wf u).map some) (hX : ∀ u, isX.map (fun i => (isR.filterMap (fun i => ws[i]?) ++ wx u)[i]?) = (wfx u).map some) {ci q0 : Nat} {cq : vw_C} {fs : List Value} (hc : vwCl[ci]? = some cq) (hcq : cq.1 = C) (he : wc[q0]? = some (b, .inr (ci, fs)))
    (hst : st0 = As.reverse ++ .ref b :: rest) (hnn : As.length = n) (hsize : ls.size = nL) (hroom : (rest.map fun v => v.category).sum ≤ 8) (hd : decode cc pc = .ok (.invokevirtual index, 3)) (hf : cells + mc ≤ R.cells ∧ slots + ms ≤ R.slots)
    (kx : ∀ (E : String) (ce : Cell) (q9 : Addr) (u : SX) (H1 : Heap) (locs1 : List Loc), px E u → va_P D vwCl (wfx u) H1 → va_D A (wfx u) → va_S A s.heap H1 locs1 → H1[q9]? = some ce → ce.vm = .none → s.vm.findClass E = some ce.cls → vx_W p l e R s m args below meth c H1 locs1 (cells + mc) (slots + ms) Q (F0 m pc ls rest) q9)
    (kk : ∀ (u : S) (H1 : Heap) (locs1 : List Loc), post u → va_P D vwCl (wf u) H1 → va_D A (wf u) → va_S A s.heap H1 locs1 → W p l e R s m args below meth c H1 locs1 (cells + mc) (slots + ms) Q (F0 m (pc + 3) ls rest)) : W p l e R s m args below meth c H locs cells slots Q (F0 m pc ls st0) := by
  have hPc := zP_sub hP isC hC
  have hDc := hD.sub isC hn1 hC
  have hFc := va_free hD hS hA isC hC
  refine vx_callv (vx_runV hfix hM cw ⟨fun a U g mk => zPcX_calling a U g mk, ?_, ?_⟩ rfl hnn hsize hst (lv_room hroom) hd hf) hS (fun q _ h => hFc q h) hFc (fun q _ h => hFc q h) ?_ ?_
  · have h := va_recv hK hPc hc he
    rw [hcq] at h
    exact h
  · intro U hU hW
    exact ⟨rfl, ⟨by rw [hU], by rw [hU]; exact hPc, va_K.moved hW.alike hK, hDc.weaken (fun _ _ _ _ => trivial)⟩, hZ.at hS hFc hU hW⟩
  · intro E ce q9 u t H1 locs1 ht hvm hp hB hz1 hk1 hS1 hce hcv hcl
    obtain ⟨hE, hP1, hK1, hD1⟩ := hB
    have hE2 : u.1 = E := hE.symm
    rw [ht] at hP1
    obtain ⟨hP2, hD2⟩ := va_join hP hD isC isR hC hR hn2 hdis hk1 hFc hP1 hD1
    exact kx E ce q9 u.2 H1 locs1 (by rw [← hE2]; exact hp) (zP_sub hP2 isX (hX u.2)) (hD2.sub isX hn4 (hX u.2)) hS1 hce hcv hcl
  · intro u t H1 locs1 ht hvm hp hB hz1 hk1 hS1
    obtain ⟨hP1, hK1, hD1⟩ := hB
    rw [ht] at hP1
    obtain ⟨hP2, hD2⟩ := va_join hP hD isC isR hC hR hn2 hdis hk1 hFc hP1 hD1
    exact kk u H1 locs1 hp (zP_sub hP2 isF (hF u)) (hD2.sub isF hn3 (hF u)) hS1
theorem zx_callSi {S SX : Type} {post : Int → S → Prop} {ws' wf : S → va_W} {px : String → SX → Prop} {wx wfx : SX → va_W} (hfix : CallFix p m c cc nL s args Ts own) (hM : zXi l y w rm K D tA As wc H.size post ws' px wx mc ms) (cw : CallB R s args own index y bytes maxL ret w rm mc ms n ∧ (Cond.static y).before args s = true) (hK : zK D tA s) (hP : va_P D vwCl ws H) (hD : va_D A ws) (hS : va_S A s.heap H locs) (hA : ∀ q, s.heap.size ≤ q → A q) (hZ : zT K A s) (isC isR isF isX : List Nat)
    (hC : isC.map (fun i => ws[i]?) = wc.map some) (hR : isR.map (fun i => ws[i]?) = (isR.filterMap (fun i => ws[i]?)).map some) (hn1 : va_nd isC = true) (hn2 : va_nd isR = true) (hn3 : va_nd isF = true) (hn4 : va_nd isX = true) (hdis : ∀ i ∈ isR, i ∉ isC) (hF : ∀ u, isF.map (fun i => (isR.filterMap (fun i => ws[i]?) ++ ws' u)[i]?) = (wf u).map some) (hX : ∀ u, isX.map (fun i => (isR.filterMap (fun i => ws[i]?) ++ wx u)[i]?) = (wfx u).map some)
    (hst : st0 = As.reverse ++ rest) (hnn : As.length = n) (hsize : ls.size = nL) (hroom : (rest.map fun v => v.category).sum ≤ 8) (hd : decode cc pc = .ok (.invokestatic index, 3)) (hf : cells + mc ≤ R.cells ∧ slots + ms ≤ R.slots)
    (kx : ∀ (E : String) (ce : Cell) (q9 : Addr) (u : SX) (H1 : Heap) (locs1 : List Loc), px E u → va_P D vwCl (wfx u) H1 → va_D A (wfx u) → va_S A s.heap H1 locs1 → H1[q9]? = some ce → ce.vm = .none → s.vm.findClass E = some ce.cls → vx_W p l e R s m args below meth c H1 locs1 (cells + mc) (slots + ms) Q (F0 m pc ls rest) q9)
    (kk : ∀ (z : Int) (u : S) (H1 : Heap) (locs1 : List Loc), post z u → va_P D vwCl (wf u) H1 → va_D A (wf u) → va_S A s.heap H1 locs1 → W p l e R s m args below meth c H1 locs1 (cells + mc) (slots + ms) Q (F0 m (pc + 3) ls (.int (iI z) :: rest))) : W p l e R s m args below meth c H locs cells slots Q (F0 m pc ls st0) := by
  have hPc := zP_sub hP isC hC
  have hDc := hD.sub isC hn1 hC
  have hFc := va_free hD hS hA isC hC
  refine vx_calli (vx_runS hfix hM cw ⟨fun a U g mk => zPcX_calling a U g mk, ?_⟩ rfl hnn hsize hst (lv_room hroom) hd hf) hS (fun q _ h => hFc q h) hFc (fun q _ h => hFc q h) ?_ ?_
  · intro U hU hW
    exact ⟨rfl, ⟨by rw [hU], by rw [hU]; exact hPc, va_K.moved hW.alike hK, hDc.weaken (fun _ _ _ _ => trivial)⟩, hZ.at hS hFc hU hW⟩
  · intro E ce q9 u t H1 locs1 ht hvm hp hB hz1 hk1 hS1 hce hcv hcl
    obtain ⟨hE, hP1, hK1, hD1⟩ := hB
    have hE2 : u.1 = E := hE.symm
    rw [ht] at hP1
    obtain ⟨hP2, hD2⟩ := va_join hP hD isC isR hC hR hn2 hdis hk1 hFc hP1 hD1
    exact kx E ce q9 u.2 H1 locs1 (by rw [← hE2]; exact hp) (zP_sub hP2 isX (hX u.2)) (hD2.sub isX hn4 (hX u.2)) hS1 hce hcv hcl
  · intro r u t H1 locs1 ht hvm hw hB hz1 hk1 hS1
    obtain ⟨hP1, hK1, hD1⟩ := hB
    obtain ⟨hr, hp⟩ := hw
    subst hr
    rw [ht] at hP1
    obtain ⟨hP2, hD2⟩ := va_join hP hD isC isR hC hR hn2 hdis hk1 hFc hP1 hD1
    exact kk u.1 u.2 H1 locs1 hp (zP_sub hP2 isF (hF u.2)) (hD2.sub isF hn3 (hF u.2)) hS1
theorem zx_callSv {S SX : Type} {post : S → Prop} {ws' wf : S → va_W} {px : String → SX → Prop} {wx wfx : SX → va_W} (hfix : CallFix p m c cc nL s args Ts own) (hM : zXv l y w rm K D tA As wc H.size post ws' px wx mc ms) (cw : CallB R s args own index y bytes maxL ret w rm mc ms n ∧ (Cond.static y).before args s = true) (hK : zK D tA s) (hP : va_P D vwCl ws H) (hD : va_D A ws) (hS : va_S A s.heap H locs) (hA : ∀ q, s.heap.size ≤ q → A q) (hZ : zT K A s) (isC isR isF isX : List Nat)
    (hC : isC.map (fun i => ws[i]?) = wc.map some) (hR : isR.map (fun i => ws[i]?) = (isR.filterMap (fun i => ws[i]?)).map some) (hn1 : va_nd isC = true) (hn2 : va_nd isR = true) (hn3 : va_nd isF = true) (hn4 : va_nd isX = true) (hdis : ∀ i ∈ isR, i ∉ isC) (hF : ∀ u, isF.map (fun i => (isR.filterMap (fun i => ws[i]?) ++ ws' u)[i]?) = (wf u).map some) (hX : ∀ u, isX.map (fun i => (isR.filterMap (fun i => ws[i]?) ++ wx u)[i]?) = (wfx u).map some)
    (hst : st0 = As.reverse ++ rest) (hnn : As.length = n) (hsize : ls.size = nL) (hroom : (rest.map fun v => v.category).sum ≤ 8) (hd : decode cc pc = .ok (.invokestatic index, 3)) (hf : cells + mc ≤ R.cells ∧ slots + ms ≤ R.slots)
    (kx : ∀ (E : String) (ce : Cell) (q9 : Addr) (u : SX) (H1 : Heap) (locs1 : List Loc), px E u → va_P D vwCl (wfx u) H1 → va_D A (wfx u) → va_S A s.heap H1 locs1 → H1[q9]? = some ce → ce.vm = .none → s.vm.findClass E = some ce.cls → vx_W p l e R s m args below meth c H1 locs1 (cells + mc) (slots + ms) Q (F0 m pc ls rest) q9)
    (kk : ∀ (u : S) (H1 : Heap) (locs1 : List Loc), post u → va_P D vwCl (wf u) H1 → va_D A (wf u) → va_S A s.heap H1 locs1 → W p l e R s m args below meth c H1 locs1 (cells + mc) (slots + ms) Q (F0 m (pc + 3) ls rest)) : W p l e R s m args below meth c H locs cells slots Q (F0 m pc ls st0) := by
  have hPc := zP_sub hP isC hC
  have hDc := hD.sub isC hn1 hC
  have hFc := va_free hD hS hA isC hC
  refine vx_callv (vx_runS hfix hM cw ⟨fun a U g mk => zPcX_calling a U g mk, ?_⟩ rfl hnn hsize hst (lv_room hroom) hd hf) hS (fun q _ h => hFc q h) hFc (fun q _ h => hFc q h) ?_ ?_
  · intro U hU hW
    exact ⟨rfl, ⟨by rw [hU], by rw [hU]; exact hPc, va_K.moved hW.alike hK, hDc.weaken (fun _ _ _ _ => trivial)⟩, hZ.at hS hFc hU hW⟩
  · intro E ce q9 u t H1 locs1 ht hvm hp hB hz1 hk1 hS1 hce hcv hcl
    obtain ⟨hE, hP1, hK1, hD1⟩ := hB
    have hE2 : u.1 = E := hE.symm
    rw [ht] at hP1
    obtain ⟨hP2, hD2⟩ := va_join hP hD isC isR hC hR hn2 hdis hk1 hFc hP1 hD1
    exact kx E ce q9 u.2 H1 locs1 (by rw [← hE2]; exact hp) (zP_sub hP2 isX (hX u.2)) (hD2.sub isX hn4 (hX u.2)) hS1 hce hcv hcl
  · intro u t H1 locs1 ht hvm hp hB hz1 hk1 hS1
    obtain ⟨hP1, hK1, hD1⟩ := hB
    rw [ht] at hP1
    obtain ⟨hP2, hD2⟩ := va_join hP hD isC isR hC hR hn2 hdis hk1 hFc hP1 hD1
    exact kk u H1 locs1 hp (zP_sub hP2 isF (hF u)) (hD2.sub isF hn3 (hF u)) hS1
theorem zx_callVi_ch {S SX : Type} {post : Int → S → Prop} {ws' : S → va_W} {px : String → SX → Prop} {wx : SX → va_W} {L Lc Lr : List va_W} {Lc' Lf : S → List va_W} {Lx Lfx : SX → List va_W} {is isF isX : List Nat} (hfix : CallFix p m c cc nL s args Ts own) (hM : zXi l y w rm K D tA (.ref b :: As) wc H.size post ws' px wx mc ms) (cw : CallW R s args own C index y bytes maxL ret w rm mc ms n) (hK : zK D tA s) (hP : va_P D vwCl L.flatten H) (hD : va_D A L.flatten) (hS : va_S A s.heap H locs) (hA : ∀ q, s.heap.size ≤ q → A q) (hZ : zT K A s) (hcut : zCut wc L Lc Lr is) (hback : zBack ws' Lr Lc' Lf isF) (hbackx : zBack wx Lr Lx Lfx isX) {ci q0 : Nat} {cq : vw_C} {fs : List Value} (hc : vwCl[ci]? = some cq) (hcq : cq.1 = C) (he : wc[q0]? = some (b, .inr (ci, fs)))
    (hst : st0 = As.reverse ++ .ref b :: rest) (hnn : As.length = n) (hsize : ls.size = nL) (hroom : (rest.map fun v => v.category).sum ≤ 8) (hd : decode cc pc = .ok (.invokevirtual index, 3)) (hf : cells + mc ≤ R.cells ∧ slots + ms ≤ R.slots)
    (kx : ∀ (E : String) (ce : Cell) (q9 : Addr) (u : SX) (H1 : Heap) (locs1 : List Loc), px E u → va_P D vwCl (Lfx u).flatten H1 → va_D A (Lfx u).flatten → va_S A s.heap H1 locs1 → H1[q9]? = some ce → ce.vm = .none → s.vm.findClass E = some ce.cls → vx_W p l e R s m args below meth c H1 locs1 (cells + mc) (slots + ms) Q (F0 m pc ls rest) q9)
    (kk : ∀ (z : Int) (u : S) (H1 : Heap) (locs1 : List Loc), post z u → va_P D vwCl (Lf u).flatten H1 → va_D A (Lf u).flatten → va_S A s.heap H1 locs1 → W p l e R s m args below meth c H1 locs1 (cells + mc) (slots + ms) Q (F0 m (pc + 3) ls (.int (iI z) :: rest))) : W p l e R s m args below meth c H locs cells slots Q (F0 m pc ls st0) := by
  have hP0 := hcut.P hP
  have hD0 := hcut.D hD
  have hPc := zap_Pc hP0
  have hDc := zap_Dc hD0
  have hFc := zap_Fc hD0 hS hA
  refine vx_calli (vx_runV hfix hM cw ⟨fun a U g mk => zPcX_calling a U g mk, ?_, ?_⟩ rfl hnn hsize hst (lv_room hroom) hd hf) hS (fun q _ h => hFc q h) hFc (fun q _ h => hFc q h) ?_ ?_
  · have h := va_recv hK hPc hc he
    rw [hcq] at h
    exact h
  · intro U hU hW
    exact ⟨rfl, ⟨by rw [hU], by rw [hU]; exact hPc, va_K.moved hW.alike hK, hDc.weaken (fun _ _ _ _ => trivial)⟩, hZ.at hS hFc hU hW⟩
  · intro E ce q9 u t H1 locs1 ht hvm hp hB hz1 hk1 hS1 hce hcv hcl
    obtain ⟨hE, hP1, hK1, hD1⟩ := hB
    have hE2 : u.1 = E := hE.symm
    rw [ht] at hP1
    obtain ⟨hP2, hD2⟩ := zap_J hP0 hD0 hk1 hFc hP1 hD1
    exact kx E ce q9 u.2 H1 locs1 (by rw [← hE2]; exact hp) (hbackx.P hP2) (hbackx.D hD2) hS1 hce hcv hcl
  · intro r u t H1 locs1 ht hvm hw hB hz1 hk1 hS1
    obtain ⟨hP1, hK1, hD1⟩ := hB
    obtain ⟨hr, hp⟩ := hw
    subst hr
    rw [ht] at hP1
    obtain ⟨hP2, hD2⟩ := zap_J hP0 hD0 hk1 hFc hP1 hD1
    exact kk u.1 u.2 H1 locs1 hp (hback.P hP2) (hback.D hD2) hS1
theorem zx_callVv_ch {S SX : Type} {post : S → Prop} {ws' : S → va_W} {px : String → SX → Prop} {wx : SX → va_W} {L Lc Lr : List va_W} {Lc' Lf : S → List va_W} {Lx Lfx : SX → List va_W} {is isF isX : List Nat} (hfix : CallFix p m c cc nL s args Ts own) (hM : zXv l y w rm K D tA (.ref b :: As) wc H.size post ws' px wx mc ms) (cw : CallW R s args own C index y bytes maxL ret w rm mc ms n) (hK : zK D tA s) (hP : va_P D vwCl L.flatten H) (hD : va_D A L.flatten) (hS : va_S A s.heap H locs) (hA : ∀ q, s.heap.size ≤ q → A q) (hZ : zT K A s) (hcut : zCut wc L Lc Lr is) (hback : zBack ws' Lr Lc' Lf isF) (hbackx : zBack wx Lr Lx Lfx isX) {ci q0 : Nat} {cq : vw_C} {fs : List Value} (hc : vwCl[ci]? = some cq) (hcq : cq.1 = C) (he : wc[q0]? = some (b, .inr (ci, fs)))
    (hst : st0 = As.reverse ++ .ref b :: rest) (hnn : As.length = n) (hsize : ls.size = nL) (hroom : (rest.map fun v => v.category).sum ≤ 8) (hd : decode cc pc = .ok (.invokevirtual index, 3)) (hf : cells + mc ≤ R.cells ∧ slots + ms ≤ R.slots)
    (kx : ∀ (E : String) (ce : Cell) (q9 : Addr) (u : SX) (H1 : Heap) (locs1 : List Loc), px E u → va_P D vwCl (Lfx u).flatten H1 → va_D A (Lfx u).flatten → va_S A s.heap H1 locs1 → H1[q9]? = some ce → ce.vm = .none → s.vm.findClass E = some ce.cls → vx_W p l e R s m args below meth c H1 locs1 (cells + mc) (slots + ms) Q (F0 m pc ls rest) q9)
    (kk : ∀ (u : S) (H1 : Heap) (locs1 : List Loc), post u → va_P D vwCl (Lf u).flatten H1 → va_D A (Lf u).flatten → va_S A s.heap H1 locs1 → W p l e R s m args below meth c H1 locs1 (cells + mc) (slots + ms) Q (F0 m (pc + 3) ls (rest))) : W p l e R s m args below meth c H locs cells slots Q (F0 m pc ls st0) := by
  have hP0 := hcut.P hP
  have hD0 := hcut.D hD
  have hPc := zap_Pc hP0
  have hDc := zap_Dc hD0
  have hFc := zap_Fc hD0 hS hA
  refine vx_callv (vx_runV hfix hM cw ⟨fun a U g mk => zPcX_calling a U g mk, ?_, ?_⟩ rfl hnn hsize hst (lv_room hroom) hd hf) hS (fun q _ h => hFc q h) hFc (fun q _ h => hFc q h) ?_ ?_
  · have h := va_recv hK hPc hc he
    rw [hcq] at h
    exact h
  · intro U hU hW
    exact ⟨rfl, ⟨by rw [hU], by rw [hU]; exact hPc, va_K.moved hW.alike hK, hDc.weaken (fun _ _ _ _ => trivial)⟩, hZ.at hS hFc hU hW⟩
  · intro E ce q9 u t H1 locs1 ht hvm hp hB hz1 hk1 hS1 hce hcv hcl
    obtain ⟨hE, hP1, hK1, hD1⟩ := hB
    have hE2 : u.1 = E := hE.symm
    rw [ht] at hP1
    obtain ⟨hP2, hD2⟩ := zap_J hP0 hD0 hk1 hFc hP1 hD1
    exact kx E ce q9 u.2 H1 locs1 (by rw [← hE2]; exact hp) (hbackx.P hP2) (hbackx.D hD2) hS1 hce hcv hcl
  · intro u t H1 locs1 ht hvm hp hB hz1 hk1 hS1
    obtain ⟨hP1, hK1, hD1⟩ := hB
    rw [ht] at hP1
    obtain ⟨hP2, hD2⟩ := zap_J hP0 hD0 hk1 hFc hP1 hD1
    exact kk u H1 locs1 hp (hback.P hP2) (hback.D hD2) hS1
theorem zx_callSi_ch {S SX : Type} {post : Int → S → Prop} {ws' : S → va_W} {px : String → SX → Prop} {wx : SX → va_W} {L Lc Lr : List va_W} {Lc' Lf : S → List va_W} {Lx Lfx : SX → List va_W} {is isF isX : List Nat} (hfix : CallFix p m c cc nL s args Ts own) (hM : zXi l y w rm K D tA (As) wc H.size post ws' px wx mc ms) (cw : CallB R s args own index y bytes maxL ret w rm mc ms n ∧ (Cond.static y).before args s = true) (hK : zK D tA s) (hP : va_P D vwCl L.flatten H) (hD : va_D A L.flatten) (hS : va_S A s.heap H locs) (hA : ∀ q, s.heap.size ≤ q → A q) (hZ : zT K A s) (hcut : zCut wc L Lc Lr is) (hback : zBack ws' Lr Lc' Lf isF) (hbackx : zBack wx Lr Lx Lfx isX) 
    (hst : st0 = As.reverse ++ rest) (hnn : As.length = n) (hsize : ls.size = nL) (hroom : (rest.map fun v => v.category).sum ≤ 8) (hd : decode cc pc = .ok (.invokestatic index, 3)) (hf : cells + mc ≤ R.cells ∧ slots + ms ≤ R.slots)
    (kx : ∀ (E : String) (ce : Cell) (q9 : Addr) (u : SX) (H1 : Heap) (locs1 : List Loc), px E u → va_P D vwCl (Lfx u).flatten H1 → va_D A (Lfx u).flatten → va_S A s.heap H1 locs1 → H1[q9]? = some ce → ce.vm = .none → s.vm.findClass E = some ce.cls → vx_W p l e R s m args below meth c H1 locs1 (cells + mc) (slots + ms) Q (F0 m pc ls rest) q9)
    (kk : ∀ (z : Int) (u : S) (H1 : Heap) (locs1 : List Loc), post z u → va_P D vwCl (Lf u).flatten H1 → va_D A (Lf u).flatten → va_S A s.heap H1 locs1 → W p l e R s m args below meth c H1 locs1 (cells + mc) (slots + ms) Q (F0 m (pc + 3) ls (.int (iI z) :: rest))) : W p l e R s m args below meth c H locs cells slots Q (F0 m pc ls st0) := by
  have hP0 := hcut.P hP
  have hD0 := hcut.D hD
  have hPc := zap_Pc hP0
  have hDc := zap_Dc hD0
  have hFc := zap_Fc hD0 hS hA
  refine vx_calli (vx_runS hfix hM cw ⟨fun a U g mk => zPcX_calling a U g mk, ?_⟩ rfl hnn hsize hst (lv_room hroom) hd hf) hS (fun q _ h => hFc q h) hFc (fun q _ h => hFc q h) ?_ ?_
  · intro U hU hW
    exact ⟨rfl, ⟨by rw [hU], by rw [hU]; exact hPc, va_K.moved hW.alike hK, hDc.weaken (fun _ _ _ _ => trivial)⟩, hZ.at hS hFc hU hW⟩
  · intro E ce q9 u t H1 locs1 ht hvm hp hB hz1 hk1 hS1 hce hcv hcl
    obtain ⟨hE, hP1, hK1, hD1⟩ := hB
    have hE2 : u.1 = E := hE.symm
    rw [ht] at hP1
    obtain ⟨hP2, hD2⟩ := zap_J hP0 hD0 hk1 hFc hP1 hD1
    exact kx E ce q9 u.2 H1 locs1 (by rw [← hE2]; exact hp) (hbackx.P hP2) (hbackx.D hD2) hS1 hce hcv hcl
  · intro r u t H1 locs1 ht hvm hw hB hz1 hk1 hS1
    obtain ⟨hP1, hK1, hD1⟩ := hB
    obtain ⟨hr, hp⟩ := hw
    subst hr
    rw [ht] at hP1
    obtain ⟨hP2, hD2⟩ := zap_J hP0 hD0 hk1 hFc hP1 hD1
    exact kk u.1 u.2 H1 locs1 hp (hback.P hP2) (hback.D hD2) hS1
theorem zx_callSv_ch {S SX : Type} {post : S → Prop} {ws' : S → va_W} {px : String → SX → Prop} {wx : SX → va_W} {L Lc Lr : List va_W} {Lc' Lf : S → List va_W} {Lx Lfx : SX → List va_W} {is isF isX : List Nat} (hfix : CallFix p m c cc nL s args Ts own) (hM : zXv l y w rm K D tA (As) wc H.size post ws' px wx mc ms) (cw : CallB R s args own index y bytes maxL ret w rm mc ms n ∧ (Cond.static y).before args s = true) (hK : zK D tA s) (hP : va_P D vwCl L.flatten H) (hD : va_D A L.flatten) (hS : va_S A s.heap H locs) (hA : ∀ q, s.heap.size ≤ q → A q) (hZ : zT K A s) (hcut : zCut wc L Lc Lr is) (hback : zBack ws' Lr Lc' Lf isF) (hbackx : zBack wx Lr Lx Lfx isX) 
    (hst : st0 = As.reverse ++ rest) (hnn : As.length = n) (hsize : ls.size = nL) (hroom : (rest.map fun v => v.category).sum ≤ 8) (hd : decode cc pc = .ok (.invokestatic index, 3)) (hf : cells + mc ≤ R.cells ∧ slots + ms ≤ R.slots)
    (kx : ∀ (E : String) (ce : Cell) (q9 : Addr) (u : SX) (H1 : Heap) (locs1 : List Loc), px E u → va_P D vwCl (Lfx u).flatten H1 → va_D A (Lfx u).flatten → va_S A s.heap H1 locs1 → H1[q9]? = some ce → ce.vm = .none → s.vm.findClass E = some ce.cls → vx_W p l e R s m args below meth c H1 locs1 (cells + mc) (slots + ms) Q (F0 m pc ls rest) q9)
    (kk : ∀ (u : S) (H1 : Heap) (locs1 : List Loc), post u → va_P D vwCl (Lf u).flatten H1 → va_D A (Lf u).flatten → va_S A s.heap H1 locs1 → W p l e R s m args below meth c H1 locs1 (cells + mc) (slots + ms) Q (F0 m (pc + 3) ls (rest))) : W p l e R s m args below meth c H locs cells slots Q (F0 m pc ls st0) := by
  have hP0 := hcut.P hP
  have hD0 := hcut.D hD
  have hPc := zap_Pc hP0
  have hDc := zap_Dc hD0
  have hFc := zap_Fc hD0 hS hA
  refine vx_callv (vx_runS hfix hM cw ⟨fun a U g mk => zPcX_calling a U g mk, ?_⟩ rfl hnn hsize hst (lv_room hroom) hd hf) hS (fun q _ h => hFc q h) hFc (fun q _ h => hFc q h) ?_ ?_
  · intro U hU hW
    exact ⟨rfl, ⟨by rw [hU], by rw [hU]; exact hPc, va_K.moved hW.alike hK, hDc.weaken (fun _ _ _ _ => trivial)⟩, hZ.at hS hFc hU hW⟩
  · intro E ce q9 u t H1 locs1 ht hvm hp hB hz1 hk1 hS1 hce hcv hcl
    obtain ⟨hE, hP1, hK1, hD1⟩ := hB
    have hE2 : u.1 = E := hE.symm
    rw [ht] at hP1
    obtain ⟨hP2, hD2⟩ := zap_J hP0 hD0 hk1 hFc hP1 hD1
    exact kx E ce q9 u.2 H1 locs1 (by rw [← hE2]; exact hp) (hbackx.P hP2) (hbackx.D hD2) hS1 hce hcv hcl
  · intro u t H1 locs1 ht hvm hp hB hz1 hk1 hS1
    obtain ⟨hP1, hK1, hD1⟩ := hB
    rw [ht] at hP1
    obtain ⟨hP2, hD2⟩ := zap_J hP0 hD0 hk1 hFc hP1 hD1
    exact kk u H1 locs1 hp (hback.P hP2) (hback.D hD2) hS1
end ZXC
