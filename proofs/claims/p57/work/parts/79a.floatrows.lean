/-! ===== methods that answer doubles, floats ===== -/
def zMd {S : Type} (l : Launch) (y : MethodName) (w : List Cond) (rm : Room) (D : va_G) (tA : Nat → ClassId) (av : List Value) (ws : va_W) (sz : Nat) (post : UInt64 → S → Prop) (ws' : S → va_W) (mc ms : Nat) : Prop :=
  Met l y w rm (va_Pc av (zPre D tA ws sz)) (va_Qd (fun r (u : UInt64 × S) => r = u.1 ∧ post u.1 u.2) (fun u => zB D tA (va_A ws sz) (ws' u.2)) (va_A ws sz)) mc ms (va_A ws sz)

theorem zMd_of {S : Type} {l : Launch} {y : MethodName} {w : List Cond} {rm : Room} {D : va_G} {tA : Nat → ClassId} {av : List Value} {ws : va_W} {sz : Nat} {post : UInt64 → S → Prop} {ws' : S → va_W} {mc ms : Nat} {cc : ByteArray} {maxL : Nat} {w0 : List Cond} (hy : plainName y.cls = true) (hw : w = Cond.code y cc maxL (some .double) :: w0) (hlen : (lg_sl av).length ≤ maxL)
    (body : ∀ (p : Program) (e : Env) (s : State) (m : MethodId) (args : Array Value) (below : List Frame) (meth : Method) (c : Code) (A : Nat → Prop) (Q : State → Prop) (ls : Array Slot), p.tables.exec = Jvm.exec → c.code = cc → c.maxLocals = maxL → (∀ v ∈ w, v.before args s = true) → s.vm.findClass y.cls = some m.cls → zK D tA s → va_P D vwCl ws s.heap → va_D A ws → (∀ q, s.heap.size ≤ q → A q) →
      (∀ (z : UInt64) (u : S) (H : Heap) (locs : List Loc) (pc : Nat) (ls : Array Slot), decode cc pc = .ok (.dreturn, 1) → post z u → va_P D vwCl (ws' u) H → va_D A (ws' u) → va_S A s.heap H locs → W p l e (headSpec w rm).room s m args below meth c H locs mc ms Q (F0 m pc ls [.double z])) →
      lv_has ls maxL (lv_args 0 av) → W p l e (headSpec w rm).room s m args below meth c s.heap [] 0 0 Q (F0 m 0 ls [])) : zMd l y w rm D tA av ws sz post ws' mc ms := by
  refine Met.ofW (cc := cc) (maxL := maxL) (ret := some .double) hy hw ?_
  intro p e s m args below meth c s₁ B hml hv
  obtain ⟨hav, hsz, hP, hK, hD0⟩ := hv
  subst hav
  subst hsz
  have hts := atoms_spec (ws := w) B.pre
  have hl := lv_entry av (n := maxL) hlen
  rw [lg_entry_eq]
  exact body p e s m _ below meth c (va_A ws s.heap.size) _ _ B.exec B.bytes hml hts (findClass_of_methodNamed B.named) hK hP hD0.self (fun q h => Or.inr h)
    (fun z u H locs pc ls hd hp hP' hD' hS => W.dret B.exec B.bytes B.returns (fun t ht hW => ⟨⟨z, (z, u), rfl, ⟨rfl, hp⟩, by rw [ht]; exact hP', va_K.moved hW.alike hK, hD'⟩, hS.F ht⟩) hS.2.2 hd B.notSynchronized) hl

def zXd {S SX : Type} (l : Launch) (y : MethodName) (w : List Cond) (rm : Room) (K : Nat → Nat) (D : va_G) (tA : Nat → ClassId) (av : List Value) (ws : va_W) (sz : Nat) (post : UInt64 → S → Prop) (ws' : S → va_W) (px : String → SX → Prop) (wx : SX → va_W) (mc ms : Nat) : Prop :=
  vx_Met l y w rm (va_Pc av (zPreX K D tA ws sz)) (va_Qd (fun r (u : UInt64 × S) => r = u.1 ∧ post u.1 u.2) (fun u => zB D tA (va_A ws sz) (ws' u.2)) (va_A ws sz)) (zXE D tA (va_A ws sz) px wx) mc ms (va_A ws sz)

theorem zXd_of {S SX : Type} {l : Launch} {y : MethodName} {w : List Cond} {rm : Room} {K : Nat → Nat} {D : va_G} {tA : Nat → ClassId} {av : List Value} {ws : va_W} {sz : Nat} {post : UInt64 → S → Prop} {ws' : S → va_W} {px : String → SX → Prop} {wx : SX → va_W} {mc ms : Nat} {cc : ByteArray} {maxL : Nat} {w0 : List Cond} (hst : l.stackTraces = false) (hcls : y.cls = RX10) (hR : 5 < rm.frames ∧ 90 ≤ rm.locals ∧ mc ≤ rm.cells ∧ ms ≤ rm.slots) (hy : plainName y.cls = true) (hw : w = Cond.code y cc maxL (some .double) :: w0) (hlen : (lg_sl av).length ≤ maxL)
    (body : ∀ (p : Program) (e : Env) (s : State) (m : MethodId) (args : Array Value) (below : List Frame) (meth : Method) (c : Code) (A : Nat → Prop) (Q : State → Prop) (ls : Array Slot), p.tables.exec = Jvm.exec → c.code = cc → c.maxLocals = maxL → (∀ v ∈ w, v.before args s = true) → s.vm.findClass y.cls = some m.cls → zK D tA s → va_P D vwCl ws s.heap → va_D A ws → (∀ q, s.heap.size ≤ q → A q) → zT K A s →
      (∀ (z : UInt64) (u : S) (H : Heap) (locs : List Loc) (pc k n : Nat) (ls : Array Slot), k ≤ mc → n ≤ ms → decode cc pc = .ok (.dreturn, 1) → post z u → va_P D vwCl (ws' u) H → va_D A (ws' u) → va_S A s.heap H locs → W p l e (headSpec w rm).room s m args below meth c H locs k n Q (F0 m pc ls [.double z])) →
      zThr p l e (headSpec w rm).room s m args below meth c cc Q D tA A mc ms px wx → zEsc p l e (headSpec w rm).room s m args below meth c Q D tA A mc ms px wx →
      lv_has ls maxL (lv_args 0 av) → W p l e (headSpec w rm).room s m args below meth c s.heap [] 0 0 Q (F0 m 0 ls [])) : zXd l y w rm K D tA av ws sz post ws' px wx mc ms := by
  refine vx_ofW (cc := cc) (maxL := maxL) (ret := some .double) hy hw ?_
  intro p e s m args below meth c s₁ B hml ht hv
  obtain ⟨hav, ⟨hsz, hP, hK, hD0⟩, hZ⟩ := hv
  subst hav
  subst hsz
  have hts := atoms_spec (ws := w) B.pre
  have hl := lv_entry av (n := maxL) hlen
  have hown := findClass_of_methodNamed B.named
  rw [lg_entry_eq]
  refine body p e s m _ below meth c (va_A ws s.heap.size) _ _ B.exec B.bytes hml hts hown hK hP hD0.self (fun q h => Or.inr h) hZ
    (fun z u H locs pc k n ls hk hn' hd hp hP' hD' hS => vx_ret (W.widen hk hn' (W.dret B.exec B.bytes B.returns (fun t ht hW => ⟨⟨z, (z, u), rfl, ⟨rfl, hp⟩, by rw [ht]; exact hP', va_K.moved hW.alike hK, hD'⟩, hS.F ht⟩) hS.2.2 hd B.notSynchronized))) ?_ ?_ hl
  · intro cls text ik is ic u H locs pc k n ls rest hls hstr hfit hck hini hgw hbw hot d0 d3 d4 d7 d10 hrest hk hn' hp hP' hD' hS
    obtain ⟨sa, hsa⟩ := hZ.1.1 _ hstr
    refine vx_throwSW (own := RX10) (sa := sa) B.exec B.bytes hst (hcls ▸ hown) hfit (by decide) hck hini hsa (vx_hat hgw hbw hZ.1.words) hot hZ.2.1 hZ.2.2.1 hS hls d0 d3 d4 d7 d10 (fun x hx => (ht x hx).elim) (by have := hR.1; show 2 + 3 < rm.frames; omega) (by have := hR.2.1; show _ + (13 * (2 + 1) + 43) ≤ rm.locals; omega) (by have := hR.2.2.1; show k + 1 ≤ rm.cells; omega) (by have := hR.2.2.2; show n + 6 ≤ rm.slots; omega) B.notSynchronized ?_ hS.2.2 hk hn'
    intro t hal hsz1 hkeep
    exact ⟨(cls, u), hp, ⟨rfl, zP_kept hP' hkeep, va_K.moved hal hK, hD'⟩, Nat.le_trans hS.1 hsz1, fun q h1 h2 => by rw [hkeep q (Nat.lt_of_lt_of_le h1 hS.1)]; exact hS.2.1 q h1 h2⟩
  · intro E ce q u H locs pc k n ls rest hce hcv hcl hk hn' hp hP' hD' hS
    exact vx_out (fun x hx => (ht x hx).elim) B.notSynchronized hce hcv hcl (fun t ht' hal => ⟨(E, u), hp, ⟨rfl, by rw [ht']; exact hP', va_K.moved hal hK, hD'⟩, hS.F ht'⟩) hS.2.2 hk hn'

def zMf {S : Type} (l : Launch) (y : MethodName) (w : List Cond) (rm : Room) (D : va_G) (tA : Nat → ClassId) (av : List Value) (ws : va_W) (sz : Nat) (post : UInt32 → S → Prop) (ws' : S → va_W) (mc ms : Nat) : Prop :=
  Met l y w rm (va_Pc av (zPre D tA ws sz)) (va_Qf (fun r (u : UInt32 × S) => r = u.1 ∧ post u.1 u.2) (fun u => zB D tA (va_A ws sz) (ws' u.2)) (va_A ws sz)) mc ms (va_A ws sz)

theorem zMf_of {S : Type} {l : Launch} {y : MethodName} {w : List Cond} {rm : Room} {D : va_G} {tA : Nat → ClassId} {av : List Value} {ws : va_W} {sz : Nat} {post : UInt32 → S → Prop} {ws' : S → va_W} {mc ms : Nat} {cc : ByteArray} {maxL : Nat} {w0 : List Cond} (hy : plainName y.cls = true) (hw : w = Cond.code y cc maxL (some .float) :: w0) (hlen : (lg_sl av).length ≤ maxL)
    (body : ∀ (p : Program) (e : Env) (s : State) (m : MethodId) (args : Array Value) (below : List Frame) (meth : Method) (c : Code) (A : Nat → Prop) (Q : State → Prop) (ls : Array Slot), p.tables.exec = Jvm.exec → c.code = cc → c.maxLocals = maxL → (∀ v ∈ w, v.before args s = true) → s.vm.findClass y.cls = some m.cls → zK D tA s → va_P D vwCl ws s.heap → va_D A ws → (∀ q, s.heap.size ≤ q → A q) →
      (∀ (z : UInt32) (u : S) (H : Heap) (locs : List Loc) (pc : Nat) (ls : Array Slot), decode cc pc = .ok (.freturn, 1) → post z u → va_P D vwCl (ws' u) H → va_D A (ws' u) → va_S A s.heap H locs → W p l e (headSpec w rm).room s m args below meth c H locs mc ms Q (F0 m pc ls [.float z])) →
      lv_has ls maxL (lv_args 0 av) → W p l e (headSpec w rm).room s m args below meth c s.heap [] 0 0 Q (F0 m 0 ls [])) : zMf l y w rm D tA av ws sz post ws' mc ms := by
  refine Met.ofW (cc := cc) (maxL := maxL) (ret := some .float) hy hw ?_
  intro p e s m args below meth c s₁ B hml hv
  obtain ⟨hav, hsz, hP, hK, hD0⟩ := hv
  subst hav
  subst hsz
  have hts := atoms_spec (ws := w) B.pre
  have hl := lv_entry av (n := maxL) hlen
  rw [lg_entry_eq]
  exact body p e s m _ below meth c (va_A ws s.heap.size) _ _ B.exec B.bytes hml hts (findClass_of_methodNamed B.named) hK hP hD0.self (fun q h => Or.inr h)
    (fun z u H locs pc ls hd hp hP' hD' hS => W.fret B.exec B.bytes B.returns (fun t ht hW => ⟨⟨z, (z, u), rfl, ⟨rfl, hp⟩, by rw [ht]; exact hP', va_K.moved hW.alike hK, hD'⟩, hS.F ht⟩) hS.2.2 hd B.notSynchronized) hl

def zXf {S SX : Type} (l : Launch) (y : MethodName) (w : List Cond) (rm : Room) (K : Nat → Nat) (D : va_G) (tA : Nat → ClassId) (av : List Value) (ws : va_W) (sz : Nat) (post : UInt32 → S → Prop) (ws' : S → va_W) (px : String → SX → Prop) (wx : SX → va_W) (mc ms : Nat) : Prop :=
  vx_Met l y w rm (va_Pc av (zPreX K D tA ws sz)) (va_Qf (fun r (u : UInt32 × S) => r = u.1 ∧ post u.1 u.2) (fun u => zB D tA (va_A ws sz) (ws' u.2)) (va_A ws sz)) (zXE D tA (va_A ws sz) px wx) mc ms (va_A ws sz)

theorem zXf_of {S SX : Type} {l : Launch} {y : MethodName} {w : List Cond} {rm : Room} {K : Nat → Nat} {D : va_G} {tA : Nat → ClassId} {av : List Value} {ws : va_W} {sz : Nat} {post : UInt32 → S → Prop} {ws' : S → va_W} {px : String → SX → Prop} {wx : SX → va_W} {mc ms : Nat} {cc : ByteArray} {maxL : Nat} {w0 : List Cond} (hst : l.stackTraces = false) (hcls : y.cls = RX10) (hR : 5 < rm.frames ∧ 90 ≤ rm.locals ∧ mc ≤ rm.cells ∧ ms ≤ rm.slots) (hy : plainName y.cls = true) (hw : w = Cond.code y cc maxL (some .float) :: w0) (hlen : (lg_sl av).length ≤ maxL)
    (body : ∀ (p : Program) (e : Env) (s : State) (m : MethodId) (args : Array Value) (below : List Frame) (meth : Method) (c : Code) (A : Nat → Prop) (Q : State → Prop) (ls : Array Slot), p.tables.exec = Jvm.exec → c.code = cc → c.maxLocals = maxL → (∀ v ∈ w, v.before args s = true) → s.vm.findClass y.cls = some m.cls → zK D tA s → va_P D vwCl ws s.heap → va_D A ws → (∀ q, s.heap.size ≤ q → A q) → zT K A s →
      (∀ (z : UInt32) (u : S) (H : Heap) (locs : List Loc) (pc k n : Nat) (ls : Array Slot), k ≤ mc → n ≤ ms → decode cc pc = .ok (.freturn, 1) → post z u → va_P D vwCl (ws' u) H → va_D A (ws' u) → va_S A s.heap H locs → W p l e (headSpec w rm).room s m args below meth c H locs k n Q (F0 m pc ls [.float z])) →
      zThr p l e (headSpec w rm).room s m args below meth c cc Q D tA A mc ms px wx → zEsc p l e (headSpec w rm).room s m args below meth c Q D tA A mc ms px wx →
      lv_has ls maxL (lv_args 0 av) → W p l e (headSpec w rm).room s m args below meth c s.heap [] 0 0 Q (F0 m 0 ls [])) : zXf l y w rm K D tA av ws sz post ws' px wx mc ms := by
  refine vx_ofW (cc := cc) (maxL := maxL) (ret := some .float) hy hw ?_
  intro p e s m args below meth c s₁ B hml ht hv
  obtain ⟨hav, ⟨hsz, hP, hK, hD0⟩, hZ⟩ := hv
  subst hav
  subst hsz
  have hts := atoms_spec (ws := w) B.pre
  have hl := lv_entry av (n := maxL) hlen
  have hown := findClass_of_methodNamed B.named
  rw [lg_entry_eq]
  refine body p e s m _ below meth c (va_A ws s.heap.size) _ _ B.exec B.bytes hml hts hown hK hP hD0.self (fun q h => Or.inr h) hZ
    (fun z u H locs pc k n ls hk hn' hd hp hP' hD' hS => vx_ret (W.widen hk hn' (W.fret B.exec B.bytes B.returns (fun t ht hW => ⟨⟨z, (z, u), rfl, ⟨rfl, hp⟩, by rw [ht]; exact hP', va_K.moved hW.alike hK, hD'⟩, hS.F ht⟩) hS.2.2 hd B.notSynchronized))) ?_ ?_ hl
  · intro cls text ik is ic u H locs pc k n ls rest hls hstr hfit hck hini hgw hbw hot d0 d3 d4 d7 d10 hrest hk hn' hp hP' hD' hS
    obtain ⟨sa, hsa⟩ := hZ.1.1 _ hstr
    refine vx_throwSW (own := RX10) (sa := sa) B.exec B.bytes hst (hcls ▸ hown) hfit (by decide) hck hini hsa (vx_hat hgw hbw hZ.1.words) hot hZ.2.1 hZ.2.2.1 hS hls d0 d3 d4 d7 d10 (fun x hx => (ht x hx).elim) (by have := hR.1; show 2 + 3 < rm.frames; omega) (by have := hR.2.1; show _ + (13 * (2 + 1) + 43) ≤ rm.locals; omega) (by have := hR.2.2.1; show k + 1 ≤ rm.cells; omega) (by have := hR.2.2.2; show n + 6 ≤ rm.slots; omega) B.notSynchronized ?_ hS.2.2 hk hn'
    intro t hal hsz1 hkeep
    exact ⟨(cls, u), hp, ⟨rfl, zP_kept hP' hkeep, va_K.moved hal hK, hD'⟩, Nat.le_trans hS.1 hsz1, fun q h1 h2 => by rw [hkeep q (Nat.lt_of_lt_of_le h1 hS.1)]; exact hS.2.1 q h1 h2⟩
  · intro E ce q u H locs pc k n ls rest hce hcv hcl hk hn' hp hP' hD' hS
    exact vx_out (fun x hx => (ht x hx).elim) B.notSynchronized hce hcv hcl (fun t ht' hal => ⟨(E, u), hp, ⟨rfl, by rw [ht']; exact hP', va_K.moved hal hK, hD'⟩, hS.F ht'⟩) hS.2.2 hk hn'

section ZFM
variable {p : Program} {l : Launch} {e : Env} {R : Room} {s : State} {m : MethodId} {args : Array Value} {below : List Frame} {meth : Method} {c : Code} {H : Heap} {locs : List Loc} {cells slots : Nat} {Q : State → Prop}
variable {cc : ByteArray} {pc : Nat} {ls : Array Slot} {rest st0 : List Value} {D : va_G} {tA : Nat → ClassId} {wc : va_W} {A : Nat → Prop} {H0 : Heap}
variable {y : MethodName} {bytes : ByteArray} {maxL nL mc ms n index : Nat} {ret : Option FieldType} {w Ts : List Cond} {rm : Room} {own C : String} {b : Addr} {As : List Value}
theorem zz_callVd_ch {S : Type} {post : UInt64 → S → Prop} {ws' : S → va_W} {L Lc Lr : List va_W} {Lc' Lf : S → List va_W} {is isF : List Nat} (hfix : CallFix p m c cc nL s args Ts own) (hM : zMd l y w rm D tA (.ref b :: As) wc H.size post ws' mc ms) (cw : CallW R s args own C index y bytes maxL ret w rm mc ms n) (hK : zK D tA s) (hP : va_P D vwCl L.flatten H) (hD : va_D A L.flatten) (hS : va_S A H0 H locs) (hA : ∀ q, H0.size ≤ q → A q) (hcut : zCut wc L Lc Lr is) (hback : zBack ws' Lr Lc' Lf isF) {ci q0 : Nat} {cq : vw_C} {fs : List Value} (hc : vwCl[ci]? = some cq) (hcq : cq.1 = C) (he : wc[q0]? = some (b, .inr (ci, fs)))
    (hst : st0 = As.reverse ++ .ref b :: rest) (hnn : As.length = n) (hsize : ls.size = nL) (hroom : (rest.map fun v => v.category).sum ≤ 8) (hd : decode cc pc = .ok (.invokevirtual index, 3)) (hf : cells + mc ≤ R.cells ∧ slots + ms ≤ R.slots)
    (kk : ∀ (z : UInt64) (u : S) (H1 : Heap) (locs1 : List Loc), post z u → va_P D vwCl (Lf u).flatten H1 → va_D A (Lf u).flatten → va_S A H0 H1 locs1 → W p l e R s m args below meth c H1 locs1 (cells + mc) (slots + ms) Q (F0 m (pc + 3) ls (.double z :: rest))) : W p l e R s m args below meth c H locs cells slots Q (F0 m pc ls st0) := by
  have hP0 := hcut.P hP
  have hD0 := hcut.D hD
  have hPc := zap_Pc hP0
  have hDc := zap_Dc hD0
  have hFc := zap_Fc hD0 hS hA
  refine va_calld (va_runV hfix hM cw ⟨fun a U g mk => zPc_calling a U g mk, ?_, ?_⟩ rfl hnn hsize hst (lv_room hroom) hd hf) hS (fun q _ h => hFc q h) hFc ?_
  · have h := va_recv hK hPc hc he
    rw [hcq] at h
    exact h
  · intro U hU hW
    exact ⟨rfl, by rw [hU], by rw [hU]; exact hPc, va_K.moved hW.alike hK, hDc.weaken (fun _ _ _ _ => trivial)⟩
  · intro r u t H1 locs1 ht hvm hw hB hz1 hk1 hS1
    obtain ⟨hP1, hK1, hD1⟩ := hB
    obtain ⟨hr, hp⟩ := hw
    subst hr
    rw [ht] at hP1
    obtain ⟨hP2, hD2⟩ := zap_J hP0 hD0 hk1 hFc hP1 hD1
    exact kk u.1 u.2 H1 locs1 hp (hback.P hP2) (hback.D hD2) hS1

theorem zz_callVf_ch {S : Type} {post : UInt32 → S → Prop} {ws' : S → va_W} {L Lc Lr : List va_W} {Lc' Lf : S → List va_W} {is isF : List Nat} (hfix : CallFix p m c cc nL s args Ts own) (hM : zMf l y w rm D tA (.ref b :: As) wc H.size post ws' mc ms) (cw : CallW R s args own C index y bytes maxL ret w rm mc ms n) (hK : zK D tA s) (hP : va_P D vwCl L.flatten H) (hD : va_D A L.flatten) (hS : va_S A H0 H locs) (hA : ∀ q, H0.size ≤ q → A q) (hcut : zCut wc L Lc Lr is) (hback : zBack ws' Lr Lc' Lf isF) {ci q0 : Nat} {cq : vw_C} {fs : List Value} (hc : vwCl[ci]? = some cq) (hcq : cq.1 = C) (he : wc[q0]? = some (b, .inr (ci, fs)))
    (hst : st0 = As.reverse ++ .ref b :: rest) (hnn : As.length = n) (hsize : ls.size = nL) (hroom : (rest.map fun v => v.category).sum ≤ 8) (hd : decode cc pc = .ok (.invokevirtual index, 3)) (hf : cells + mc ≤ R.cells ∧ slots + ms ≤ R.slots)
    (kk : ∀ (z : UInt32) (u : S) (H1 : Heap) (locs1 : List Loc), post z u → va_P D vwCl (Lf u).flatten H1 → va_D A (Lf u).flatten → va_S A H0 H1 locs1 → W p l e R s m args below meth c H1 locs1 (cells + mc) (slots + ms) Q (F0 m (pc + 3) ls (.float z :: rest))) : W p l e R s m args below meth c H locs cells slots Q (F0 m pc ls st0) := by
  have hP0 := hcut.P hP
  have hD0 := hcut.D hD
  have hPc := zap_Pc hP0
  have hDc := zap_Dc hD0
  have hFc := zap_Fc hD0 hS hA
  refine va_callf (va_runV hfix hM cw ⟨fun a U g mk => zPc_calling a U g mk, ?_, ?_⟩ rfl hnn hsize hst (lv_room hroom) hd hf) hS (fun q _ h => hFc q h) hFc ?_
  · have h := va_recv hK hPc hc he
    rw [hcq] at h
    exact h
  · intro U hU hW
    exact ⟨rfl, by rw [hU], by rw [hU]; exact hPc, va_K.moved hW.alike hK, hDc.weaken (fun _ _ _ _ => trivial)⟩
  · intro r u t H1 locs1 ht hvm hw hB hz1 hk1 hS1
    obtain ⟨hP1, hK1, hD1⟩ := hB
    obtain ⟨hr, hp⟩ := hw
    subst hr
    rw [ht] at hP1
    obtain ⟨hP2, hD2⟩ := zap_J hP0 hD0 hk1 hFc hP1 hD1
    exact kk u.1 u.2 H1 locs1 hp (hback.P hP2) (hback.D hD2) hS1

end ZFM
section ZFX
variable {p : Program} {l : Launch} {e : Env} {R : Room} {s : State} {m : MethodId} {args : Array Value} {below : List Frame} {meth : Method} {c : Code} {H : Heap} {locs : List Loc} {cells slots : Nat} {Q : State → Prop}
variable {cc : ByteArray} {pc : Nat} {ls : Array Slot} {rest st0 : List Value} {K : Nat → Nat} {D : va_G} {tA : Nat → ClassId} {ws wc : va_W} {A : Nat → Prop} {H0 : Heap}
variable {y : MethodName} {bytes : ByteArray} {maxL nL mc ms n index : Nat} {ret : Option FieldType} {w Ts : List Cond} {rm : Room} {own C : String} {b : Addr} {As : List Value}
theorem zx_callVd_ch {S SX : Type} {post : UInt64 → S → Prop} {ws' : S → va_W} {px : String → SX → Prop} {wx : SX → va_W} {L Lc Lr : List va_W} {Lc' Lf : S → List va_W} {Lx Lfx : SX → List va_W} {is isF isX : List Nat} (hfix : CallFix p m c cc nL s args Ts own) (hM : zXd l y w rm K D tA (.ref b :: As) wc H.size post ws' px wx mc ms) (cw : CallW R s args own C index y bytes maxL ret w rm mc ms n) (hK : zK D tA s) (hP : va_P D vwCl L.flatten H) (hD : va_D A L.flatten) (hS : va_S A s.heap H locs) (hA : ∀ q, s.heap.size ≤ q → A q) (hZ : zT K A s) (hcut : zCut wc L Lc Lr is) (hback : zBack ws' Lr Lc' Lf isF) (hbackx : zBack wx Lr Lx Lfx isX) {ci q0 : Nat} {cq : vw_C} {fs : List Value} (hc : vwCl[ci]? = some cq) (hcq : cq.1 = C) (he : wc[q0]? = some (b, .inr (ci, fs)))
    (hst : st0 = As.reverse ++ .ref b :: rest) (hnn : As.length = n) (hsize : ls.size = nL) (hroom : (rest.map fun v => v.category).sum ≤ 8) (hd : decode cc pc = .ok (.invokevirtual index, 3)) (hf : cells + mc ≤ R.cells ∧ slots + ms ≤ R.slots)
    (kx : ∀ (E : String) (ce : Cell) (q9 : Addr) (u : SX) (H1 : Heap) (locs1 : List Loc), px E u → va_P D vwCl (Lfx u).flatten H1 → va_D A (Lfx u).flatten → va_S A s.heap H1 locs1 → H1[q9]? = some ce → ce.vm = .none → s.vm.findClass E = some ce.cls → vx_W p l e R s m args below meth c H1 locs1 (cells + mc) (slots + ms) Q (F0 m pc ls rest) q9)
    (kk : ∀ (z : UInt64) (u : S) (H1 : Heap) (locs1 : List Loc), post z u → va_P D vwCl (Lf u).flatten H1 → va_D A (Lf u).flatten → va_S A s.heap H1 locs1 → W p l e R s m args below meth c H1 locs1 (cells + mc) (slots + ms) Q (F0 m (pc + 3) ls (.double z :: rest))) : W p l e R s m args below meth c H locs cells slots Q (F0 m pc ls st0) := by
  have hP0 := hcut.P hP
  have hD0 := hcut.D hD
  have hPc := zap_Pc hP0
  have hDc := zap_Dc hD0
  have hFc := zap_Fc hD0 hS hA
  refine vx_calld (vx_runV hfix hM cw ⟨fun a U g mk => zPcX_calling a U g mk, ?_, ?_⟩ rfl hnn hsize hst (lv_room hroom) hd hf) hS (fun q _ h => hFc q h) hFc (fun q _ h => hFc q h) ?_ ?_
  · have h := va_recv hK hPc hc he
    rw [hcq] at h
    exact h
  · intro U hU hW
    exact ⟨rfl, ⟨by rw [hU], by rw [hU]; exact hPc, va_K.moved hW.alike hK, hDc.weaken (fun _ _ _ _ => trivial)⟩, hZ.at hS hFc hU hW⟩
  · intro E ce q9 u t H1 locs1 ht hvm hp hB hz1 hk1 hS1 hce hcv hcl
    obtain ⟨hE, hP1, hK1, hD1⟩ := hB
    have hE2 : u.1 = E := hE.symm
    rw [ht] at hP1
    obtain ⟨hP2, hD2⟩ := zap_J hP0 hD0 hk1 hFc hP1 hD1
    exact kx E ce q9 u.2 H1 locs1 (by rw [← hE2]; exact hp) (hbackx.P hP2) (hbackx.D hD2) hS1 hce hcv hcl
  · intro r u t H1 locs1 ht hvm hw hB hz1 hk1 hS1
    obtain ⟨hP1, hK1, hD1⟩ := hB
    obtain ⟨hr, hp⟩ := hw
    subst hr
    rw [ht] at hP1
    obtain ⟨hP2, hD2⟩ := zap_J hP0 hD0 hk1 hFc hP1 hD1
    exact kk u.1 u.2 H1 locs1 hp (hback.P hP2) (hback.D hD2) hS1

theorem zx_callVf_ch {S SX : Type} {post : UInt32 → S → Prop} {ws' : S → va_W} {px : String → SX → Prop} {wx : SX → va_W} {L Lc Lr : List va_W} {Lc' Lf : S → List va_W} {Lx Lfx : SX → List va_W} {is isF isX : List Nat} (hfix : CallFix p m c cc nL s args Ts own) (hM : zXf l y w rm K D tA (.ref b :: As) wc H.size post ws' px wx mc ms) (cw : CallW R s args own C index y bytes maxL ret w rm mc ms n) (hK : zK D tA s) (hP : va_P D vwCl L.flatten H) (hD : va_D A L.flatten) (hS : va_S A s.heap H locs) (hA : ∀ q, s.heap.size ≤ q → A q) (hZ : zT K A s) (hcut : zCut wc L Lc Lr is) (hback : zBack ws' Lr Lc' Lf isF) (hbackx : zBack wx Lr Lx Lfx isX) {ci q0 : Nat} {cq : vw_C} {fs : List Value} (hc : vwCl[ci]? = some cq) (hcq : cq.1 = C) (he : wc[q0]? = some (b, .inr (ci, fs)))
    (hst : st0 = As.reverse ++ .ref b :: rest) (hnn : As.length = n) (hsize : ls.size = nL) (hroom : (rest.map fun v => v.category).sum ≤ 8) (hd : decode cc pc = .ok (.invokevirtual index, 3)) (hf : cells + mc ≤ R.cells ∧ slots + ms ≤ R.slots)
    (kx : ∀ (E : String) (ce : Cell) (q9 : Addr) (u : SX) (H1 : Heap) (locs1 : List Loc), px E u → va_P D vwCl (Lfx u).flatten H1 → va_D A (Lfx u).flatten → va_S A s.heap H1 locs1 → H1[q9]? = some ce → ce.vm = .none → s.vm.findClass E = some ce.cls → vx_W p l e R s m args below meth c H1 locs1 (cells + mc) (slots + ms) Q (F0 m pc ls rest) q9)
    (kk : ∀ (z : UInt32) (u : S) (H1 : Heap) (locs1 : List Loc), post z u → va_P D vwCl (Lf u).flatten H1 → va_D A (Lf u).flatten → va_S A s.heap H1 locs1 → W p l e R s m args below meth c H1 locs1 (cells + mc) (slots + ms) Q (F0 m (pc + 3) ls (.float z :: rest))) : W p l e R s m args below meth c H locs cells slots Q (F0 m pc ls st0) := by
  have hP0 := hcut.P hP
  have hD0 := hcut.D hD
  have hPc := zap_Pc hP0
  have hDc := zap_Dc hD0
  have hFc := zap_Fc hD0 hS hA
  refine vx_callf (vx_runV hfix hM cw ⟨fun a U g mk => zPcX_calling a U g mk, ?_, ?_⟩ rfl hnn hsize hst (lv_room hroom) hd hf) hS (fun q _ h => hFc q h) hFc (fun q _ h => hFc q h) ?_ ?_
  · have h := va_recv hK hPc hc he
    rw [hcq] at h
    exact h
  · intro U hU hW
    exact ⟨rfl, ⟨by rw [hU], by rw [hU]; exact hPc, va_K.moved hW.alike hK, hDc.weaken (fun _ _ _ _ => trivial)⟩, hZ.at hS hFc hU hW⟩
  · intro E ce q9 u t H1 locs1 ht hvm hp hB hz1 hk1 hS1 hce hcv hcl
    obtain ⟨hE, hP1, hK1, hD1⟩ := hB
    have hE2 : u.1 = E := hE.symm
    rw [ht] at hP1
    obtain ⟨hP2, hD2⟩ := zap_J hP0 hD0 hk1 hFc hP1 hD1
    exact kx E ce q9 u.2 H1 locs1 (by rw [← hE2]; exact hp) (hbackx.P hP2) (hbackx.D hD2) hS1 hce hcv hcl
  · intro r u t H1 locs1 ht hvm hw hB hz1 hk1 hS1
    obtain ⟨hP1, hK1, hD1⟩ := hB
    obtain ⟨hr, hp⟩ := hw
    subst hr
    rw [ht] at hP1
    obtain ⟨hP2, hD2⟩ := zap_J hP0 hD0 hk1 hFc hP1 hD1
    exact kk u.1 u.2 H1 locs1 hp (hback.P hP2) (hback.D hD2) hS1

end ZFX
section ZFR
variable {p : Program} {l : Launch} {e : Env} {R : Room} {s : State} {m : MethodId} {args : Array Value} {below : List Frame} {meth : Method} {c : Code} {H : Heap} {locs : List Loc} {cells slots : Nat} {Q : State → Prop}
variable {cc : ByteArray} {pc : Nat} {ls : Array Slot} {rest : List Value}
def dI (a : Int) : UInt64 := UInt64.ofNat (FP.Core.fromInt FP.Core.b64 a)
def fI (a : Int) : UInt32 := UInt32.ofNat (FP.Core.fromInt FP.Core.b32 a)
theorem zz_l2d (hx : p.tables.exec = Jvm.exec) (hb : c.code = cc) {a : Int} (hd : decode cc pc = .ok (.l2d, 1)) (ha : -9223372036854775808 ≤ a ∧ a ≤ 9223372036854775807) (k : W p l e R s m args below meth c H locs cells slots Q (F0 m (pc + 1) ls (.double (dI a) :: rest))) : W p l e R s m args below meth c H locs cells slots Q (F0 m pc ls (.long (lI a) :: rest)) := by
  refine lv_l2d hx hb hd ?_
  have e : FP.l2d (lI a) = dI a := by
    show UInt64.ofNat (FP.Core.fromInt FP.Core.b64 (lI a).toInt) = _
    rw [lI_toInt ha]
    rfl
  rw [e]
  exact k
theorem zz_i2d (hx : p.tables.exec = Jvm.exec) (hb : c.code = cc) {a : Int} (hd : decode cc pc = .ok (.i2d, 1)) (ha : -2147483648 ≤ a ∧ a ≤ 2147483647) (k : W p l e R s m args below meth c H locs cells slots Q (F0 m (pc + 1) ls (.double (dI a) :: rest))) : W p l e R s m args below meth c H locs cells slots Q (F0 m pc ls (.int (iI a) :: rest)) := by
  refine lv_i2d hx hb hd ?_
  have e : FP.i2d (iI a) = dI a := by
    show UInt64.ofNat (FP.Core.fromInt FP.Core.b64 (iI a).toInt) = _
    rw [iI_toInt ha]
    rfl
  rw [e]
  exact k
theorem zz_i2f (hx : p.tables.exec = Jvm.exec) (hb : c.code = cc) {a : Int} (hd : decode cc pc = .ok (.i2f, 1)) (ha : -2147483648 ≤ a ∧ a ≤ 2147483647) (k : W p l e R s m args below meth c H locs cells slots Q (F0 m (pc + 1) ls (.float (fI a) :: rest))) : W p l e R s m args below meth c H locs cells slots Q (F0 m pc ls (.int (iI a) :: rest)) := by
  refine lv_i2f hx hb hd ?_
  have e : FP.i2f (iI a) = fI a := by
    show UInt32.ofNat (FP.Core.fromInt FP.Core.b32 (iI a).toInt) = _
    rw [iI_toInt ha]
    rfl
  rw [e]
  exact k
theorem zz_ddiv (hx : p.tables.exec = Jvm.exec) (hb : c.code = cc) {a b : Int} (hd : decode cc pc = .ok (.ddiv, 1)) (hr : 0 ≤ a ∧ 1 ≤ b ∧ b < 16777216) (k : W p l e R s m args below meth c H locs cells slots Q (F0 m (pc + 1) ls (.double (dQ a b) :: rest))) : W p l e R s m args below meth c H locs cells slots Q (F0 m pc ls (.double (dI b) :: .double (dI a) :: rest)) :=
  lv_ddiv hx hb hd (dQ_n hr.1 hr.2.1 hr.2.2) k
theorem zz_fdiv (hx : p.tables.exec = Jvm.exec) (hb : c.code = cc) {a b : Int} (hd : decode cc pc = .ok (.fdiv, 1)) (hr : 0 ≤ a ∧ 1 ≤ b ∧ b < 16777216) (k : W p l e R s m args below meth c H locs cells slots Q (F0 m (pc + 1) ls (.float (fQ a b) :: rest))) : W p l e R s m args below meth c H locs cells slots Q (F0 m pc ls (.float (fI b) :: .float (fI a) :: rest)) :=
  lv_fdiv hx hb hd (fQ_n hr.1 hr.2.1 hr.2.2) k
theorem zz_dconst0 (hx : p.tables.exec = Jvm.exec) (hb : c.code = cc) (hd : decode cc pc = .ok (.dconst 0, 1)) (k : W p l e R s m args below meth c H locs cells slots Q (F0 m (pc + 1) ls (.double FP.dconst0 :: rest))) : W p l e R s m args below meth c H locs cells slots Q (F0 m pc ls rest) := lv_dconst0 hx hb hd k
theorem zz_fconst0 (hx : p.tables.exec = Jvm.exec) (hb : c.code = cc) (hd : decode cc pc = .ok (.fconst 0, 1)) (k : W p l e R s m args below meth c H locs cells slots Q (F0 m (pc + 1) ls (.float FP.fconst0 :: rest))) : W p l e R s m args below meth c H locs cells slots Q (F0 m pc ls rest) := lv_fconst0 hx hb hd k
end ZFR
