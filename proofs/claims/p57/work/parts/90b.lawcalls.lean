/-! ===== p57: bodies and calls over constants and a world of chunks ===== -/
theorem zHi_ofC {S : Type} {l : Launch} {y : MethodName} {w : List Cond} {rm : Room} {K : Nat → Nat} {D : va_G} {tA : Nat → ClassId} {av : List Value} {ws : va_W} {sz : Nat} {post : Int → S → Prop} {ws' : S → va_W} {mc ms : Nat} {cc : ByteArray} {maxL : Nat} {ty : FieldType} {w0 : List Cond} (hy : plainName y.cls = true) (hw : w = Cond.code y cc maxL (some ty) :: w0) (hn : ∀ z u, post z u → narrow ty (.int (iI z)) = .int (iI z)) (hlen : (lg_sl av).length ≤ maxL)
    (body : ∀ (p : Program) (e : Env) (s : State) (m : MethodId) (args : Array Value) (below : List Frame) (meth : Method) (c : Code) (A : Nat → Prop) (Q : State → Prop) (ls : Array Slot), p.tables.exec = Jvm.exec → c.code = cc → c.maxLocals = maxL → (∀ v ∈ w, v.before args s = true) → s.vm.findClass y.cls = some m.cls → zK D tA s → va_P D vwCl ws s.heap → va_D A ws → (∀ q, s.heap.size ≤ q → A q) → zT K A s →
      (∀ (z : Int) (u : S) (H : Heap) (locs : List Loc) (pc k n : Nat) (ls : Array Slot), k ≤ mc → n ≤ ms → decode cc pc = .ok (.ireturn, 1) → post z u → va_P D vwCl (ws' u) H → va_D A (ws' u) → va_S A s.heap H locs → W p l e (headSpec w rm).room s m args below meth c H locs k n Q (F0 m pc ls [.int (iI z)])) →
      lv_has ls maxL (lv_args 0 av) → W p l e (headSpec w rm).room s m args below meth c s.heap [] 0 0 Q (F0 m 0 ls [])) : zHi l y w rm K D tA av ws sz post ws' mc ms := by
  refine Met.ofW (cc := cc) (maxL := maxL) (ret := some ty) hy hw ?_
  intro p e s m args below meth c s₁ B hml hv
  obtain ⟨hav, ⟨hsz, hP, hK, hD0⟩, hZ⟩ := hv
  subst hav
  subst hsz
  have hts := atoms_spec (ws := w) B.pre
  have hl := lv_entry av (n := maxL) hlen
  rw [lg_entry_eq]
  exact body p e s m _ below meth c (va_A ws s.heap.size) _ _ B.exec B.bytes hml hts (findClass_of_methodNamed B.named) hK hP hD0.self (fun q h => Or.inr h) hZ
    (fun z u H locs pc k n ls hk hn' hd hp hP' hD' hS => W.widen hk hn' (W.zret B.exec B.bytes B.returns (hn z u hp) (fun t ht hW => ⟨⟨iI z, (z, u), rfl, ⟨rfl, hp⟩, by rw [ht]; exact hP', va_K.moved hW.alike hK, hD'⟩, hS.F ht⟩) hS.2.2 hd B.notSynchronized))  hl

theorem zHl_ofC {S : Type} {l : Launch} {y : MethodName} {w : List Cond} {rm : Room} {K : Nat → Nat} {D : va_G} {tA : Nat → ClassId} {av : List Value} {ws : va_W} {sz : Nat} {post : Int → S → Prop} {ws' : S → va_W} {mc ms : Nat} {cc : ByteArray} {maxL : Nat} {w0 : List Cond} (hy : plainName y.cls = true) (hw : w = Cond.code y cc maxL (some .long) :: w0) (hlen : (lg_sl av).length ≤ maxL)
    (body : ∀ (p : Program) (e : Env) (s : State) (m : MethodId) (args : Array Value) (below : List Frame) (meth : Method) (c : Code) (A : Nat → Prop) (Q : State → Prop) (ls : Array Slot), p.tables.exec = Jvm.exec → c.code = cc → c.maxLocals = maxL → (∀ v ∈ w, v.before args s = true) → s.vm.findClass y.cls = some m.cls → zK D tA s → va_P D vwCl ws s.heap → va_D A ws → (∀ q, s.heap.size ≤ q → A q) → zT K A s →
      (∀ (z : Int) (u : S) (H : Heap) (locs : List Loc) (pc k n : Nat) (ls : Array Slot), k ≤ mc → n ≤ ms → decode cc pc = .ok (.lreturn, 1) → post z u → va_P D vwCl (ws' u) H → va_D A (ws' u) → va_S A s.heap H locs → W p l e (headSpec w rm).room s m args below meth c H locs k n Q (F0 m pc ls [.long (lI z)])) →
      lv_has ls maxL (lv_args 0 av) → W p l e (headSpec w rm).room s m args below meth c s.heap [] 0 0 Q (F0 m 0 ls [])) : zHl l y w rm K D tA av ws sz post ws' mc ms := by
  refine Met.ofW (cc := cc) (maxL := maxL) (ret := some .long) hy hw ?_
  intro p e s m args below meth c s₁ B hml hv
  obtain ⟨hav, ⟨hsz, hP, hK, hD0⟩, hZ⟩ := hv
  subst hav
  subst hsz
  have hts := atoms_spec (ws := w) B.pre
  have hl := lv_entry av (n := maxL) hlen
  rw [lg_entry_eq]
  exact body p e s m _ below meth c (va_A ws s.heap.size) _ _ B.exec B.bytes hml hts (findClass_of_methodNamed B.named) hK hP hD0.self (fun q h => Or.inr h) hZ
    (fun z u H locs pc k n ls hk hn' hd hp hP' hD' hS => W.widen hk hn' (W.lret B.exec B.bytes B.returns (fun t ht hW => ⟨⟨lI z, (z, u), rfl, ⟨rfl, hp⟩, by rw [ht]; exact hP', va_K.moved hW.alike hK, hD'⟩, hS.F ht⟩) hS.2.2 hd B.notSynchronized))  hl

def zHr {S : Type} (l : Launch) (y : MethodName) (w : List Cond) (rm : Room) (K : Nat → Nat) (D : va_G) (tA : Nat → ClassId) (av : List Value) (ws : va_W) (sz : Nat) (post : S → Prop) (rv : S → Nat) (ws' : S → va_W) (mc ms : Nat) : Prop :=
  Met l y w rm (va_Pc av (zPreX K D tA ws sz)) (va_Qr (fun (u : S) => post u) (fun u a t => a = rv u ∧ zB D tA (va_A ws sz) (ws' u) t) (va_A ws sz)) mc ms (va_A ws sz)
theorem zHr_ofC {S : Type} {l : Launch} {y : MethodName} {w : List Cond} {rm : Room} {K : Nat → Nat} {D : va_G} {tA : Nat → ClassId} {av : List Value} {ws : va_W} {sz : Nat} {post : S → Prop} {rv : S → Nat} {ws' : S → va_W} {mc ms : Nat} {cc : ByteArray} {maxL : Nat} {ty : FieldType} {w0 : List Cond} (hy : plainName y.cls = true) (hw : w = Cond.code y cc maxL (some ty) :: w0) (hrt : (∃ n, ty = .object n) ∨ ∃ t, ty = .array t) (hlen : (lg_sl av).length ≤ maxL)
    (body : ∀ (p : Program) (e : Env) (s : State) (m : MethodId) (args : Array Value) (below : List Frame) (meth : Method) (c : Code) (A : Nat → Prop) (Q : State → Prop) (ls : Array Slot), p.tables.exec = Jvm.exec → c.code = cc → c.maxLocals = maxL → (∀ v ∈ w, v.before args s = true) → s.vm.findClass y.cls = some m.cls → zK D tA s → va_P D vwCl ws s.heap → va_D A ws → (∀ q, s.heap.size ≤ q → A q) → zT K A s →
      (∀ (u : S) (H : Heap) (locs : List Loc) (pc k n : Nat) (ls : Array Slot), k ≤ mc → n ≤ ms → decode cc pc = .ok (.areturn, 1) → post u → va_P D vwCl (ws' u) H → va_D A (ws' u) → va_S A s.heap H locs → W p l e (headSpec w rm).room s m args below meth c H locs k n Q (F0 m pc ls [.ref (rv u)])) →
      lv_has ls maxL (lv_args 0 av) → W p l e (headSpec w rm).room s m args below meth c s.heap [] 0 0 Q (F0 m 0 ls [])) : zHr l y w rm K D tA av ws sz post rv ws' mc ms := by
  refine Met.ofW (cc := cc) (maxL := maxL) (ret := (some ty)) hy hw ?_
  intro p e s m args below meth c s₁ B hml hv
  obtain ⟨hav, ⟨hsz, hP, hK, hD0⟩, hZ⟩ := hv
  subst hav
  subst hsz
  have hts := atoms_spec (ws := w) B.pre
  have hl := lv_entry av (n := maxL) hlen
  rw [lg_entry_eq]
  exact body p e s m _ below meth c (va_A ws s.heap.size) _ _ B.exec B.bytes hml hts (findClass_of_methodNamed B.named) hK hP hD0.self (fun q h => Or.inr h) hZ
    (fun u H locs pc k n ls hk hn' hd hp hP' hD' hS => W.widen hk hn' (W.aret B.exec B.bytes B.returns hrt (Or.inr ⟨rv u, rfl⟩) (fun t ht hW => ⟨⟨u, rv u, rfl, hp, rfl, by rw [ht]; exact hP', va_K.moved hW.alike hK, hD'⟩, hS.F ht⟩) hS.2.2 hd B.notSynchronized)) hl
section ZTC
variable {p : Program} {l : Launch} {e : Env} {R : Room} {s : State} {m : MethodId} {args : Array Value} {below : List Frame} {meth : Method} {c : Code} {H : Heap} {locs : List Loc} {cells slots : Nat} {Q : State → Prop}
variable {cc : ByteArray} {pc : Nat} {ls : Array Slot} {rest st0 : List Value} {K : Nat → Nat} {D : va_G} {tA : Nat → ClassId} {ws wc : va_W} {A : Nat → Prop}
variable {y : MethodName} {bytes : ByteArray} {maxL nL mc ms n index : Nat} {ret : Option FieldType} {w Ts : List Cond} {rm : Room} {own C : String} {b : Addr} {As : List Value}
theorem zt_callVi {S : Type} {post : Int → S → Prop} {ws' : S → va_W} {L Lc Lr : List va_W} {Lc' Lf : S → List va_W} {is isF : List Nat} (hfix : CallFix p m c cc nL s args Ts own) (hM : zHi l y w rm K D tA (.ref b :: As) wc H.size post ws' mc ms) (cw : CallW R s args own C index y bytes maxL ret w rm mc ms n) (hK : zK D tA s) (hP : va_P D vwCl L.flatten H) (hD : va_D A L.flatten) (hS : va_S A s.heap H locs) (hA : ∀ q, s.heap.size ≤ q → A q) (hZ : zT K A s) (hcut : zCut wc L Lc Lr is) (hback : zBack ws' Lr Lc' Lf isF) {ci q0 : Nat} {cq : vw_C} {fs : List Value} (hc : vwCl[ci]? = some cq) (hcq : cq.1 = C) (he : wc[q0]? = some (b, .inr (ci, fs)))
    (hst : st0 = As.reverse ++ .ref b :: rest) (hnn : As.length = n) (hsize : ls.size = nL) (hroom : (rest.map fun v => v.category).sum ≤ 8) (hd : decode cc pc = .ok (.invokevirtual index, 3)) (hf : cells + mc ≤ R.cells ∧ slots + ms ≤ R.slots)
    (kk : ∀ (z : Int) (u : S) (H1 : Heap) (locs1 : List Loc), post z u → va_P D vwCl (Lf u).flatten H1 → va_D A (Lf u).flatten → va_S A s.heap H1 locs1 → W p l e R s m args below meth c H1 locs1 (cells + mc) (slots + ms) Q (F0 m (pc + 3) ls (.int (iI z) :: rest))) : W p l e R s m args below meth c H locs cells slots Q (F0 m pc ls st0) := by
  have hP0 := hcut.P hP
  have hD0 := hcut.D hD
  have hPc := zap_Pc hP0
  have hDc := zap_Dc hD0
  have hFc := zap_Fc hD0 hS hA
  refine va_calli (va_runV hfix hM cw ⟨fun a U g mk => zPcX_calling a U g mk, ?_, ?_⟩ rfl hnn hsize hst (lv_room hroom) hd hf) hS (fun q _ h => hFc q h) hFc ?_
  · have h := va_recv hK hPc hc he
    rw [hcq] at h
    exact h
  · intro U hU hW
    exact ⟨rfl, ⟨by rw [hU], by rw [hU]; exact hPc, va_K.moved hW.alike hK, hDc.weaken (fun _ _ _ _ => trivial)⟩, hZ.at hS hFc hU hW⟩
  · intro r u t H1 locs1 ht hvm hw hB hz1 hk1 hS1
    obtain ⟨hP1, hK1, hD1⟩ := hB
    obtain ⟨hr, hp⟩ := hw
    subst hr
    rw [ht] at hP1
    obtain ⟨hP2, hD2⟩ := zap_J hP0 hD0 hk1 hFc hP1 hD1
    exact kk u.1 u.2 H1 locs1 hp (hback.P hP2) (hback.D hD2) hS1

theorem zt_callVl {S : Type} {post : Int → S → Prop} {ws' : S → va_W} {L Lc Lr : List va_W} {Lc' Lf : S → List va_W} {is isF : List Nat} (hfix : CallFix p m c cc nL s args Ts own) (hM : zHl l y w rm K D tA (.ref b :: As) wc H.size post ws' mc ms) (cw : CallW R s args own C index y bytes maxL ret w rm mc ms n) (hK : zK D tA s) (hP : va_P D vwCl L.flatten H) (hD : va_D A L.flatten) (hS : va_S A s.heap H locs) (hA : ∀ q, s.heap.size ≤ q → A q) (hZ : zT K A s) (hcut : zCut wc L Lc Lr is) (hback : zBack ws' Lr Lc' Lf isF) {ci q0 : Nat} {cq : vw_C} {fs : List Value} (hc : vwCl[ci]? = some cq) (hcq : cq.1 = C) (he : wc[q0]? = some (b, .inr (ci, fs)))
    (hst : st0 = As.reverse ++ .ref b :: rest) (hnn : As.length = n) (hsize : ls.size = nL) (hroom : (rest.map fun v => v.category).sum ≤ 8) (hd : decode cc pc = .ok (.invokevirtual index, 3)) (hf : cells + mc ≤ R.cells ∧ slots + ms ≤ R.slots)
    (kk : ∀ (z : Int) (u : S) (H1 : Heap) (locs1 : List Loc), post z u → va_P D vwCl (Lf u).flatten H1 → va_D A (Lf u).flatten → va_S A s.heap H1 locs1 → W p l e R s m args below meth c H1 locs1 (cells + mc) (slots + ms) Q (F0 m (pc + 3) ls (.long (lI z) :: rest))) : W p l e R s m args below meth c H locs cells slots Q (F0 m pc ls st0) := by
  have hP0 := hcut.P hP
  have hD0 := hcut.D hD
  have hPc := zap_Pc hP0
  have hDc := zap_Dc hD0
  have hFc := zap_Fc hD0 hS hA
  refine va_calll (va_runV hfix hM cw ⟨fun a U g mk => zPcX_calling a U g mk, ?_, ?_⟩ rfl hnn hsize hst (lv_room hroom) hd hf) hS (fun q _ h => hFc q h) hFc ?_
  · have h := va_recv hK hPc hc he
    rw [hcq] at h
    exact h
  · intro U hU hW
    exact ⟨rfl, ⟨by rw [hU], by rw [hU]; exact hPc, va_K.moved hW.alike hK, hDc.weaken (fun _ _ _ _ => trivial)⟩, hZ.at hS hFc hU hW⟩
  · intro r u t H1 locs1 ht hvm hw hB hz1 hk1 hS1
    obtain ⟨hP1, hK1, hD1⟩ := hB
    obtain ⟨hr, hp⟩ := hw
    subst hr
    rw [ht] at hP1
    obtain ⟨hP2, hD2⟩ := zap_J hP0 hD0 hk1 hFc hP1 hD1
    exact kk u.1 u.2 H1 locs1 hp (hback.P hP2) (hback.D hD2) hS1

theorem zt_callVd {S : Type} {post : UInt64 → S → Prop} {ws' : S → va_W} {L Lc Lr : List va_W} {Lc' Lf : S → List va_W} {is isF : List Nat} (hfix : CallFix p m c cc nL s args Ts own) (hM : zHd l y w rm K D tA (.ref b :: As) wc H.size post ws' mc ms) (cw : CallW R s args own C index y bytes maxL ret w rm mc ms n) (hK : zK D tA s) (hP : va_P D vwCl L.flatten H) (hD : va_D A L.flatten) (hS : va_S A s.heap H locs) (hA : ∀ q, s.heap.size ≤ q → A q) (hZ : zT K A s) (hcut : zCut wc L Lc Lr is) (hback : zBack ws' Lr Lc' Lf isF) {ci q0 : Nat} {cq : vw_C} {fs : List Value} (hc : vwCl[ci]? = some cq) (hcq : cq.1 = C) (he : wc[q0]? = some (b, .inr (ci, fs)))
    (hst : st0 = As.reverse ++ .ref b :: rest) (hnn : As.length = n) (hsize : ls.size = nL) (hroom : (rest.map fun v => v.category).sum ≤ 8) (hd : decode cc pc = .ok (.invokevirtual index, 3)) (hf : cells + mc ≤ R.cells ∧ slots + ms ≤ R.slots)
    (kk : ∀ (z : UInt64) (u : S) (H1 : Heap) (locs1 : List Loc), post z u → va_P D vwCl (Lf u).flatten H1 → va_D A (Lf u).flatten → va_S A s.heap H1 locs1 → W p l e R s m args below meth c H1 locs1 (cells + mc) (slots + ms) Q (F0 m (pc + 3) ls (.double z :: rest))) : W p l e R s m args below meth c H locs cells slots Q (F0 m pc ls st0) := by
  have hP0 := hcut.P hP
  have hD0 := hcut.D hD
  have hPc := zap_Pc hP0
  have hDc := zap_Dc hD0
  have hFc := zap_Fc hD0 hS hA
  refine va_calld (va_runV hfix hM cw ⟨fun a U g mk => zPcX_calling a U g mk, ?_, ?_⟩ rfl hnn hsize hst (lv_room hroom) hd hf) hS (fun q _ h => hFc q h) hFc ?_
  · have h := va_recv hK hPc hc he
    rw [hcq] at h
    exact h
  · intro U hU hW
    exact ⟨rfl, ⟨by rw [hU], by rw [hU]; exact hPc, va_K.moved hW.alike hK, hDc.weaken (fun _ _ _ _ => trivial)⟩, hZ.at hS hFc hU hW⟩
  · intro r u t H1 locs1 ht hvm hw hB hz1 hk1 hS1
    obtain ⟨hP1, hK1, hD1⟩ := hB
    obtain ⟨hr, hp⟩ := hw
    subst hr
    rw [ht] at hP1
    obtain ⟨hP2, hD2⟩ := zap_J hP0 hD0 hk1 hFc hP1 hD1
    exact kk u.1 u.2 H1 locs1 hp (hback.P hP2) (hback.D hD2) hS1

theorem zt_callVf {S : Type} {post : UInt32 → S → Prop} {ws' : S → va_W} {L Lc Lr : List va_W} {Lc' Lf : S → List va_W} {is isF : List Nat} (hfix : CallFix p m c cc nL s args Ts own) (hM : zHf l y w rm K D tA (.ref b :: As) wc H.size post ws' mc ms) (cw : CallW R s args own C index y bytes maxL ret w rm mc ms n) (hK : zK D tA s) (hP : va_P D vwCl L.flatten H) (hD : va_D A L.flatten) (hS : va_S A s.heap H locs) (hA : ∀ q, s.heap.size ≤ q → A q) (hZ : zT K A s) (hcut : zCut wc L Lc Lr is) (hback : zBack ws' Lr Lc' Lf isF) {ci q0 : Nat} {cq : vw_C} {fs : List Value} (hc : vwCl[ci]? = some cq) (hcq : cq.1 = C) (he : wc[q0]? = some (b, .inr (ci, fs)))
    (hst : st0 = As.reverse ++ .ref b :: rest) (hnn : As.length = n) (hsize : ls.size = nL) (hroom : (rest.map fun v => v.category).sum ≤ 8) (hd : decode cc pc = .ok (.invokevirtual index, 3)) (hf : cells + mc ≤ R.cells ∧ slots + ms ≤ R.slots)
    (kk : ∀ (z : UInt32) (u : S) (H1 : Heap) (locs1 : List Loc), post z u → va_P D vwCl (Lf u).flatten H1 → va_D A (Lf u).flatten → va_S A s.heap H1 locs1 → W p l e R s m args below meth c H1 locs1 (cells + mc) (slots + ms) Q (F0 m (pc + 3) ls (.float z :: rest))) : W p l e R s m args below meth c H locs cells slots Q (F0 m pc ls st0) := by
  have hP0 := hcut.P hP
  have hD0 := hcut.D hD
  have hPc := zap_Pc hP0
  have hDc := zap_Dc hD0
  have hFc := zap_Fc hD0 hS hA
  refine va_callf (va_runV hfix hM cw ⟨fun a U g mk => zPcX_calling a U g mk, ?_, ?_⟩ rfl hnn hsize hst (lv_room hroom) hd hf) hS (fun q _ h => hFc q h) hFc ?_
  · have h := va_recv hK hPc hc he
    rw [hcq] at h
    exact h
  · intro U hU hW
    exact ⟨rfl, ⟨by rw [hU], by rw [hU]; exact hPc, va_K.moved hW.alike hK, hDc.weaken (fun _ _ _ _ => trivial)⟩, hZ.at hS hFc hU hW⟩
  · intro r u t H1 locs1 ht hvm hw hB hz1 hk1 hS1
    obtain ⟨hP1, hK1, hD1⟩ := hB
    obtain ⟨hr, hp⟩ := hw
    subst hr
    rw [ht] at hP1
    obtain ⟨hP2, hD2⟩ := zap_J hP0 hD0 hk1 hFc hP1 hD1
    exact kk u.1 u.2 H1 locs1 hp (hback.P hP2) (hback.D hD2) hS1

theorem zt_callSi {S : Type} {post : Int → S → Prop} {ws' : S → va_W} {L Lc Lr : List va_W} {Lc' Lf : S → List va_W} {is isF : List Nat} (hfix : CallFix p m c cc nL s args Ts own) (hM : zHi l y w rm K D tA As wc H.size post ws' mc ms) (cw : CallB R s args own index y bytes maxL ret w rm mc ms n ∧ (Cond.static y).before args s = true) (hK : zK D tA s) (hP : va_P D vwCl L.flatten H) (hD : va_D A L.flatten) (hS : va_S A s.heap H locs) (hA : ∀ q, s.heap.size ≤ q → A q) (hZ : zT K A s) (hcut : zCut wc L Lc Lr is) (hback : zBack ws' Lr Lc' Lf isF)
    (hst : st0 = As.reverse ++ rest) (hnn : As.length = n) (hsize : ls.size = nL) (hroom : (rest.map fun v => v.category).sum ≤ 8) (hd : decode cc pc = .ok (.invokestatic index, 3)) (hf : cells + mc ≤ R.cells ∧ slots + ms ≤ R.slots)
    (kk : ∀ (z : Int) (u : S) (H1 : Heap) (locs1 : List Loc), post z u → va_P D vwCl (Lf u).flatten H1 → va_D A (Lf u).flatten → va_S A s.heap H1 locs1 → W p l e R s m args below meth c H1 locs1 (cells + mc) (slots + ms) Q (F0 m (pc + 3) ls (.int (iI z) :: rest))) : W p l e R s m args below meth c H locs cells slots Q (F0 m pc ls st0) := by
  have hP0 := hcut.P hP
  have hD0 := hcut.D hD
  have hPc := zap_Pc hP0
  have hDc := zap_Dc hD0
  have hFc := zap_Fc hD0 hS hA
  refine va_calli (va_runS hfix hM cw ⟨fun a U g mk => zPcX_calling a U g mk, ?_⟩ rfl hnn hsize hst (lv_room hroom) hd hf) hS (fun q _ h => hFc q h) hFc ?_
  · intro U hU hW
    exact ⟨rfl, ⟨by rw [hU], by rw [hU]; exact hPc, va_K.moved hW.alike hK, hDc.weaken (fun _ _ _ _ => trivial)⟩, hZ.at hS hFc hU hW⟩
  · intro r u t H1 locs1 ht hvm hw hB hz1 hk1 hS1
    obtain ⟨hP1, hK1, hD1⟩ := hB
    obtain ⟨hr, hp⟩ := hw
    subst hr
    rw [ht] at hP1
    obtain ⟨hP2, hD2⟩ := zap_J hP0 hD0 hk1 hFc hP1 hD1
    exact kk u.1 u.2 H1 locs1 hp (hback.P hP2) (hback.D hD2) hS1

theorem zt_callSl {S : Type} {post : Int → S → Prop} {ws' : S → va_W} {L Lc Lr : List va_W} {Lc' Lf : S → List va_W} {is isF : List Nat} (hfix : CallFix p m c cc nL s args Ts own) (hM : zHl l y w rm K D tA As wc H.size post ws' mc ms) (cw : CallB R s args own index y bytes maxL ret w rm mc ms n ∧ (Cond.static y).before args s = true) (hK : zK D tA s) (hP : va_P D vwCl L.flatten H) (hD : va_D A L.flatten) (hS : va_S A s.heap H locs) (hA : ∀ q, s.heap.size ≤ q → A q) (hZ : zT K A s) (hcut : zCut wc L Lc Lr is) (hback : zBack ws' Lr Lc' Lf isF)
    (hst : st0 = As.reverse ++ rest) (hnn : As.length = n) (hsize : ls.size = nL) (hroom : (rest.map fun v => v.category).sum ≤ 8) (hd : decode cc pc = .ok (.invokestatic index, 3)) (hf : cells + mc ≤ R.cells ∧ slots + ms ≤ R.slots)
    (kk : ∀ (z : Int) (u : S) (H1 : Heap) (locs1 : List Loc), post z u → va_P D vwCl (Lf u).flatten H1 → va_D A (Lf u).flatten → va_S A s.heap H1 locs1 → W p l e R s m args below meth c H1 locs1 (cells + mc) (slots + ms) Q (F0 m (pc + 3) ls (.long (lI z) :: rest))) : W p l e R s m args below meth c H locs cells slots Q (F0 m pc ls st0) := by
  have hP0 := hcut.P hP
  have hD0 := hcut.D hD
  have hPc := zap_Pc hP0
  have hDc := zap_Dc hD0
  have hFc := zap_Fc hD0 hS hA
  refine va_calll (va_runS hfix hM cw ⟨fun a U g mk => zPcX_calling a U g mk, ?_⟩ rfl hnn hsize hst (lv_room hroom) hd hf) hS (fun q _ h => hFc q h) hFc ?_
  · intro U hU hW
    exact ⟨rfl, ⟨by rw [hU], by rw [hU]; exact hPc, va_K.moved hW.alike hK, hDc.weaken (fun _ _ _ _ => trivial)⟩, hZ.at hS hFc hU hW⟩
  · intro r u t H1 locs1 ht hvm hw hB hz1 hk1 hS1
    obtain ⟨hP1, hK1, hD1⟩ := hB
    obtain ⟨hr, hp⟩ := hw
    subst hr
    rw [ht] at hP1
    obtain ⟨hP2, hD2⟩ := zap_J hP0 hD0 hk1 hFc hP1 hD1
    exact kk u.1 u.2 H1 locs1 hp (hback.P hP2) (hback.D hD2) hS1

theorem zt_callSr {S : Type} {post : S → Prop} {rv : S → Nat} {ws' : S → va_W} {L Lc Lr : List va_W} {Lc' Lf : S → List va_W} {is isF : List Nat} (hfix : CallFix p m c cc nL s args Ts own) (hM : zHr l y w rm K D tA As wc H.size post rv ws' mc ms) (cw : CallB R s args own index y bytes maxL ret w rm mc ms n ∧ (Cond.static y).before args s = true) (hK : zK D tA s) (hP : va_P D vwCl L.flatten H) (hD : va_D A L.flatten) (hS : va_S A s.heap H locs) (hA : ∀ q, s.heap.size ≤ q → A q) (hZ : zT K A s) (hcut : zCut wc L Lc Lr is) (hback : zBack ws' Lr Lc' Lf isF)
    (hst : st0 = As.reverse ++ rest) (hnn : As.length = n) (hsize : ls.size = nL) (hroom : (rest.map fun v => v.category).sum ≤ 8) (hd : decode cc pc = .ok (.invokestatic index, 3)) (hf : cells + mc ≤ R.cells ∧ slots + ms ≤ R.slots)
    (kk : ∀ (u : S) (H1 : Heap) (locs1 : List Loc), post u → va_P D vwCl (Lf u).flatten H1 → va_D A (Lf u).flatten → va_S A s.heap H1 locs1 → W p l e R s m args below meth c H1 locs1 (cells + mc) (slots + ms) Q (F0 m (pc + 3) ls (.ref (rv u) :: rest))) : W p l e R s m args below meth c H locs cells slots Q (F0 m pc ls st0) := by
  have hP0 := hcut.P hP
  have hD0 := hcut.D hD
  have hPc := zap_Pc hP0
  have hDc := zap_Dc hD0
  have hFc := zap_Fc hD0 hS hA
  refine va_callr (va_runS hfix hM cw ⟨fun a U g mk => zPcX_calling a U g mk, ?_⟩ rfl hnn hsize hst (lv_room hroom) hd hf) hS (fun q _ h => hFc q h) hFc ?_
  · intro U hU hW
    exact ⟨rfl, ⟨by rw [hU], by rw [hU]; exact hPc, va_K.moved hW.alike hK, hDc.weaken (fun _ _ _ _ => trivial)⟩, hZ.at hS hFc hU hW⟩
  · intro u ra t H1 locs1 ht hvm hp hB hz1 hk1 hS1
    obtain ⟨hra, hP1, hK1, hD1⟩ := hB
    subst hra
    rw [ht] at hP1
    obtain ⟨hP2, hD2⟩ := zap_J hP0 hD0 hk1 hFc hP1 hD1
    exact kk u H1 locs1 hp (hback.P hP2) (hback.D hD2) hS1

end ZTC
