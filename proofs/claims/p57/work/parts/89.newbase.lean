/-! ===== constructors: contracts, rows for new objects and arrays ===== -/
def zIn (K : Nat → Nat) (D : va_G) (tA : Nat → ClassId) (ws : va_W) (sz : Nat) : State → Prop := fun U => zPreC K D tA ws sz U ∧ zPort K (va_A ws sz) U U.heap
theorem zPcN_calling {K : Nat → Nat} {D : va_G} {tA : Nat → ClassId} {av : List Value} {ws : va_W} {sz : Nat} : ∀ (a : Array Value) (U : State) (g : JFrame) (mk : MethodId), va_Pc av (zIn K D tA ws sz) a U → va_Pc av (zIn K D tA ws sz) a (U.calling g mk a) := by
  intro a U g mk ⟨q0, q1, q2⟩
  have h := zPcC_calling a U g mk ⟨q0, q1⟩
  exact ⟨q0, h.2, va_Z.moved (u := U) (U := U.calling g mk a) (Vm.Alike.refl U.vm) q2.1, va_AO.moved (u := U) (U := U.calling g mk a) (Vm.Alike.refl U.vm) q2.2.1, fun q hq => va_Nw.same (u := U) (U := U.calling g mk a) rfl rfl (q2.2.2 q hq)⟩
def zNv {S : Type} (l : Launch) (y : MethodName) (w : List Cond) (rm : Room) (K : Nat → Nat) (D : va_G) (tA : Nat → ClassId) (av : List Value) (ws : va_W) (sz : Nat) (post : S → Prop) (ws' : S → va_W) (mc ms : Nat) : Prop :=
  Met l y w rm (va_Pc av (zIn K D tA ws sz)) (va_Qv (fun (u : S) => post u) (fun u => zB D tA (va_A ws sz) (ws' u)) (va_A ws sz)) mc ms (va_A ws sz)
theorem zNv_of {S : Type} {l : Launch} {y : MethodName} {w : List Cond} {rm : Room} {K : Nat → Nat} {D : va_G} {tA : Nat → ClassId} {av : List Value} {ws : va_W} {sz : Nat} {post : S → Prop} {ws' : S → va_W} {mc ms : Nat} {cc : ByteArray} {maxL : Nat} {w0 : List Cond} (hy : plainName y.cls = true) (hyn : y.name = "<init>") (hw : w = Cond.code y cc maxL none :: w0) (hlen : (lg_sl av).length ≤ maxL)
    (body : ∀ (p : Program) (e : Env) (s : State) (m : MethodId) (args : Array Value) (below : List Frame) (meth : Method) (c : Code) (A : Nat → Prop) (Q : State → Prop) (ls : Array Slot), p.tables.exec = Jvm.exec → c.code = cc → c.maxLocals = maxL → (∀ v ∈ w, v.before args s = true) → s.vm.findClass y.cls = some m.cls → meth.name = "<init>" → zK D tA s → va_P D vwCl ws s.heap → va_D A ws → (∀ q, s.heap.size ≤ q → A q) → zCn K A s → zPort K A s s.heap →
      (∀ (u : S) (H : Heap) (locs : List Loc) (pc : Nat) (ls : Array Slot), decode cc pc = .ok (.return_, 1) → post u → va_P D vwCl (ws' u) H → va_D A (ws' u) → va_S A s.heap H locs → W p l e (headSpec w rm).room s m args below meth c H locs mc ms Q (F0 m pc ls [])) →
      lv_has ls maxL (lv_args 0 av) → W p l e (headSpec w rm).room s m args below meth c s.heap [] 0 0 Q (F0 m 0 ls [])) : zNv l y w rm K D tA av ws sz post ws' mc ms := by
  refine Met.ofW (cc := cc) (maxL := maxL) (ret := none) hy hw ?_
  intro p e s m args below meth c s₁ B hml hv
  obtain ⟨hav, ⟨⟨hsz, hP, hK, hD0⟩, hC⟩, hPo⟩ := hv
  subst hav
  subst hsz
  have hts := atoms_spec (ws := w) B.pre
  have hl := lv_entry av (n := maxL) hlen
  rw [lg_entry_eq]
  exact body p e s m _ below meth c (va_A ws s.heap.size) _ _ B.exec B.bytes hml hts (findClass_of_methodNamed B.named) ((name_of_methodNamed B.named B.method).1.trans hyn) hK hP hD0.self (fun q h => Or.inr h) hC hPo
    (fun u H locs pc ls hd hp hP' hD' hS => W.vret B.exec B.bytes B.returns (fun t ht hW => ⟨⟨u, rfl, hp, by rw [ht]; exact hP', va_K.moved hW.alike hK, hD'⟩, hS.F ht⟩) hS.2.2 hd B.notSynchronized) hl
theorem zn_swP {D : va_G} {w1 w2 : va_W} {H : Heap} (h : va_P D vwCl (w1 ++ w2) H) : va_P D vwCl (w2 ++ w1) H := by
  have h0 : va_P D vwCl ([w1, w2] : List va_W).flatten H := by
    show va_P D vwCl (w1 ++ (w2 ++ [])) H
    rw [List.append_nil]; exact h
  have h1 : va_P D vwCl (w2 ++ (w1 ++ [])) H := zch_P (L := [w1, w2]) (L' := [w2, w1]) [1, 0] rfl h0
  rw [List.append_nil] at h1
  exact h1
theorem zn_swD {A : Nat → Prop} {w1 w2 : va_W} (h : va_D A (w1 ++ w2)) : va_D A (w2 ++ w1) := by
  have h0 : va_D A ([w1, w2] : List va_W).flatten := by
    show va_D A (w1 ++ (w2 ++ []))
    rw [List.append_nil]; exact h
  have h1 : va_D A (w2 ++ (w1 ++ [])) := zch_D (L := [w1, w2]) (L' := [w2, w1]) [1, 0] (by decide) rfl h0
  rw [List.append_nil] at h1
  exact h1
def z0F : Int → Int := fun _ => 0
section ZNEW
variable {p : Program} {l : Launch} {e : Env} {R : Room} {s : State} {m : MethodId} {args : Array Value} {below : List Frame} {meth : Method} {c : Code} {H : Heap} {locs : List Loc} {cells slots : Nat} {Q : State → Prop}
variable {cc : ByteArray} {pc : Nat} {ls : Array Slot} {rest st0 : List Value} {D : va_G} {tA : Nat → ClassId} {K : Nat → Nat} {ws : va_W} {A : Nat → Prop} {H0 : Heap}
variable {y : MethodName} {bytes : ByteArray} {maxL nL mc ms index index2 : Nat} {w Ts : List Cond} {rm : Room} {own C : String}
theorem zn_new {S : Type} {post : S → Prop} {ws' : Nat → S → va_W} (hfix : CallFix p m c cc nL s args Ts own) {T : u_T} {N ci : Nat} {fs : List Value} (hin : ∀ w ∈ u_ws C T N, w ∈ Ts) (ty : Nat → FieldType) (hty : ∀ k, k < N → parseFieldDescriptor (T k).2.2.1 = some (ty k)) (hcl : (Cond.classLink own index C).before args s = true) (hinst : (Cond.instantiable C N).before args s = true) (hini : (Cond.initialized C).before args s = true) (hc : vwCl[ci]? = some (C, T, N)) (hfs : ∀ j, j < N → defaultValue (ty j) = vp_V fs j)
    (hM : ∀ (q sz : Nat), zNv l y w rm K D tA [.ref q] [(q, .inr (ci, fs))] sz post (ws' q) mc ms) (cw : CallB R s args own index2 y bytes maxL none w rm mc ms 0 ∧ y.name = "<init>" ∧ (Cond.instanceMethod y).before args s = true)
    (hK : zK D tA s) (hP : va_P D vwCl ws H) (hD : va_D A ws) (hS : va_S A s.heap H locs) (hA : ∀ q, s.heap.size ≤ q → A q) (hCn : zCn K A s) (hPo : zPort K A s s.heap) (hsize : ls.size = nL) (hd1 : decode cc pc = .ok (.new index, 3)) (hd2 : decode cc (pc + 3) = .ok (.dup, 1)) (hd3 : decode cc (pc + 3 + 1) = .ok (.invokespecial index2, 3))
    (hf : cells + 1 + mc ≤ R.cells ∧ slots + N + ms ≤ R.slots) (hroom : (rest.map fun v => v.category).sum ≤ 7)
    (kk : ∀ (q : Nat) (u : S) (H1 : Heap) (locs1 : List Loc), post u → va_P D vwCl (ws ++ ws' q u) H1 → va_D A (ws ++ ws' q u) → va_S A s.heap H1 locs1 → W p l e R s m args below meth c H1 locs1 (cells + 1 + mc) (slots + N + ms) Q (F0 m (pc + 3 + 1 + 3) ls (.ref q :: rest))) : W p l e R s m args below meth c H locs cells slots Q (F0 m pc ls rest) := by
  obtain ⟨hx, hb, hml, hown, hts⟩ := id hfix
  refine va_new hx hb hts hin ty hty hown hcl hinst hini hK hP hD hS hA hc hfs (by omega) (by omega) hd1 (fun q H hP hD hS => ?_)
  refine lv_dup hx hb hd2 rfl ?_
  have hP0 := zn_swP hP
  have hD0 := zn_swD hD
  have hPc := zap_Pc hP0
  have hDc := zap_Dc hD0
  have hFc := zap_Fc hD0 hS hA
  refine va_callv (va_runI (As := []) (rest := .ref q :: rest) hfix (hM q H.size) cw ⟨fun a U g mk => zPcN_calling a U g mk, fun U hU hW => ⟨rfl, ⟨⟨by rw [hU], by rw [hU]; exact hPc, va_K.moved hW.alike hK, hDc.weaken (fun _ _ _ _ => trivial)⟩, hCn.at hS hFc hU hW⟩, hPo.at hS hFc hU hW⟩⟩ rfl rfl hsize rfl (lv_room (by show 1 + (rest.map fun v => v.category).sum ≤ 8; omega)) hd3 ⟨by omega, by omega⟩) hS (fun q _ h => hFc q h) hFc ?_
  intro u t H1 locs1 ht hvm hp hB hz1 hk1 hS1
  obtain ⟨hP1, hK1, hD1⟩ := hB
  rw [ht] at hP1
  obtain ⟨hP2, hD2⟩ := zap_J hP0 hD0 hk1 hFc hP1 hD1
  exact kk q u H1 locs1 hp hP2 hD2 hS1
theorem zn_newN {S : Type} {post : S → Prop} {ws' : Nat → S → va_W} (hfix : CallFix p m c cc nL s args Ts own) {T : u_T} {N ci : Nat} {fs : List Value} (hin : ∀ w ∈ u_ws C T N, w ∈ Ts) (ty : Nat → FieldType) (hty : ∀ k, k < N → parseFieldDescriptor (T k).2.2.1 = some (ty k)) (hcl : (Cond.classLink own index C).before args s = true) (hinst : (Cond.instantiable C N).before args s = true) (hini : (Cond.initialized C).before args s = true) (hc : vwCl[ci]? = some (C, T, N)) (hfs : ∀ j, j < N → defaultValue (ty j) = vp_V fs j)
    (hM : ∀ (q sz : Nat), zNv l y w rm K D tA [.ref q] [(q, .inr (ci, fs))] sz post (ws' q) mc ms) {host : String} (cw : va_CN R s args own index2 y host bytes maxL none w rm mc ms 0 ∧ y.name = "<init>" ∧ (Cond.instanceMethod y).before args s = true)
    (hK : zK D tA s) (hP : va_P D vwCl ws H) (hD : va_D A ws) (hS : va_S A s.heap H locs) (hA : ∀ q, s.heap.size ≤ q → A q) (hCn : zCn K A s) (hPo : zPort K A s s.heap) (hsize : ls.size = nL) (hd1 : decode cc pc = .ok (.new index, 3)) (hd2 : decode cc (pc + 3) = .ok (.dup, 1)) (hd3 : decode cc (pc + 3 + 1) = .ok (.invokespecial index2, 3))
    (hf : cells + 1 + mc ≤ R.cells ∧ slots + N + ms ≤ R.slots) (hroom : (rest.map fun v => v.category).sum ≤ 7)
    (kk : ∀ (q : Nat) (u : S) (H1 : Heap) (locs1 : List Loc), post u → va_P D vwCl (ws ++ ws' q u) H1 → va_D A (ws ++ ws' q u) → va_S A s.heap H1 locs1 → W p l e R s m args below meth c H1 locs1 (cells + 1 + mc) (slots + N + ms) Q (F0 m (pc + 3 + 1 + 3) ls (.ref q :: rest))) : W p l e R s m args below meth c H locs cells slots Q (F0 m pc ls rest) := by
  obtain ⟨hx, hb, hml, hown, hts⟩ := id hfix
  refine va_new hx hb hts hin ty hty hown hcl hinst hini hK hP hD hS hA hc hfs (by omega) (by omega) hd1 (fun q H hP hD hS => ?_)
  refine lv_dup hx hb hd2 rfl ?_
  have hP0 := zn_swP hP
  have hD0 := zn_swD hD
  have hPc := zap_Pc hP0
  have hDc := zap_Dc hD0
  have hFc := zap_Fc hD0 hS hA
  refine va_callv (va_runIN (As := []) (rest := .ref q :: rest) hfix (hM q H.size) cw ⟨fun a U g mk => zPcN_calling a U g mk, fun U hU hW => ⟨rfl, ⟨⟨by rw [hU], by rw [hU]; exact hPc, va_K.moved hW.alike hK, hDc.weaken (fun _ _ _ _ => trivial)⟩, hCn.at hS hFc hU hW⟩, hPo.at hS hFc hU hW⟩⟩ rfl rfl hsize rfl (lv_room (by show 1 + (rest.map fun v => v.category).sum ≤ 8; omega)) hd3 ⟨by omega, by omega⟩) hS (fun q _ h => hFc q h) hFc ?_
  intro u t H1 locs1 ht hvm hp hB hz1 hk1 hS1
  obtain ⟨hP1, hK1, hD1⟩ := hB
  rw [ht] at hP1
  obtain ⟨hP2, hD2⟩ := zap_J hP0 hD0 hk1 hFc hP1 hD1
  exact kk q u H1 locs1 hp hP2 hD2 hS1
theorem zn_sup {S : Type} {post : S → Prop} {ws' : S → va_W} {b : Nat} {As : List Value} {n : Nat} (hfix : CallFix p m c cc nL s args Ts own)
    (hM : zNv l y w rm K D tA (.ref b :: As) ws H.size post ws' mc ms) (cw : CallB R s args own index y bytes maxL none w rm mc ms n ∧ y.name = "<init>" ∧ (Cond.instanceMethod y).before args s = true)
    (hK : zK D tA s) (hP : va_P D vwCl ws H) (hD : va_D A ws) (hS : va_S A s.heap H locs) (hA : ∀ q, s.heap.size ≤ q → A q) (hCn : zCn K A s) (hPo : zPort K A s s.heap) (hst : st0 = As.reverse ++ .ref b :: rest) (hnn : As.length = n) (hsize : ls.size = nL) (hd : decode cc pc = .ok (.invokespecial index, 3))
    (hf : cells + mc ≤ R.cells ∧ slots + ms ≤ R.slots) (hroom : (rest.map fun v => v.category).sum ≤ 8)
    (kk : ∀ (u : S) (H1 : Heap) (locs1 : List Loc), post u → va_P D vwCl (ws' u) H1 → va_D A (ws' u) → va_S A s.heap H1 locs1 → W p l e R s m args below meth c H1 locs1 (cells + mc) (slots + ms) Q (F0 m (pc + 3) ls rest)) : W p l e R s m args below meth c H locs cells slots Q (F0 m pc ls st0) := by
  have hP0 : va_P D vwCl (ws ++ []) H := by rw [List.append_nil]; exact hP
  have hD0 : va_D A (ws ++ []) := by rw [List.append_nil]; exact hD
  have hFc := zap_Fc hD0 hS hA
  refine va_callv (va_runI (rest := rest) hfix hM cw ⟨fun a U g mk => zPcN_calling a U g mk, fun U hU hW => ⟨rfl, ⟨⟨by rw [hU], by rw [hU]; exact hP, va_K.moved hW.alike hK, hD.weaken (fun _ _ _ _ => trivial)⟩, hCn.at hS hFc hU hW⟩, hPo.at hS hFc hU hW⟩⟩ rfl hnn hsize hst (lv_room hroom) hd hf) hS (fun q _ h => hFc q h) hFc ?_
  intro u t H1 locs1 ht hvm hp hB hz1 hk1 hS1
  obtain ⟨hP1, hK1, hD1⟩ := hB
  rw [ht] at hP1
  obtain ⟨hP2, hD2⟩ := zap_J hP0 hD0 hk1 hFc hP1 hD1
  exact kk u H1 locs1 hp hP2 hD2 hS1
theorem zn_arr {atype : ArrayType} {ty : FieldType} (i : Nat) (hx : p.tables.exec = Jvm.exec) (hb : c.code = cc) (harr : (Cond.arrayClass (newarray.typeOf atype)).before args s = true) (hty : newarray.typeOf atype = ty) (hti : (zTys tA)[i]? = some (tA i, ty)) (hK : zK D tA s) (hP : va_P D vwCl ws H) (hD : va_D A ws) (hS : va_S A H0 H locs) (hA : ∀ q, H0.size ≤ q → A q)
    {n : Int32} {N' : Nat} {a0 : vp_A} (ha : ∀ cA : ClassId, vp_cell cA a0 = arrV cA N' (fun _ => defaultValue ty)) (hn : ¬ n < 0) (hN : n.toNatClampNeg = N') (hbytes : N' * componentBytes ty ≤ 536870912) (hcells : cells + 1 ≤ R.cells) (hslots : slots + N' ≤ R.slots) (hd : decode cc pc = .ok (.newarray atype, 2))
    (kk : ∀ (q : Nat) (H1 : Heap), va_P D vwCl (ws ++ [(q, .inl (tA i, a0))]) H1 → va_D A (ws ++ [(q, .inl (tA i, a0))]) → va_S A H0 H1 locs → W p l e R s m args below meth c H1 locs (cells + 1) (slots + N') Q (F0 m (pc + 2) ls (.ref q :: rest))) : W p l e R s m args below meth c H locs cells slots Q (F0 m pc ls (.int n :: rest)) := by
  refine va_newa hx hb harr hty hK hP hD hS hA ha hn hN hbytes hcells hslots hd (fun q cA H1 hK1 hP1 hD1 hS1 => ?_)
  have e1 := (hK.2 i _ hti).2
  have e2 := (hK1.2 7 (cA, ty) rfl).2
  have e : cA = tA i := by
    subst hty
    revert e1 e2
    cases atype <;> exact fun e1 e2 => Option.some.inj (e2.symm.trans e1)
  rw [e] at hP1 hD1
  exact kk q H1 hP1 hD1 hS1
theorem zn_arrq (hx : p.tables.exec = Jvm.exec) (hb : c.code = cc) (hown : s.vm.findClass own = some m.cls) (hcl : (Cond.classLink own index "HarborLights$State").before args s = true) (hao : va_AO "HarborLights$State" s) (hK : zK D tA s) (hP : va_P D vwCl ws H) (hD : va_D A ws) (hS : va_S A H0 H locs) (hA : ∀ q, H0.size ≤ q → A q)
    {n : Int32} {N' : Nat} (hn : ¬ n < 0) (hN : n.toNatClampNeg = N') (hbytes : N' * 4 ≤ 536870912) (hcells : cells + 1 ≤ R.cells) (hslots : slots + N' ≤ R.slots) (hd : decode cc pc = .ok (.anewarray index, 3))
    (kk : ∀ (q : Nat) (H1 : Heap), va_P D vwCl (ws ++ [(q, .inl (tA 6, N', .inr (.inr (.inr (.inr (fun _ => none))))))]) H1 → va_D A (ws ++ [(q, .inl (tA 6, N', .inr (.inr (.inr (.inr (fun _ => none))))))]) → va_S A H0 H1 locs → W p l e R s m args below meth c H1 locs (cells + 1) (slots + N') Q (F0 m (pc + 3) ls (.ref q :: rest))) : W p l e R s m args below meth c H locs cells slots Q (F0 m pc ls (.int n :: rest)) := by
  refine va_newq hx hb hown hcl hao hK hP hD hS hA hn hN hbytes hcells hslots hd (fun q cA H1 hK1 hP1 hD1 hS1 => ?_)
  obtain ⟨k1, c1, -, -, -, e1⟩ := (hK.2 6 _ rfl).2
  obtain ⟨k2, c2, -, -, -, e2⟩ := (hK1.2 7 (cA, .object "HarborLights$State") rfl).2
  have e : cA = tA 6 := Option.some.inj (e2.symm.trans e1)
  rw [e] at hP1 hD1
  exact kk q H1 hP1 hD1 hS1
end ZNEW
theorem ad_8 {q0 q1 q2 q3 q4 q5 q6 q7 : Nat} : va_up (va_up (va_up (va_up (va_up (va_up (va_up (va_up (fun _ => none) 0 (some q0)) 1 (some q1)) 2 (some q2)) 3 (some q3)) 4 (some q4)) 5 (some q5)) 6 (some q6)) 7 (some q7) = adF [q0, q1, q2, q3, q4, q5, q6, q7] := by
  funext j
  match j with
  | 0 => rfl
  | 1 => rfl
  | 2 => rfl
  | 3 => rfl
  | 4 => rfl
  | 5 => rfl
  | 6 => rfl
  | 7 => rfl
  | _ + 8 => rfl
