/-! ===== p57: made strings: what is new ===== -/
def zAr {S : Type} (l : Launch) (y : MethodName) (w : List Cond) (rm : Room) (K : Nat → Nat) (D : va_G) (tA : Nat → ClassId) (av : List Value) (ws : va_W) (sz : Nat) (post : S → Prop) (rv : S → Nat) (ws' : S → va_W) (mc ms : Nat) : Prop :=
  Met l y w rm (va_Pc av (zPreC K D tA ws sz)) (va_Qr (fun (u : S) => post u) (fun u q t => q = rv u ∧ zB D tA (va_A ws sz) (ws' u) t) (va_A ws sz)) mc ms (va_A ws sz)
theorem zAr_of {S : Type} {l : Launch} {y : MethodName} {w : List Cond} {rm : Room} {K : Nat → Nat} {D : va_G} {tA : Nat → ClassId} {av : List Value} {ws : va_W} {sz : Nat} {post : S → Prop} {rv : S → Nat} {ws' : S → va_W} {mc ms : Nat} {cc : ByteArray} {maxL : Nat} {ty : FieldType} {w0 : List Cond} (hy : plainName y.cls = true) (hw : w = Cond.code y cc maxL (some ty) :: w0) (hrt : (∃ n, ty = .object n) ∨ ∃ t, ty = .array t) (hlen : (lg_sl av).length ≤ maxL)
    (body : ∀ (p : Program) (e : Env) (s : State) (m : MethodId) (args : Array Value) (below : List Frame) (meth : Method) (c : Code) (A : Nat → Prop) (Q : State → Prop) (ls : Array Slot), p.tables.exec = Jvm.exec → c.code = cc → c.maxLocals = maxL → (∀ v ∈ w, v.before args s = true) → s.vm.findClass y.cls = some m.cls → zK D tA s → va_P D vwCl ws s.heap → va_D A ws → (∀ q, s.heap.size ≤ q → A q) → zCn K A s →
      (∀ (u : S) (H : Heap) (locs : List Loc) (pc : Nat) (ls : Array Slot), decode cc pc = .ok (.areturn, 1) → post u → va_P D vwCl (ws' u) H → va_D A (ws' u) → va_S A s.heap H locs → W p l e (headSpec w rm).room s m args below meth c H locs mc ms Q (F0 m pc ls [.ref (rv u)])) →
      lv_has ls maxL (lv_args 0 av) → W p l e (headSpec w rm).room s m args below meth c s.heap [] 0 0 Q (F0 m 0 ls [])) : zAr l y w rm K D tA av ws sz post rv ws' mc ms := by
  refine Met.ofW (cc := cc) (maxL := maxL) (ret := (some ty)) hy hw ?_
  intro p e s m args below meth c s₁ B hml hv
  obtain ⟨hav, ⟨hsz, hP, hK, hD0⟩, hC⟩ := hv
  subst hav
  subst hsz
  have hts := atoms_spec (ws := w) B.pre
  have hl := lv_entry av (n := maxL) hlen
  rw [lg_entry_eq]
  exact body p e s m _ below meth c (va_A ws s.heap.size) _ _ B.exec B.bytes hml hts (findClass_of_methodNamed B.named) hK hP hD0.self (fun q h => Or.inr h) hC
    (fun u H locs pc ls hd hp hP' hD' hS => W.aret B.exec B.bytes B.returns hrt (Or.inr ⟨rv u, rfl⟩) (fun t ht hW => ⟨⟨u, rv u, rfl, hp, rfl, by rw [ht]; exact hP', va_K.moved hW.alike hK, hD'⟩, hS.F ht⟩) hS.2.2 hd B.notSynchronized) hl
section ZAC
variable {p : Program} {l : Launch} {e : Env} {R : Room} {s : State} {m : MethodId} {args : Array Value} {below : List Frame} {meth : Method} {c : Code} {H : Heap} {locs : List Loc} {cells slots : Nat} {Q : State → Prop}
variable {cc : ByteArray} {pc : Nat} {ls : Array Slot} {rest st0 : List Value} {K : Nat → Nat} {D : va_G} {tA : Nat → ClassId} {ws wc : va_W} {A : Nat → Prop}
variable {y : MethodName} {bytes : ByteArray} {maxL nL mc ms n index : Nat} {ret : Option FieldType} {w Ts : List Cond} {rm : Room} {own C : String} {b : Addr} {As : List Value}
theorem zc_callSA {S : Type} {post : S → Prop} {rv : S → Nat} {ws' wf : S → va_W} (hfix : CallFix p m c cc nL s args Ts own) (hM : zAr l y w rm K D tA As wc H.size post rv ws' mc ms) (cw : CallB R s args own index y bytes maxL ret w rm mc ms n ∧ (Cond.static y).before args s = true) (hK : zK D tA s) (hP : va_P D vwCl ws H) (hD : va_D A ws) (hS : va_S A s.heap H locs) (hA : ∀ q, s.heap.size ≤ q → A q) (hCn : zCn K A s) (isC isR isF : List Nat)
    (hC : isC.map (fun i => ws[i]?) = wc.map some) (hR : isR.map (fun i => ws[i]?) = (isR.filterMap (fun i => ws[i]?)).map some) (hn1 : va_nd isC = true) (hn2 : va_nd isR = true) (hn3 : va_nd isF = true) (hdis : ∀ i ∈ isR, i ∉ isC) (hF : ∀ u, isF.map (fun i => (isR.filterMap (fun i => ws[i]?) ++ ws' u)[i]?) = (wf u).map some)
    (hst : st0 = As.reverse ++ rest) (hnn : As.length = n) (hsize : ls.size = nL) (hroom : (rest.map fun v => v.category).sum ≤ 8) (hd : decode cc pc = .ok (.invokestatic index, 3)) (hf : cells + mc ≤ R.cells ∧ slots + ms ≤ R.slots)
    (kk : ∀ (u : S) (H1 : Heap) (locs1 : List Loc), post u → va_P D vwCl (wf u) H1 → va_D A (wf u) → va_S A s.heap H1 locs1 → W p l e R s m args below meth c H1 locs1 (cells + mc) (slots + ms) Q (F0 m (pc + 3) ls (.ref (rv u) :: rest))) : W p l e R s m args below meth c H locs cells slots Q (F0 m pc ls st0) := by
  have hPc := zP_sub hP isC hC
  have hDc := hD.sub isC hn1 hC
  have hFc := va_free hD hS hA isC hC
  refine va_callr (va_runS hfix hM cw ⟨fun a U g mk => zPcC_calling a U g mk, ?_⟩ rfl hnn hsize hst (lv_room hroom) hd hf) hS (fun q _ h => hFc q h) hFc ?_
  · intro U hU hW
    exact ⟨rfl, ⟨by rw [hU], by rw [hU]; exact hPc, va_K.moved hW.alike hK, hDc.weaken (fun _ _ _ _ => trivial)⟩, hCn.at hS hFc hU hW⟩
  · intro u ra t H1 locs1 ht hvm hp hB hz1 hk1 hS1
    obtain ⟨hra, hP1, hK1, hD1⟩ := hB
    subst hra
    rw [ht] at hP1
    obtain ⟨hP2, hD2⟩ := va_join hP hD isC isR hC hR hn2 hdis hk1 hFc hP1 hD1
    exact kk u H1 locs1 hp (zP_sub hP2 isF (hF u)) (hD2.sub isF hn3 (hF u)) hS1
theorem zc_callUr {S : Type} {rv : Nat} {post : S → Prop} {ow : String} {x : MethodName} {ws' wf : S → va_W} (hfix : CallFix p m c cc nL s args Ts own) (hM : zCr l y w rm K D tA (.ref b :: As) rv wc H.size post ws' mc ms) (cw : va_CU R s args own C ow index x y bytes maxL ret w rm mc ms n) (hK : zK D tA s) (hP : va_P D vwCl ws H) (hD : va_D A ws) (hS : va_S A s.heap H locs) (hA : ∀ q, s.heap.size ≤ q → A q) (hCn : zCn K A s) (isC isR isF : List Nat)
    (hC : isC.map (fun i => ws[i]?) = wc.map some) (hR : isR.map (fun i => ws[i]?) = (isR.filterMap (fun i => ws[i]?)).map some) (hn1 : va_nd isC = true) (hn2 : va_nd isR = true) (hn3 : va_nd isF = true) (hdis : ∀ i ∈ isR, i ∉ isC) (hF : ∀ u, isF.map (fun i => (isR.filterMap (fun i => ws[i]?) ++ ws' u)[i]?) = (wf u).map some) {ci q0 : Nat} {cq : vw_C} {fs : List Value} (hc : vwCl[ci]? = some cq) (hcq : cq.1 = C) (he : wc[q0]? = some (b, .inr (ci, fs)))
    (hst : st0 = As.reverse ++ .ref b :: rest) (hnn : As.length = n) (hsize : ls.size = nL) (hroom : (rest.map fun v => v.category).sum ≤ 8) (hd : decode cc pc = .ok (.invokevirtual index, 3)) (hf : cells + mc ≤ R.cells ∧ slots + ms ≤ R.slots)
    (kk : ∀ (u : S) (H1 : Heap) (locs1 : List Loc), post u → va_P D vwCl (wf u) H1 → va_D A (wf u) → va_S A s.heap H1 locs1 → W p l e R s m args below meth c H1 locs1 (cells + mc) (slots + ms) Q (F0 m (pc + 3) ls (.ref rv :: rest))) : W p l e R s m args below meth c H locs cells slots Q (F0 m pc ls st0) := by
  have hPc := zP_sub hP isC hC
  have hDc := hD.sub isC hn1 hC
  have hFc := va_free hD hS hA isC hC
  refine va_callr (va_runU hfix hM cw ⟨fun a U g mk => zPcC_calling a U g mk, ?_, ?_⟩ rfl hnn hsize hst (lv_room hroom) hd hf) hS (fun q _ h => hFc q h) hFc ?_
  · have h := va_recv hK hPc hc he
    rw [hcq] at h
    exact h
  · intro U hU hW
    exact ⟨rfl, ⟨by rw [hU], by rw [hU]; exact hPc, va_K.moved hW.alike hK, hDc.weaken (fun _ _ _ _ => trivial)⟩, hCn.at hS hFc hU hW⟩
  · intro u ra t H1 locs1 ht hvm hp hB hz1 hk1 hS1
    obtain ⟨hra, hP1, hK1, hD1⟩ := hB
    subst hra
    rw [ht] at hP1
    obtain ⟨hP2, hD2⟩ := va_join hP hD isC isR hC hR hn2 hdis hk1 hFc hP1 hD1
    exact kk u H1 locs1 hp (zP_sub hP2 isF (hF u)) (hD2.sub isF hn3 (hF u)) hS1
end ZAC
set_option maxHeartbeats 4000000 in
set_option maxRecDepth 100000 in
theorem c_J7_checkLength_df160 (l : Launch) (K : Nat → Nat) (D : va_G) (tA : Nat → ClassId) (sz : Nat) (i : Int) (n1 : Int) (r_i : -2147483648 ≤ i ∧ i ≤ 2147483647) (r_n1 : -2147483648 ≤ n1 ∧ n1 ≤ 2147483647) (hi : i ≤ n1) : zCv l yJ7_checkLength_df160 wsJ7_checkLength_df160 ({ frames := 0, cells := 0, slots := 0, locals := 0 }) K D tA [.int (iI i), .int (iI n1)] ([]) sz (fun (u : Unit) => True) (fun (u : Unit) => []) 0 0 := by
  refine zCv_of (cc := cJ7_checkLength_df160) (maxL := 2) (by decide) rfl (Nat.le_of_ble_eq_true rfl) ?_
  intro p e s m args below meth c A Q ls hx hb hml hts hown hK hP hD hA hCn hret hl
  obtain ⟨H, hHe⟩ : ∃ H : Heap, H = s.heap := ⟨_, rfl⟩
  have hS : va_S A s.heap H [] := by rw [hHe]; exact va_S.rf
  rw [← hHe] at hP ⊢
  have hl : lv_has ls 2 [(0, .int (iI i)), (1, .int (iI n1))] := hl
  refine lv_iload_n hx hb dJ7_checkLength_df160_0 rfl (lv_at hl 1 rfl) ?_
  refine lv_iload_n hx hb dJ7_checkLength_df160_1 rfl (lv_at hl 0 rfl) ?_
  refine zz_icmp_ge (tgt := 37) hx hb dJ7_checkLength_df160_2 (by decide) (by omega) (by omega) (fun c_2 => ?_) (fun c_2 => ?_)
  · exact hret () _ _ _ _ dJ7_checkLength_df160_37 True.intro hP hD hS
  · exact absurd c_2 (by omega)
set_option maxHeartbeats 4000000 in
set_option maxRecDepth 100000 in
theorem c_J7_copyOfRangeByte_39247 (l : Launch) (K : Nat → Nat) (D : va_G) (tA : Nat → ClassId) (a1 : Nat) (sz : Nat) (cp : Nat) (lnb : Int → Int) (tx : List Int) (htx : ∀ v ∈ tx, 0 ≤ v ∧ v ≤ 127) (hsn : tx.length ≤ 64) (hcp : cp ≤ 64) (hlb : ∀ j : Int, 0 ≤ j → j < ((tx.length : Nat) : Int) → lnb j = tF tx j) (hle : tx.length ≤ cp) : zAr l yJ7_copyOfRangeByte_39247 wsJ7_copyOfRangeByte_39247 ({ frames := 1, cells := 1, slots := 64, locals := 40 }) K D tA [.ref a1, .int (iI 0), .int (iI ((tx.length : Nat) : Int))] ([(a1, .inl (tA 3, cp, .inl (zA lnb)))]) sz (fun (u : Nat) => True) (fun (u : Nat) => u) (fun (u : Nat) => [(a1, .inl (tA 3, cp, .inl (zA lnb))), (u, .inl (tA 3, tx.length, .inl (zA (tF tx))))]) 1 64 := by
  refine zAr_of (cc := cJ7_copyOfRangeByte_39247) (maxL := 5) (by decide) rfl (Or.inr ⟨_, rfl⟩) (Nat.le_of_ble_eq_true rfl) ?_
  intro p e s m args below meth c A Q ls hx hb hml hts hown hK hP hD hA hCn hret hl
  obtain ⟨H, hHe⟩ : ∃ H : Heap, H = s.heap := ⟨_, rfl⟩
  have hS : va_S A s.heap H [] := by rw [hHe]; exact va_S.rf
  rw [← hHe] at hP ⊢
  have hl : lv_has ls 5 [(0, .ref a1), (1, .int (iI 0)), (2, .int (iI ((tx.length : Nat) : Int)))] := hl
  refine lv_iload_n hx hb dJ7_copyOfRangeByte_39247_0 rfl (lv_at hl 1 rfl) ?_
  refine lv_iload_n hx hb dJ7_copyOfRangeByte_39247_1 rfl (lv_at hl 2 rfl) ?_
  refine zc_callSv (As := [.int (iI 0), .int (iI ((tx.length : Nat) : Int))]) (rest := []) (wf := fun u => [(a1, .inl (tA 3, cp, .inl (zA lnb)))]) ⟨hx, hb, hml, hown, hts⟩ (c_J7_checkLength_df160 l K D tA H.size 0 ((tx.length : Nat) : Int) (by omega) (by omega) (by omega)) (va_cwS 2 hts gJ7_copyOfRangeByte_39247_J7_checkLength_df160 rfl rfl rfl (by decide +kernel) ⟨Nat.le_of_ble_eq_true rfl, Nat.le_of_ble_eq_true rfl⟩) hK hP hD hS hA hCn [] [0] [0] rfl rfl (by decide) (by decide) (by decide) (by decide) (fun _ => rfl) rfl rfl hl.1 (Nat.le_of_ble_eq_true rfl) dJ7_copyOfRangeByte_39247_2 (by show _ + 0 ≤ 1 ∧ _ + 0 ≤ 64; omega) ?_
  intro u H locs p2 hP hD hS
  have hP : va_P D vwCl ([(a1, .inl (tA 3, cp, .inl (zA lnb)))]) H := hP
  have hD : va_D A ([(a1, .inl (tA 3, cp, .inl (zA lnb)))]) := hD
  refine lv_iload_n hx hb dJ7_copyOfRangeByte_39247_5 rfl (lv_at hl 2 rfl) ?_
  refine lv_iload_n hx hb dJ7_copyOfRangeByte_39247_6 rfl (lv_at hl 1 rfl) ?_
  refine zz_isub hx hb dJ7_copyOfRangeByte_39247_7 ?_
  refine lv_istore_n (lv' := [(3, .int (iI (((tx.length : Nat) : Int) - 0))), (0, .ref a1), (1, .int (iI 0)), (2, .int (iI ((tx.length : Nat) : Int)))]) hx hb dJ7_copyOfRangeByte_39247_8 rfl hl (by decide) rfl (fun ls hl => ?_)
  refine lv_iload_n hx hb dJ7_copyOfRangeByte_39247_9 rfl (lv_at hl 0 rfl) ?_
  rw [show ((tx.length : Nat) : Int) - 0 = ((tx.length : Nat) : Int) by omega] at hl ⊢
  refine zn_arr (atype := .byte) (ty := .byte) 3 hx hb (hts (.arrayClass .byte) (by decide +kernel)) rfl rfl hK hP hD hS hA (a0 := (tx.length, .inl (zA z0F))) (N' := tx.length) (fun _ => rfl) (fun h9 => absurd ((iI_lt (b := 0) (by omega) (by omega)).mp h9) (by omega)) (by rw [iI_clamp (by omega)]; omega) (by show tx.length * 1 ≤ 536870912; omega) (by show _ + 1 ≤ 1; omega) (by show _ + tx.length ≤ 64; omega) dJ7_copyOfRangeByte_39247_10 (fun q10 H hP hD hS => ?_)
  have hP : va_P D vwCl ([(a1, .inl (tA 3, cp, .inl (zA lnb))), (q10, .inl (tA 3, tx.length, .inl (zA z0F)))]) H := hP
  have hD : va_D A ([(a1, .inl (tA 3, cp, .inl (zA lnb))), (q10, .inl (tA 3, tx.length, .inl (zA z0F)))]) := hD
  refine lv_astore (lv' := [(4, .ref q10), (3, .int (iI ((tx.length : Nat) : Int))), (0, .ref a1), (1, .int (iI 0)), (2, .int (iI ((tx.length : Nat) : Int)))]) hx hb dJ7_copyOfRangeByte_39247_12 hl (by decide) rfl (fun ls hl => ?_)
  refine lv_aload_n hx hb dJ7_copyOfRangeByte_39247_14 rfl (lv_at hl 2 rfl) ?_
  refine lv_iload_n hx hb dJ7_copyOfRangeByte_39247_15 rfl (lv_at hl 3 rfl) ?_
  refine lv_aload hx hb dJ7_copyOfRangeByte_39247_16 (lv_at hl 0 rfl) ?_
  refine zz_iconst hx hb dJ7_copyOfRangeByte_39247_18 ?_
  refine lv_aload_n hx hb dJ7_copyOfRangeByte_39247_19 rfl (lv_at hl 2 rfl) ?_
  refine va_alen hx hb hK hP 0 3 rfl rfl (v := iI ((cp : Nat) : Int)) (nI_iI _) dJ7_copyOfRangeByte_39247_20 ?_
  refine lv_iload_n hx hb dJ7_copyOfRangeByte_39247_21 rfl (lv_at hl 3 rfl) ?_
  refine zz_isub hx hb dJ7_copyOfRangeByte_39247_22 ?_
  refine lv_iload_n hx hb dJ7_copyOfRangeByte_39247_23 rfl (lv_at hl 1 rfl) ?_
  have l_304 := hts (.methodLink RJ7 304 Lib.Math.min.name) (by decide +kernel)
  have ls_304 := hts (.static Lib.Math.min.name) (by decide +kernel)
  have lc_304 := hts (.code Lib.Math.min.name Lib.Math.min.code 2 (some .int)) (by decide +kernel)
  have li_304 := hts (.initialized "java/lang/Math") (by decide +kernel)
  refine zz_mmin hx hb (by rw [hml]; exact hl.1.symm) hown l_304 ls_304 li_304 lc_304 (Nat.le_of_ble_eq_true rfl) (Nat.le_of_ble_eq_true rfl) (by show _ ≤ 1; omega) (by show _ ≤ 64; omega) (by omega) (by omega) dJ7_copyOfRangeByte_39247_24 ?_
  have l_150 := hts (.methodLink RJ7 150 arraycopyName) (by decide +kernel)
  have ln_150 := hts (.native arraycopyName) (by decide +kernel)
  have ls_150 := hts (.static arraycopyName) (by decide +kernel)
  have li_150 := hts (.initialized "java/lang/System") (by decide +kernel)
  refine zz_copyb hx hb (by rw [hml]; exact hl.1.symm) hown l_150 ln_150 ls_150 li_150 (Nat.le_of_ble_eq_true rfl) (Nat.le_of_ble_eq_true rfl) hK hP hD hS 0 1 rfl rfl (by omega) (by omega) (fun j j0 j1 => by rw [hlb j j0 (by omega)]; exact tF_in htx j) (by omega) dJ7_copyOfRangeByte_39247_27 (fun H locs hP hD hS => ?_)
  have hP := zP_cell (q := 1) (G := zA (tF tx)) hP (fun j hj => by
      show iI (zCpy lnb z0F 0 0 (min (((cp : Nat) : Int) - 0) ((tx.length : Nat) : Int)) (j : Int)) = iI (tF tx (j : Int))
      unfold zCpy
      rw [if_pos (by omega), show (0 : Int) + ((j : Int) - 0) = (j : Int) by omega, hlb _ (by omega) (by omega)])
  have hD := zD_cell (q := 1) (y := .inl (tA 3, tx.length, .inl (zA (tF tx)))) hD
  have hP : va_P D vwCl ([(a1, .inl (tA 3, cp, .inl (zA lnb))), (q10, .inl (tA 3, tx.length, .inl (zA (tF tx))))]) H := hP
  have hD : va_D A ([(a1, .inl (tA 3, cp, .inl (zA lnb))), (q10, .inl (tA 3, tx.length, .inl (zA (tF tx))))]) := hD
  refine lv_aload hx hb dJ7_copyOfRangeByte_39247_30 (lv_at hl 0 rfl) ?_
  refine W.widen (k := 1) (n := 64) (by show 0 + 0 + 1 ≤ 1; omega) (by show 0 + 0 + tx.length ≤ 64; omega) ?_
  exact hret q10 _ _ _ _ dJ7_copyOfRangeByte_39247_32 True.intro hP hD hS
set_option maxHeartbeats 4000000 in
set_option maxRecDepth 100000 in
theorem c_J7_copyOfRange_39247 (l : Launch) (K : Nat → Nat) (D : va_G) (tA : Nat → ClassId) (a1 : Nat) (sz : Nat) (cp : Nat) (lnb : Int → Int) (tx : List Int) (htx : ∀ v ∈ tx, 0 ≤ v ∧ v ≤ 127) (hsn : tx.length ≤ 64) (hcp : cp ≤ 64) (hlb : ∀ j : Int, 0 ≤ j → j < ((tx.length : Nat) : Int) → lnb j = tF tx j) (hle : tx.length < cp) : zAr l yJ7_copyOfRange_39247 wsJ7_copyOfRange_39247 ({ frames := 2, cells := 1, slots := 64, locals := 64 }) K D tA [.ref a1, .int (iI 0), .int (iI ((tx.length : Nat) : Int))] ([(a1, .inl (tA 3, cp, .inl (zA lnb)))]) sz (fun (u : Nat) => True) (fun (u : Nat) => u) (fun (u : Nat) => [(a1, .inl (tA 3, cp, .inl (zA lnb))), (u, .inl (tA 3, tx.length, .inl (zA (tF tx))))]) 1 64 := by
  refine zAr_of (cc := cJ7_copyOfRange_39247) (maxL := 3) (by decide) rfl (Or.inr ⟨_, rfl⟩) (Nat.le_of_ble_eq_true rfl) ?_
  intro p e s m args below meth c A Q ls hx hb hml hts hown hK hP hD hA hCn hret hl
  obtain ⟨H, hHe⟩ : ∃ H : Heap, H = s.heap := ⟨_, rfl⟩
  have hS : va_S A s.heap H [] := by rw [hHe]; exact va_S.rf
  rw [← hHe] at hP ⊢
  have hl : lv_has ls 3 [(0, .ref a1), (1, .int (iI 0)), (2, .int (iI ((tx.length : Nat) : Int)))] := hl
  refine lv_iload_n hx hb dJ7_copyOfRange_39247_0 rfl (lv_at hl 1 rfl) ?_
  refine zz_if_ne (tgt := 10) hx hb dJ7_copyOfRange_39247_1 (by decide) (by omega) (fun c9 => absurd c9 (by decide)) (fun _ => ?_)
  refine lv_iload_n hx hb dJ7_copyOfRange_39247_4 rfl (lv_at hl 2 rfl) ?_
  refine lv_aload_n hx hb dJ7_copyOfRange_39247_5 rfl (lv_at hl 0 rfl) ?_
  refine va_alen hx hb hK hP 0 3 rfl rfl (v := iI ((cp : Nat) : Int)) (nI_iI _) dJ7_copyOfRange_39247_6 ?_
  refine zz_icmp_eq (tgt := 17) hx hb dJ7_copyOfRange_39247_7 (by decide) (by omega) (by omega) (fun c9 => absurd c9 (by omega)) (fun _ => ?_)
  refine lv_aload_n hx hb dJ7_copyOfRange_39247_10 rfl (lv_at hl 0 rfl) ?_
  refine lv_iload_n hx hb dJ7_copyOfRange_39247_11 rfl (lv_at hl 1 rfl) ?_
  refine lv_iload_n hx hb dJ7_copyOfRange_39247_12 rfl (lv_at hl 2 rfl) ?_
  refine zc_callSA (As := [.ref a1, .int (iI 0), .int (iI ((tx.length : Nat) : Int))]) (rest := []) (wf := fun u => [(a1, .inl (tA 3, cp, .inl (zA lnb))), (u, .inl (tA 3, tx.length, .inl (zA (tF tx))))]) ⟨hx, hb, hml, hown, hts⟩ (c_J7_copyOfRangeByte_39247 l K D tA a1 H.size cp lnb tx htx hsn hcp hlb (by omega)) (va_cwS 3 hts gJ7_copyOfRange_39247_J7_copyOfRangeByte_39247 rfl rfl rfl (by decide +kernel) ⟨Nat.le_of_ble_eq_true rfl, Nat.le_of_ble_eq_true rfl⟩) hK hP hD hS hA hCn [0] [] [0, 1] rfl rfl (by decide) (by decide) (by decide) (by decide) (fun _ => rfl) rfl rfl hl.1 (Nat.le_of_ble_eq_true rfl) dJ7_copyOfRange_39247_13 (by show _ + 1 ≤ 1 ∧ _ + 64 ≤ 64; omega) ?_
  intro u H locs p13 hP hD hS
  have hP : va_P D vwCl ([(a1, .inl (tA 3, cp, .inl (zA lnb))), (u, .inl (tA 3, tx.length, .inl (zA (tF tx))))]) H := hP
  have hD : va_D A ([(a1, .inl (tA 3, cp, .inl (zA lnb))), (u, .inl (tA 3, tx.length, .inl (zA (tF tx))))]) := hD
  exact hret u _ _ _ _ dJ7_copyOfRange_39247_16 True.intro hP hD hS
