/-! ===== constants: calls over worlds in chunks ===== -/
section ZCH
variable {p : Program} {l : Launch} {e : Env} {R : Room} {s : State} {m : MethodId} {args : Array Value} {below : List Frame} {meth : Method} {c : Code} {H : Heap} {locs : List Loc} {cells slots : Nat} {Q : State → Prop}
variable {cc : ByteArray} {pc : Nat} {ls : Array Slot} {rest st0 : List Value} {K : Nat → Nat} {D : va_G} {tA : Nat → ClassId} {ws wc : va_W} {A : Nat → Prop}
variable {y : MethodName} {bytes : ByteArray} {maxL nL mc ms n index : Nat} {ret : Option FieldType} {w Ts : List Cond} {rm : Room} {own C : String} {b : Addr} {As : List Value}
theorem zc_callVi_ch {S : Type} {post : Int → S → Prop} {ws' : S → va_W} {L Lc Lr : List va_W} {Lc' Lf : S → List va_W} {is isF : List Nat} (hfix : CallFix p m c cc nL s args Ts own) (hM : zCi l y w rm K D tA (.ref b :: As) wc H.size post ws' mc ms) (cw : CallW R s args own C index y bytes maxL ret w rm mc ms n) (hK : zK D tA s) (hP : va_P D vwCl L.flatten H) (hD : va_D A L.flatten) (hS : va_S A s.heap H locs) (hA : ∀ q, s.heap.size ≤ q → A q) (hCn : zCn K A s) (hcut : zCut wc L Lc Lr is) (hback : zBack ws' Lr Lc' Lf isF) {ci q0 : Nat} {cq : vw_C} {fs : List Value} (hc : vwCl[ci]? = some cq) (hcq : cq.1 = C) (he : wc[q0]? = some (b, .inr (ci, fs)))
    (hst : st0 = As.reverse ++ .ref b :: rest) (hnn : As.length = n) (hsize : ls.size = nL) (hroom : (rest.map fun v => v.category).sum ≤ 8) (hd : decode cc pc = .ok (.invokevirtual index, 3)) (hf : cells + mc ≤ R.cells ∧ slots + ms ≤ R.slots)
    (kk : ∀ (z : Int) (u : S) (H1 : Heap) (locs1 : List Loc), post z u → va_P D vwCl (Lf u).flatten H1 → va_D A (Lf u).flatten → va_S A s.heap H1 locs1 → W p l e R s m args below meth c H1 locs1 (cells + mc) (slots + ms) Q (F0 m (pc + 3) ls (.int (iI z) :: rest))) : W p l e R s m args below meth c H locs cells slots Q (F0 m pc ls st0) := by
  have hP0 := hcut.P hP
  have hD0 := hcut.D hD
  have hPc := zap_Pc hP0
  have hDc := zap_Dc hD0
  have hFc := zap_Fc hD0 hS hA
  refine va_calli (va_runV hfix hM cw ⟨fun a U g mk => zPcC_calling a U g mk, ?_, ?_⟩ rfl hnn hsize hst (lv_room hroom) hd hf) hS (fun q _ h => hFc q h) hFc ?_
  · have h := va_recv hK hPc hc he
    rw [hcq] at h
    exact h
  · intro U hU hW
    exact ⟨rfl, ⟨by rw [hU], by rw [hU]; exact hPc, va_K.moved hW.alike hK, hDc.weaken (fun _ _ _ _ => trivial)⟩, hCn.at hS hFc hU hW⟩
  · intro r u t H1 locs1 ht hvm hw hB hz1 hk1 hS1
    obtain ⟨hP1, hK1, hD1⟩ := hB
    obtain ⟨hr, hp⟩ := hw
    subst hr
    rw [ht] at hP1
    obtain ⟨hP2, hD2⟩ := zap_J hP0 hD0 hk1 hFc hP1 hD1
    exact kk u.1 u.2 H1 locs1 hp (hback.P hP2) (hback.D hD2) hS1

theorem zc_callVv_ch {S : Type} {post : S → Prop} {ws' : S → va_W} {L Lc Lr : List va_W} {Lc' Lf : S → List va_W} {is isF : List Nat} (hfix : CallFix p m c cc nL s args Ts own) (hM : zCv l y w rm K D tA (.ref b :: As) wc H.size post ws' mc ms) (cw : CallW R s args own C index y bytes maxL ret w rm mc ms n) (hK : zK D tA s) (hP : va_P D vwCl L.flatten H) (hD : va_D A L.flatten) (hS : va_S A s.heap H locs) (hA : ∀ q, s.heap.size ≤ q → A q) (hCn : zCn K A s) (hcut : zCut wc L Lc Lr is) (hback : zBack ws' Lr Lc' Lf isF) {ci q0 : Nat} {cq : vw_C} {fs : List Value} (hc : vwCl[ci]? = some cq) (hcq : cq.1 = C) (he : wc[q0]? = some (b, .inr (ci, fs)))
    (hst : st0 = As.reverse ++ .ref b :: rest) (hnn : As.length = n) (hsize : ls.size = nL) (hroom : (rest.map fun v => v.category).sum ≤ 8) (hd : decode cc pc = .ok (.invokevirtual index, 3)) (hf : cells + mc ≤ R.cells ∧ slots + ms ≤ R.slots)
    (kk : ∀ (u : S) (H1 : Heap) (locs1 : List Loc), post u → va_P D vwCl (Lf u).flatten H1 → va_D A (Lf u).flatten → va_S A s.heap H1 locs1 → W p l e R s m args below meth c H1 locs1 (cells + mc) (slots + ms) Q (F0 m (pc + 3) ls (rest))) : W p l e R s m args below meth c H locs cells slots Q (F0 m pc ls st0) := by
  have hP0 := hcut.P hP
  have hD0 := hcut.D hD
  have hPc := zap_Pc hP0
  have hDc := zap_Dc hD0
  have hFc := zap_Fc hD0 hS hA
  refine va_callv (va_runV hfix hM cw ⟨fun a U g mk => zPcC_calling a U g mk, ?_, ?_⟩ rfl hnn hsize hst (lv_room hroom) hd hf) hS (fun q _ h => hFc q h) hFc ?_
  · have h := va_recv hK hPc hc he
    rw [hcq] at h
    exact h
  · intro U hU hW
    exact ⟨rfl, ⟨by rw [hU], by rw [hU]; exact hPc, va_K.moved hW.alike hK, hDc.weaken (fun _ _ _ _ => trivial)⟩, hCn.at hS hFc hU hW⟩
  · intro u t H1 locs1 ht hvm hp hB hz1 hk1 hS1
    obtain ⟨hP1, hK1, hD1⟩ := hB
    rw [ht] at hP1
    obtain ⟨hP2, hD2⟩ := zap_J hP0 hD0 hk1 hFc hP1 hD1
    exact kk u H1 locs1 hp (hback.P hP2) (hback.D hD2) hS1

end ZCH
