/-! ===== worlds in chunks ===== -/
theorem zch_mem {L L' : List va_W} {is : List Nat} (hs : is.map (fun i => L[i]?) = L'.map some) {q : Nat × va_E} (h : q ∈ L'.flatten) : q ∈ L.flatten := by
  obtain ⟨c, hc, hq⟩ := List.mem_flatten.mp h
  obtain ⟨k, hk⟩ := List.getElem?_of_mem hc
  have h1 : (is.map (fun i => L[i]?))[k]? = some (some c) := by rw [hs, List.getElem?_map, hk]; rfl
  rw [List.getElem?_map] at h1
  cases hi : is[k]? with
  | none => rw [hi] at h1; cases h1
  | some i =>
    rw [hi] at h1
    exact List.mem_flatten.mpr ⟨c, List.mem_of_getElem? (Option.some.inj h1 : L[i]? = some c), hq⟩
theorem zch_P {D : va_G} {L L' : List va_W} {H : Heap} (is : List Nat) (hs : is.map (fun i => L[i]?) = L'.map some) (h : va_P D vwCl L.flatten H) : va_P D vwCl L'.flatten H := by
  intro k q hk
  obtain ⟨i, hi⟩ := List.getElem?_of_mem (zch_mem hs (List.mem_of_getElem? hk))
  exact h i q hi
theorem zD_iff {A : Nat → Prop} {ws : va_W} : va_D A ws ↔ ws.Pairwise (fun p q => p.1 ≠ q.1) ∧ ∀ q ∈ ws, A q.1 := by
  constructor
  · intro h
    refine ⟨?_, fun q hq => ?_⟩
    · rw [List.pairwise_iff_getElem]
      intro i j hi hj hij e
      have := h.1 i j _ _ (List.getElem?_eq_getElem hi) (List.getElem?_eq_getElem hj) e
      omega
    · obtain ⟨i, hi⟩ := List.getElem?_of_mem hq
      exact h.2 i q hi
  · intro h
    refine ⟨fun i j p q hi hj e => ?_, fun k q hk => h.2 q (List.mem_of_getElem? hk)⟩
    obtain ⟨hi', rfl⟩ := List.getElem?_eq_some_iff.mp hi
    obtain ⟨hj', rfl⟩ := List.getElem?_eq_some_iff.mp hj
    have hp := List.pairwise_iff_getElem.mp h.1
    rcases Nat.lt_trichotomy i j with q | q | q
    · exact absurd e (hp i j hi' hj' q)
    · exact q
    · exact absurd e.symm (hp j i hj' hi' q)
theorem zch_D {A : Nat → Prop} {L L' : List va_W} (is : List Nat) (hn : va_nd is = true) (hs : is.map (fun i => L[i]?) = L'.map some) (h : va_D A L.flatten) : va_D A L'.flatten := by
  rw [zD_iff] at h ⊢
  refine ⟨?_, fun q hq => h.2 q (zch_mem hs hq)⟩
  have key : ∀ (k : Nat) (c : va_W), L'[k]? = some c → ∃ i, is[k]? = some i ∧ L[i]? = some c := by
    intro k c hk
    have h1 : (is.map (fun i => L[i]?))[k]? = some (some c) := by rw [hs, List.getElem?_map, hk]; rfl
    rw [List.getElem?_map] at h1
    cases hi : is[k]? with
    | none => rw [hi] at h1; cases h1
    | some i => rw [hi] at h1; exact ⟨i, rfl, Option.some.inj h1⟩
  obtain ⟨h1, h2⟩ := List.pairwise_flatten.mp h.1
  refine List.pairwise_flatten.mpr ⟨fun c hc => ?_, ?_⟩
  · obtain ⟨k, hk⟩ := List.getElem?_of_mem hc
    obtain ⟨i, -, hi⟩ := key k c hk
    exact h1 c (List.mem_of_getElem? hi)
  · rw [List.pairwise_iff_getElem]
    intro a b ha hb hab x hx y hy e
    obtain ⟨i, hi, hi2⟩ := key a _ (List.getElem?_eq_getElem ha)
    obtain ⟨j, hj, hj2⟩ := key b _ (List.getElem?_eq_getElem hb)
    have hne : i ≠ j := fun z => by
      subst z
      have := va_nd_inj is hn a b i hi hj
      omega
    obtain ⟨hi', ei⟩ := List.getElem?_eq_some_iff.mp hi2
    obtain ⟨hj', ej⟩ := List.getElem?_eq_some_iff.mp hj2
    have hp := List.pairwise_iff_getElem.mp h2
    rcases Nat.lt_trichotomy i j with q | q | q
    · exact hp i j hi' hj' q x (by rw [ei]; exact hx) y (by rw [ej]; exact hy) e
    · exact hne q
    · exact hp j i hj' hi' q y (by rw [ej]; exact hy) x (by rw [ei]; exact hx) e.symm
theorem zap_C {wc wr : va_W} : (List.range wc.length).map (fun i => (wc ++ wr)[i]?) = wc.map some := by
  apply List.ext_getElem?
  intro k
  rw [List.getElem?_map, List.getElem?_map]
  by_cases h : k < wc.length
  · rw [List.getElem?_range h, List.getElem?_eq_getElem h]
    show some ((wc ++ wr)[k]?) = some (some wc[k])
    rw [List.getElem?_append_left h, List.getElem?_eq_getElem h]
  · rw [List.getElem?_eq_none (by rw [List.length_range]; omega), List.getElem?_eq_none (by omega)]
    rfl
theorem zap_R {wc wr : va_W} : ((List.range wr.length).map (fun k => wc.length + k)).map (fun i => (wc ++ wr)[i]?) = wr.map some := by
  apply List.ext_getElem?
  intro k
  rw [List.getElem?_map, List.getElem?_map, List.getElem?_map]
  by_cases h : k < wr.length
  · rw [List.getElem?_range h, List.getElem?_eq_getElem h]
    show some ((wc ++ wr)[wc.length + k]?) = some (some wr[k])
    rw [List.getElem?_append_right (by omega), Nat.add_sub_cancel_left, List.getElem?_eq_getElem h]
  · rw [List.getElem?_eq_none (by rw [List.length_range]; omega), List.getElem?_eq_none (by omega)]
    rfl
theorem va_nd_of : ∀ {l : List Nat}, l.Nodup → va_nd l = true
  | [], _ => rfl
  | a :: l, h => by
    have h2 := List.nodup_cons.mp h
    show (decide (a ∉ l) && va_nd l) = true
    rw [va_nd_of h2.2, decide_eq_true h2.1]
    rfl
theorem zap_nR {wc wr : va_W} : va_nd ((List.range wr.length).map (fun k => wc.length + k)) = true := va_nd_of (by
  rw [List.nodup_iff_pairwise_ne, List.pairwise_map]
  exact (List.nodup_iff_pairwise_ne.mp List.nodup_range).imp (fun h e => h (by omega)))
theorem zap_nC {wc : va_W} : va_nd (List.range wc.length) = true := va_nd_of List.nodup_range
theorem zap_d {wc wr : va_W} : ∀ i ∈ (List.range wr.length).map (fun k => wc.length + k), i ∉ List.range wc.length := by
  intro i hi hj
  obtain ⟨k, -, rfl⟩ := List.mem_map.mp hi
  have := List.mem_range.mp hj
  omega
theorem zap_Pc {D : va_G} {wc wr : va_W} {H : Heap} (h : va_P D vwCl (wc ++ wr) H) : va_P D vwCl wc H := zP_sub h _ zap_C
theorem zap_Dc {A : Nat → Prop} {wc wr : va_W} (h : va_D A (wc ++ wr)) : va_D A wc := h.sub _ zap_nC zap_C
theorem zap_Fc {A : Nat → Prop} {wc wr : va_W} {H0 H : Heap} {locs : List Loc} (hD : va_D A (wc ++ wr)) (hS : va_S A H0 H locs) (hA : ∀ q, H0.size ≤ q → A q) : ∀ q, va_A wc H.size q → A q := va_free hD hS hA _ zap_C
theorem zap_J {A : Nat → Prop} {D : va_G} {wc wr w1 : va_W} {H H1 : Heap} (hP : va_P D vwCl (wc ++ wr) H) (hD : va_D A (wc ++ wr)) (hk : ∀ q : Nat, q < H.size → ¬ va_A wc H.size q → H1[q]? = H[q]?) (hF : ∀ q, va_A wc H.size q → A q) (hP1 : va_P D vwCl w1 H1) (hD1 : va_D (va_A wc H.size) w1) : va_P D vwCl (wr ++ w1) H1 ∧ va_D A (wr ++ w1) :=
  va_join hP hD _ _ zap_C zap_R zap_nR zap_d hk hF hP1 hD1
def zCut (wc : va_W) (L Lc Lr : List va_W) (is : List Nat) : Prop := wc = Lc.flatten ∧ is.map (fun i => L[i]?) = (Lc ++ Lr).map some ∧ va_nd is = true
def zBack {S : Type} (ws' : S → va_W) (Lr : List va_W) (Lc' Lf : S → List va_W) (isF : List Nat) : Prop := (∀ u, ws' u = (Lc' u).flatten) ∧ (∀ u, isF.map (fun i => (Lr ++ Lc' u)[i]?) = (Lf u).map some) ∧ va_nd isF = true
theorem zCut.P {D : va_G} {wc : va_W} {L Lc Lr : List va_W} {is : List Nat} {H : Heap} (h : zCut wc L Lc Lr is) (hP : va_P D vwCl L.flatten H) : va_P D vwCl (wc ++ Lr.flatten) H := by
  have h1 := zch_P is h.2.1 hP
  rw [List.flatten_append, ← h.1] at h1
  exact h1
theorem zCut.D {A : Nat → Prop} {wc : va_W} {L Lc Lr : List va_W} {is : List Nat} (h : zCut wc L Lc Lr is) (hD : va_D A L.flatten) : va_D A (wc ++ Lr.flatten) := by
  have h1 := zch_D is h.2.2 h.2.1 hD
  rw [List.flatten_append, ← h.1] at h1
  exact h1
theorem zBack.P {S : Type} {D : va_G} {ws' : S → va_W} {Lr : List va_W} {Lc' Lf : S → List va_W} {isF : List Nat} {H : Heap} (h : zBack ws' Lr Lc' Lf isF) {u : S} (hP : va_P D vwCl (Lr.flatten ++ ws' u) H) : va_P D vwCl (Lf u).flatten H := by
  rw [h.1 u, ← List.flatten_append] at hP
  exact zch_P isF (h.2.1 u) hP
theorem zBack.D {S : Type} {A : Nat → Prop} {ws' : S → va_W} {Lr : List va_W} {Lc' Lf : S → List va_W} {isF : List Nat} (h : zBack ws' Lr Lc' Lf isF) {u : S} (hD : va_D A (Lr.flatten ++ ws' u)) : va_D A (Lf u).flatten := by
  rw [h.1 u, ← List.flatten_append] at hD
  exact zch_D isF h.2.2 (h.2.1 u) hD
section ZCH
variable {p : Program} {l : Launch} {e : Env} {R : Room} {s : State} {m : MethodId} {args : Array Value} {below : List Frame} {meth : Method} {c : Code} {H : Heap} {locs : List Loc} {cells slots : Nat} {Q : State → Prop}
variable {cc : ByteArray} {pc : Nat} {ls : Array Slot} {rest st0 : List Value} {D : va_G} {tA : Nat → ClassId} {wc : va_W} {A : Nat → Prop} {H0 : Heap}
variable {y : MethodName} {bytes : ByteArray} {maxL nL mc ms n index : Nat} {ret : Option FieldType} {w Ts : List Cond} {rm : Room} {own C : String} {b : Addr} {As : List Value}
theorem zz_callVi_ch {S : Type} {post : Int → S → Prop} {ws' : S → va_W} {L Lc Lr : List va_W} {Lc' Lf : S → List va_W} {is isF : List Nat} (hfix : CallFix p m c cc nL s args Ts own) (hM : zMi l y w rm D tA (.ref b :: As) wc H.size post ws' mc ms) (cw : CallW R s args own C index y bytes maxL ret w rm mc ms n) (hK : zK D tA s) (hP : va_P D vwCl L.flatten H) (hD : va_D A L.flatten) (hS : va_S A H0 H locs) (hA : ∀ q, H0.size ≤ q → A q) (hcut : zCut wc L Lc Lr is) (hback : zBack ws' Lr Lc' Lf isF) {ci q0 : Nat} {cq : vw_C} {fs : List Value} (hc : vwCl[ci]? = some cq) (hcq : cq.1 = C) (he : wc[q0]? = some (b, .inr (ci, fs)))
    (hst : st0 = As.reverse ++ .ref b :: rest) (hnn : As.length = n) (hsize : ls.size = nL) (hroom : (rest.map fun v => v.category).sum ≤ 8) (hd : decode cc pc = .ok (.invokevirtual index, 3)) (hf : cells + mc ≤ R.cells ∧ slots + ms ≤ R.slots)
    (kk : ∀ (z : Int) (u : S) (H1 : Heap) (locs1 : List Loc), post z u → va_P D vwCl (Lf u).flatten H1 → va_D A (Lf u).flatten → va_S A H0 H1 locs1 → W p l e R s m args below meth c H1 locs1 (cells + mc) (slots + ms) Q (F0 m (pc + 3) ls (.int (iI z) :: rest))) : W p l e R s m args below meth c H locs cells slots Q (F0 m pc ls st0) := by
  have hP0 := hcut.P hP
  have hD0 := hcut.D hD
  have hPc := zap_Pc hP0
  have hDc := zap_Dc hD0
  have hFc := zap_Fc hD0 hS hA
  refine va_calli (va_runV hfix hM cw ⟨fun a U g mk => zPc_calling a U g mk, ?_, ?_⟩ rfl hnn hsize hst (lv_room hroom) hd hf) hS (fun q _ h => hFc q h) hFc ?_
  · have h := va_recv hK hPc hc he
    rw [hcq] at h
    exact h
  · intro U hU hW
    exact ⟨rfl, by rw [hU], by rw [hU]; exact hPc, va_K.moved hW.alike hK, hDc.weaken (fun _ _ _ _ => trivial)⟩
  · intro r u t H1 locs1 ht hvm hw hB hz1 hk1 hS1
    obtain ⟨hP1, hK1, hD1⟩ := hB
    obtain ⟨hr, hp⟩ := hw
    subst hr
    rw [ht] at hP1
    obtain ⟨hP2, hD2⟩ := zap_J hP0 hD0 hk1 hFc hP1 hD1
    exact kk u.1 u.2 H1 locs1 hp (hback.P hP2) (hback.D hD2) hS1
theorem zz_callVv_ch {S : Type} {post : S → Prop} {ws' : S → va_W} {L Lc Lr : List va_W} {Lc' Lf : S → List va_W} {is isF : List Nat} (hfix : CallFix p m c cc nL s args Ts own) (hM : zMv l y w rm D tA (.ref b :: As) wc H.size post ws' mc ms) (cw : CallW R s args own C index y bytes maxL ret w rm mc ms n) (hK : zK D tA s) (hP : va_P D vwCl L.flatten H) (hD : va_D A L.flatten) (hS : va_S A H0 H locs) (hA : ∀ q, H0.size ≤ q → A q) (hcut : zCut wc L Lc Lr is) (hback : zBack ws' Lr Lc' Lf isF) {ci q0 : Nat} {cq : vw_C} {fs : List Value} (hc : vwCl[ci]? = some cq) (hcq : cq.1 = C) (he : wc[q0]? = some (b, .inr (ci, fs)))
    (hst : st0 = As.reverse ++ .ref b :: rest) (hnn : As.length = n) (hsize : ls.size = nL) (hroom : (rest.map fun v => v.category).sum ≤ 8) (hd : decode cc pc = .ok (.invokevirtual index, 3)) (hf : cells + mc ≤ R.cells ∧ slots + ms ≤ R.slots)
    (kk : ∀ (u : S) (H1 : Heap) (locs1 : List Loc), post u → va_P D vwCl (Lf u).flatten H1 → va_D A (Lf u).flatten → va_S A H0 H1 locs1 → W p l e R s m args below meth c H1 locs1 (cells + mc) (slots + ms) Q (F0 m (pc + 3) ls (rest))) : W p l e R s m args below meth c H locs cells slots Q (F0 m pc ls st0) := by
  have hP0 := hcut.P hP
  have hD0 := hcut.D hD
  have hPc := zap_Pc hP0
  have hDc := zap_Dc hD0
  have hFc := zap_Fc hD0 hS hA
  refine va_callv (va_runV hfix hM cw ⟨fun a U g mk => zPc_calling a U g mk, ?_, ?_⟩ rfl hnn hsize hst (lv_room hroom) hd hf) hS (fun q _ h => hFc q h) hFc ?_
  · have h := va_recv hK hPc hc he
    rw [hcq] at h
    exact h
  · intro U hU hW
    exact ⟨rfl, by rw [hU], by rw [hU]; exact hPc, va_K.moved hW.alike hK, hDc.weaken (fun _ _ _ _ => trivial)⟩
  · intro u t H1 locs1 ht hvm hp hB hz1 hk1 hS1
    obtain ⟨hP1, hK1, hD1⟩ := hB
    rw [ht] at hP1
    obtain ⟨hP2, hD2⟩ := zap_J hP0 hD0 hk1 hFc hP1 hD1
    exact kk u H1 locs1 hp (hback.P hP2) (hback.D hD2) hS1
theorem zz_callVl_ch {S : Type} {post : Int → S → Prop} {ws' : S → va_W} {L Lc Lr : List va_W} {Lc' Lf : S → List va_W} {is isF : List Nat} (hfix : CallFix p m c cc nL s args Ts own) (hM : zMl l y w rm D tA (.ref b :: As) wc H.size post ws' mc ms) (cw : CallW R s args own C index y bytes maxL ret w rm mc ms n) (hK : zK D tA s) (hP : va_P D vwCl L.flatten H) (hD : va_D A L.flatten) (hS : va_S A H0 H locs) (hA : ∀ q, H0.size ≤ q → A q) (hcut : zCut wc L Lc Lr is) (hback : zBack ws' Lr Lc' Lf isF) {ci q0 : Nat} {cq : vw_C} {fs : List Value} (hc : vwCl[ci]? = some cq) (hcq : cq.1 = C) (he : wc[q0]? = some (b, .inr (ci, fs)))
    (hst : st0 = As.reverse ++ .ref b :: rest) (hnn : As.length = n) (hsize : ls.size = nL) (hroom : (rest.map fun v => v.category).sum ≤ 8) (hd : decode cc pc = .ok (.invokevirtual index, 3)) (hf : cells + mc ≤ R.cells ∧ slots + ms ≤ R.slots)
    (kk : ∀ (z : Int) (u : S) (H1 : Heap) (locs1 : List Loc), post z u → va_P D vwCl (Lf u).flatten H1 → va_D A (Lf u).flatten → va_S A H0 H1 locs1 → W p l e R s m args below meth c H1 locs1 (cells + mc) (slots + ms) Q (F0 m (pc + 3) ls (.long (lI z) :: rest))) : W p l e R s m args below meth c H locs cells slots Q (F0 m pc ls st0) := by
  have hP0 := hcut.P hP
  have hD0 := hcut.D hD
  have hPc := zap_Pc hP0
  have hDc := zap_Dc hD0
  have hFc := zap_Fc hD0 hS hA
  refine va_calll (va_runV hfix hM cw ⟨fun a U g mk => zPc_calling a U g mk, ?_, ?_⟩ rfl hnn hsize hst (lv_room hroom) hd hf) hS (fun q _ h => hFc q h) hFc ?_
  · have h := va_recv hK hPc hc he
    rw [hcq] at h
    exact h
  · intro U hU hW
    exact ⟨rfl, by rw [hU], by rw [hU]; exact hPc, va_K.moved hW.alike hK, hDc.weaken (fun _ _ _ _ => trivial)⟩
  · intro r u t H1 locs1 ht hvm hw hB hz1 hk1 hS1
    obtain ⟨hP1, hK1, hD1⟩ := hB
    obtain ⟨hr, hp⟩ := hw
    subst hr
    rw [ht] at hP1
    obtain ⟨hP2, hD2⟩ := zap_J hP0 hD0 hk1 hFc hP1 hD1
    exact kk u.1 u.2 H1 locs1 hp (hback.P hP2) (hback.D hD2) hS1
theorem zz_callSi_ch {S : Type} {post : Int → S → Prop} {ws' : S → va_W} {L Lc Lr : List va_W} {Lc' Lf : S → List va_W} {is isF : List Nat} (hfix : CallFix p m c cc nL s args Ts own) (hM : zMi l y w rm D tA (As) wc H.size post ws' mc ms) (cw : CallB R s args own index y bytes maxL ret w rm mc ms n ∧ (Cond.static y).before args s = true) (hK : zK D tA s) (hP : va_P D vwCl L.flatten H) (hD : va_D A L.flatten) (hS : va_S A H0 H locs) (hA : ∀ q, H0.size ≤ q → A q) (hcut : zCut wc L Lc Lr is) (hback : zBack ws' Lr Lc' Lf isF) 
    (hst : st0 = As.reverse ++ rest) (hnn : As.length = n) (hsize : ls.size = nL) (hroom : (rest.map fun v => v.category).sum ≤ 8) (hd : decode cc pc = .ok (.invokestatic index, 3)) (hf : cells + mc ≤ R.cells ∧ slots + ms ≤ R.slots)
    (kk : ∀ (z : Int) (u : S) (H1 : Heap) (locs1 : List Loc), post z u → va_P D vwCl (Lf u).flatten H1 → va_D A (Lf u).flatten → va_S A H0 H1 locs1 → W p l e R s m args below meth c H1 locs1 (cells + mc) (slots + ms) Q (F0 m (pc + 3) ls (.int (iI z) :: rest))) : W p l e R s m args below meth c H locs cells slots Q (F0 m pc ls st0) := by
  have hP0 := hcut.P hP
  have hD0 := hcut.D hD
  have hPc := zap_Pc hP0
  have hDc := zap_Dc hD0
  have hFc := zap_Fc hD0 hS hA
  refine va_calli (va_runS hfix hM cw ⟨fun a U g mk => zPc_calling a U g mk, ?_⟩ rfl hnn hsize hst (lv_room hroom) hd hf) hS (fun q _ h => hFc q h) hFc ?_
  · intro U hU hW
    exact ⟨rfl, by rw [hU], by rw [hU]; exact hPc, va_K.moved hW.alike hK, hDc.weaken (fun _ _ _ _ => trivial)⟩
  · intro r u t H1 locs1 ht hvm hw hB hz1 hk1 hS1
    obtain ⟨hP1, hK1, hD1⟩ := hB
    obtain ⟨hr, hp⟩ := hw
    subst hr
    rw [ht] at hP1
    obtain ⟨hP2, hD2⟩ := zap_J hP0 hD0 hk1 hFc hP1 hD1
    exact kk u.1 u.2 H1 locs1 hp (hback.P hP2) (hback.D hD2) hS1
end ZCH
