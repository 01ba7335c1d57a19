/-! ===== p57: texts in the making; questions that are not refused ===== -/
abbrev bSB (tA : Nat → ClassId) (cp : Nat) (a0 a1 : Nat) (lml : Int) (f : Int → Int) (tx : List Int) : va_W := bLinN tA cp a0 a1 (wrL f 0 tx) lml ((tx.length : Nat) : Int)
theorem wrL_ap (f : Int → Int) (tx t2 : List Int) : wrL (wrL f 0 tx) ((tx.length : Nat) : Int) t2 = wrL f 0 (tx ++ t2) := by
  have h := wrL_cat f 0 tx t2
  rw [Int.zero_add] at h
  exact h
theorem len_ap (tx t2 : List Int) : ((tx.length : Nat) : Int) + ((t2.length : Nat) : Int) = (((tx ++ t2).length : Nat) : Int) := by
  rw [List.length_append]; omega
theorem wrL_tF {f : Int → Int} {tx : List Int} (j : Int) (h0 : 0 ≤ j) (h1 : j < ((tx.length : Nat) : Int)) : wrL f 0 tx j = tF tx j := by
  rw [wrL_in (by omega), Int.sub_zero]
  rfl
theorem c_apI (l : Launch) (K : Nat → Nat) (D : va_G) (tA : Nat → ClassId) (a0 a1 : Nat) (sz : Nat) (lml : Int) (f : Int → Int) (tx : List Int) (x : Int) (r_x : -2147483648 ≤ x ∧ x ≤ 2147483647) (hx9 : 0 ≤ x ∧ x ≤ 999999999) (hlc : ((tx.length : Nat) : Int) + dgN x ≤ 16) : zCr l yJ4_append_bf812 wsJ4_append_bf812 ({ frames := 2, cells := 0, slots := 0, locals := 49 }) K D tA [.ref a0, .int (iI x)] a0 (bSB tA 16 a0 a1 lml f tx) sz (fun (u : Unit) => True) (fun (u : Unit) => bSB tA 16 a0 a1 lml f (tx ++ dgL x)) 0 0 := by
  have h := c_J4_append_bf812 l K D tA a0 a1 sz (wrL f 0 tx) lml ((tx.length : Nat) : Int) x r_x hx9 (by omega)
  unfold dgN at h
  rw [wrL_ap, len_ap] at h
  exact h
theorem c_apK (l : Launch) (K : Nat → Nat) (D : va_G) (tA : Nat → ClassId) (a0 a1 : Nat) (sz : Nat) (lml : Int) (f : Int → Int) (tx : List Int) (cp : Nat) (si : Nat) (hsi : si < 24) (hcp : cp ≤ 64) (hlc : tx.length + sLn si ≤ cp) : zCr l yJ4_append_15ec4 wsJ4_append_15ec4 ({ frames := 4, cells := 0, slots := 0, locals := 107 }) K D tA [.ref a0, .ref (K (100 + si))] a0 (bSB tA cp a0 a1 lml f tx) sz (fun (u : Unit) => True) (fun (u : Unit) => bSB tA cp a0 a1 lml f (tx ++ sTx.getD si [])) 0 0 := by
  have h := c_J4_append_15ec4_K l K D tA a0 a1 sz (wrL f 0 tx) lml ((tx.length : Nat) : Int) cp si hsi hcp (by omega)
  rw [wrL_ap, show ((sLn si : Nat) : Int) = (((sTx.getD si []).length : Nat) : Int) from rfl, len_ap] at h
  exact h
theorem c_apS (l : Launch) (K : Nat → Nat) (D : va_G) (tA : Nat → ClassId) (a0 a1 d0 d1 : Nat) (sz : Nat) (lml : Int) (f : Int → Int) (tx : List Int) (cp : Nat) (t2 : List Int) (hcp : cp ≤ 64) (htx : ∀ v ∈ t2, 0 ≤ v ∧ v ≤ 127) (hsn : t2.length ≤ 64) (hlc : tx.length + t2.length ≤ cp) : zCr l yJ4_append_15ec4 wsJ4_append_15ec4 ({ frames := 4, cells := 0, slots := 0, locals := 107 }) K D tA [.ref a0, .ref d0] a0 (bSB tA cp a0 a1 lml f tx ++ bStr tA d0 d1 t2) sz (fun (u : Unit) => True) (fun (u : Unit) => bSB tA cp a0 a1 lml f (tx ++ t2) ++ bStr tA d0 d1 t2) 0 0 := by
  have h := c_J4_append_15ec4_S l K D tA a0 a1 d0 d1 sz (wrL f 0 tx) lml ((tx.length : Nat) : Int) t2 cp hcp htx hsn (by omega)
  rw [wrL_ap, len_ap] at h
  exact h
theorem c_toS (l : Launch) (K : Nat → Nat) (D : va_G) (tA : Nat → ClassId) (a0 a1 : Nat) (sz : Nat) (lml : Int) (f : Int → Int) (tx : List Int) (cp : Nat) (htx : ∀ v ∈ tx, 0 ≤ v ∧ v ≤ 127) (hcp : cp ≤ 64) (hle : tx.length < cp) : zAr l yJ4_toString_0e30d wsJ4_toString_0e30d ({ frames := 5, cells := 2, slots := 68, locals := 131 }) K D tA [.ref a0] (bSB tA cp a0 a1 lml f tx) sz (fun (u : Nat × Nat) => True) (fun (u : Nat × Nat) => u.1) (fun (u : Nat × Nat) => bSB tA cp a0 a1 lml f tx ++ bStr tA u.1 u.2 tx) 2 68 :=
  c_J4_toString_0e30d l K D tA a0 a1 sz cp (wrL f 0 tx) lml ((tx.length : Nat) : Int) tx htx (by omega) hcp (fun j h0 h1 => wrL_tF j h0 h1) hle rfl
theorem dgN_8le {x : Int} (h0 : 0 ≤ x) (h2 : x ≤ 99999999) : dgN x ≤ 8 := by
  by_cases a : x ≤ 9999999
  · by_cases b : x ≤ 999999
    · by_cases c : x ≤ 99999
      · by_cases d : x ≤ 9999
        · by_cases e : x ≤ 999
          · by_cases f : x ≤ 99
            · have := dgN_le2 h0 f; omega
            · rw [dgN_3 (by omega) e]; decide
          · rw [dgN_4 (by omega) d]; decide
        · rw [dgN_5 (by omega) c]; decide
      · rw [dgN_6 (by omega) b]; decide
    · rw [dgN_7 (by omega) a]; decide
  · rw [dgN_8 (by omega) h2]; decide
theorem zX_no {S SX : Type} {l : Launch} {y : MethodName} {w : List Cond} {rm : Room} {K : Nat → Nat} {D : va_G} {tA : Nat → ClassId} {av : List Value} {ws : va_W} {sz mc ms : Nat} {post : Int → S → Prop} {ws' : S → va_W} {px : String → SX → Prop} {wx : SX → va_W} (h : zXi l y w rm K D tA av ws sz post ws' px wx mc ms) (hno : ∀ E u, ¬ px E u) : zHi l y w rm K D tA av ws sz post ws' mc ms := by
  unfold zXi vx_Met at h
  unfold zHi Met
  refine MetFree.mono h (fun a s q => q) (fun _ _ _ _ _ q => q) ?_
  rintro a s o t ⟨ha, hq, hZ⟩ (h1 | ⟨q9, ho, E, ce, Lo, ⟨u, hpx1, h2⟩, h3⟩)
  · exact h1
  · exact absurd hpx1 (hno _ _)
theorem zP_hd {D : va_G} {a : va_W} {L : List va_W} {H : Heap} (h : va_P D vwCl (a :: L).flatten H) : va_P D vwCl [a].flatten H := by
  have h : va_P D vwCl (a ++ L.flatten) H := h
  exact zP_i (zap_Pc h)
theorem zD_hd {A : Nat → Prop} {a : va_W} {L : List va_W} (h : va_D A (a :: L).flatten) : va_D A [a].flatten := by
  have h : va_D A (a ++ L.flatten) := h
  exact zD_i (zap_Dc h)
section ZLC
variable {p : Program} {l : Launch} {e : Env} {R : Room} {s : State} {m : MethodId} {args : Array Value} {below : List Frame} {meth : Method} {c : Code} {H : Heap} {locs : List Loc} {cells slots : Nat} {Q : State → Prop}
variable {cc : ByteArray} {pc : Nat} {ls : Array Slot} {rest st0 : List Value} {K : Nat → Nat} {D : va_G} {tA : Nat → ClassId} {ws wc : va_W} {A : Nat → Prop}
variable {y : MethodName} {bytes : ByteArray} {maxL nL mc ms n index index2 : Nat} {ret : Option FieldType} {w Ts : List Cond} {rm : Room} {own C : String} {b : Addr} {As : List Value}
theorem zc_callVr_ch {S : Type} {rv : Nat} {post : S → Prop} {ws' : S → va_W} {L Lc Lr : List va_W} {Lc' Lf : S → List va_W} {is isF : List Nat} (hfix : CallFix p m c cc nL s args Ts own) (hM : zCr l y w rm K D tA (.ref b :: As) rv wc H.size post ws' mc ms) (cw : CallW R s args own C index y bytes maxL ret w rm mc ms n) (hK : zK D tA s) (hP : va_P D vwCl L.flatten H) (hD : va_D A L.flatten) (hS : va_S A s.heap H locs) (hA : ∀ q, s.heap.size ≤ q → A q) (hCn : zCn K A s) (hcut : zCut wc L Lc Lr is) (hback : zBack ws' Lr Lc' Lf isF) {ci q0 : Nat} {cq : vw_C} {fs : List Value} (hc : vwCl[ci]? = some cq) (hcq : cq.1 = C) (he : wc[q0]? = some (b, .inr (ci, fs)))
    (hst : st0 = As.reverse ++ .ref b :: rest) (hnn : As.length = n) (hsize : ls.size = nL) (hroom : (rest.map fun v => v.category).sum ≤ 8) (hd : decode cc pc = .ok (.invokevirtual index, 3)) (hf : cells + mc ≤ R.cells ∧ slots + ms ≤ R.slots)
    (kk : ∀ (u : S) (H1 : Heap) (locs1 : List Loc), post u → va_P D vwCl (Lf u).flatten H1 → va_D A (Lf u).flatten → va_S A s.heap H1 locs1 → W p l e R s m args below meth c H1 locs1 (cells + mc) (slots + ms) Q (F0 m (pc + 3) ls (.ref rv :: rest))) : W p l e R s m args below meth c H locs cells slots Q (F0 m pc ls st0) := by
  have hP0 := hcut.P hP
  have hD0 := hcut.D hD
  have hPc := zap_Pc hP0
  have hDc := zap_Dc hD0
  have hFc := zap_Fc hD0 hS hA
  refine va_callr (va_runV hfix hM cw ⟨fun a U g mk => zPcC_calling a U g mk, ?_, ?_⟩ rfl hnn hsize hst (lv_room hroom) hd hf) hS (fun q _ h => hFc q h) hFc ?_
  · have h := va_recv hK hPc hc he
    rw [hcq] at h
    exact h
  · intro U hU hW
    exact ⟨rfl, ⟨by rw [hU], by rw [hU]; exact hPc, va_K.moved hW.alike hK, hDc.weaken (fun _ _ _ _ => trivial)⟩, hCn.at hS hFc hU hW⟩
  · intro u ra t H1 locs1 ht hvm hp hB hz1 hk1 hS1
    obtain ⟨hra, hP1, hK1, hD1⟩ := hB
    subst hra
    rw [ht] at hP1
    obtain ⟨hP2, hD2⟩ := zap_J hP0 hD0 hk1 hFc hP1 hD1
    exact kk u H1 locs1 hp (hback.P hP2) (hback.D hD2) hS1
theorem zc_callVA_ch {S : Type} {rv : S → Nat} {post : S → Prop} {ws' : S → va_W} {L Lc Lr : List va_W} {Lc' Lf : S → List va_W} {is isF : List Nat} (hfix : CallFix p m c cc nL s args Ts own) (hM : zAr l y w rm K D tA (.ref b :: As) wc H.size post rv ws' mc ms) (cw : CallW R s args own C index y bytes maxL ret w rm mc ms n) (hK : zK D tA s) (hP : va_P D vwCl L.flatten H) (hD : va_D A L.flatten) (hS : va_S A s.heap H locs) (hA : ∀ q, s.heap.size ≤ q → A q) (hCn : zCn K A s) (hcut : zCut wc L Lc Lr is) (hback : zBack ws' Lr Lc' Lf isF) {ci q0 : Nat} {cq : vw_C} {fs : List Value} (hc : vwCl[ci]? = some cq) (hcq : cq.1 = C) (he : wc[q0]? = some (b, .inr (ci, fs)))
    (hst : st0 = As.reverse ++ .ref b :: rest) (hnn : As.length = n) (hsize : ls.size = nL) (hroom : (rest.map fun v => v.category).sum ≤ 8) (hd : decode cc pc = .ok (.invokevirtual index, 3)) (hf : cells + mc ≤ R.cells ∧ slots + ms ≤ R.slots)
    (kk : ∀ (u : S) (H1 : Heap) (locs1 : List Loc), post u → va_P D vwCl (Lf u).flatten H1 → va_D A (Lf u).flatten → va_S A s.heap H1 locs1 → W p l e R s m args below meth c H1 locs1 (cells + mc) (slots + ms) Q (F0 m (pc + 3) ls (.ref (rv u) :: rest))) : W p l e R s m args below meth c H locs cells slots Q (F0 m pc ls st0) := by
  have hP0 := hcut.P hP
  have hD0 := hcut.D hD
  have hPc := zap_Pc hP0
  have hDc := zap_Dc hD0
  have hFc := zap_Fc hD0 hS hA
  refine va_callr (va_runV hfix hM cw ⟨fun a U g mk => zPcC_calling a U g mk, ?_, ?_⟩ rfl hnn hsize hst (lv_room hroom) hd hf) hS (fun q _ h => hFc q h) hFc ?_
  · have h := va_recv hK hPc hc he
    rw [hcq] at h
    exact h
  · intro U hU hW
    exact ⟨rfl, ⟨by rw [hU], by rw [hU]; exact hPc, va_K.moved hW.alike hK, hDc.weaken (fun _ _ _ _ => trivial)⟩, hCn.at hS hFc hU hW⟩
  · intro u ra t H1 locs1 ht hvm hp hB hz1 hk1 hS1
    obtain ⟨hra, hP1, hK1, hD1⟩ := hB
    subst hra
    rw [ht] at hP1
    obtain ⟨hP2, hD2⟩ := zap_J hP0 hD0 hk1 hFc hP1 hD1
    exact kk u H1 locs1 hp (hback.P hP2) (hback.D hD2) hS1
theorem zt_new {S : Type} {post : S → Prop} {ws' : Nat → S → va_W} {L : List va_W} (hfix : CallFix p m c cc nL s args Ts own) {T : u_T} {N ci : Nat} {fs : List Value} (hin : ∀ w ∈ u_ws C T N, w ∈ Ts) (ty : Nat → FieldType) (hty : ∀ k, k < N → parseFieldDescriptor (T k).2.2.1 = some (ty k)) (hcl : (Cond.classLink own index C).before args s = true) (hinst : (Cond.instantiable C N).before args s = true) (hini : (Cond.initialized C).before args s = true) (hc : vwCl[ci]? = some (C, T, N)) (hfs : ∀ j, j < N → defaultValue (ty j) = vp_V fs j)
    (hM : ∀ (q sz : Nat), zNv l y w rm K D tA [.ref q] [(q, .inr (ci, fs))] sz post (ws' q) mc ms) (cw : CallB R s args own index2 y bytes maxL none w rm mc ms 0 ∧ y.name = "<init>" ∧ (Cond.instanceMethod y).before args s = true)
    (hK : zK D tA s) (hP : va_P D vwCl L.flatten H) (hD : va_D A L.flatten) (hS : va_S A s.heap H locs) (hA : ∀ q, s.heap.size ≤ q → A q) (hCn : zCn K A s) (hsize : ls.size = nL) (hd1 : decode cc pc = .ok (.new index, 3)) (hd2 : decode cc (pc + 3) = .ok (.dup, 1)) (hd3 : decode cc (pc + 3 + 1) = .ok (.invokespecial index2, 3))
    (hf : cells + 1 + mc ≤ R.cells ∧ slots + N + ms ≤ R.slots) (hroom : (rest.map fun v => v.category).sum ≤ 7)
    (kk : ∀ (q : Nat) (u : S) (H1 : Heap) (locs1 : List Loc), post u → va_P D vwCl (L ++ [ws' q u]).flatten H1 → va_D A (L ++ [ws' q u]).flatten → va_S A s.heap H1 locs1 → W p l e R s m args below meth c H1 locs1 (cells + 1 + mc) (slots + N + ms) Q (F0 m (pc + 3 + 1 + 3) ls (.ref q :: rest))) : W p l e R s m args below meth c H locs cells slots Q (F0 m pc ls rest) := by
  have hfl : ∀ v : va_W, (L ++ [v]).flatten = L.flatten ++ v := fun v => by
    rw [List.flatten_append]
    show L.flatten ++ (v ++ []) = L.flatten ++ v
    rw [List.append_nil]
  exact zn_new hfix hin ty hty hcl hinst hini hc hfs hM cw hK hP hD hS hA hCn hCn.2.2.2 hsize hd1 hd2 hd3 hf hroom (fun q u H1 locs1 hp hP1 hD1 hS1 => kk q u H1 locs1 hp (by rw [hfl]; exact hP1) (by rw [hfl]; exact hD1) hS1)
end ZLC
theorem q_X10_startOf_t {l : Launch} (hst : l.stackTraces = false) {K : Nat → Nat} {D : va_G} {tA : Nat → ClassId} {ad : Nat → Nat} {sz : Nat} {B N : Int} {g : GL} (hB : (0 ≤ B ∧ B ≤ 100000000) ∧ (0 ≤ N ∧ N ≤ 100000)) (hok : OKG B N g) (ship : Int) (r_ship : -2147483648 ≤ ship ∧ ship ≤ 2147483647) (hin : 0 ≤ ship ∧ ship < GL_v g 7 0) : zHi l yX10_startOf wsX10_startOf ({ frames := 7, cells := 1, slots := 6, locals := 111 }) K D tA [.ref (ad 0), .int (iI ship)] (zW tA K ad g) sz (fun (z : Int) (g' : GL) => RDO B N g g' ∧ (((0 ≤ ship ∧ ship < (GL_v g 7 0)) ∧ z = (GL_v g 8) ship))) (fun g' => zW tA K ad g') 1 6 :=
  zX_no (q_X10_startOf hst hB hok ship r_ship) (fun E u h => h.2.2.2 hin)
theorem q_X10_goalOf_t {l : Launch} (hst : l.stackTraces = false) {K : Nat → Nat} {D : va_G} {tA : Nat → ClassId} {ad : Nat → Nat} {sz : Nat} {B N : Int} {g : GL} (hB : (0 ≤ B ∧ B ≤ 100000000) ∧ (0 ≤ N ∧ N ≤ 100000)) (hok : OKG B N g) (ship : Int) (r_ship : -2147483648 ≤ ship ∧ ship ≤ 2147483647) (hin : 0 ≤ ship ∧ ship < GL_v g 7 0) : zHi l yX10_goalOf wsX10_goalOf ({ frames := 7, cells := 1, slots := 6, locals := 111 }) K D tA [.ref (ad 0), .int (iI ship)] (zW tA K ad g) sz (fun (z : Int) (g' : GL) => RDO B N g g' ∧ (((0 ≤ ship ∧ ship < (GL_v g 7 0)) ∧ z = (GL_v g 9) ship))) (fun g' => zW tA K ad g') 1 6 :=
  zX_no (q_X10_goalOf hst hB hok ship r_ship) (fun E u h => h.2.2.2 hin)
theorem q_X10_moneyOf_t {l : Launch} (hst : l.stackTraces = false) {K : Nat → Nat} {D : va_G} {tA : Nat → ClassId} {ad : Nat → Nat} {sz : Nat} {B N : Int} {g : GL} (hB : (0 ≤ B ∧ B ≤ 100000000) ∧ (0 ≤ N ∧ N ≤ 100000)) (hok : OKG B N g) (ship : Int) (r_ship : -2147483648 ≤ ship ∧ ship ≤ 2147483647) (hin : 0 ≤ ship ∧ ship < GL_v g 7 0) : zHi l yX10_moneyOf wsX10_moneyOf ({ frames := 7, cells := 1, slots := 6, locals := 111 }) K D tA [.ref (ad 0), .int (iI ship)] (zW tA K ad g) sz (fun (z : Int) (g' : GL) => RDO B N g g' ∧ (((0 ≤ ship ∧ ship < (GL_v g 7 0)) ∧ z = (GL_v g 10) ship))) (fun g' => zW tA K ad g') 1 6 :=
  zX_no (q_X10_moneyOf hst hB hok ship r_ship) (fun E u h => h.2.2.2 hin)
theorem q_X10_litNightsOf_t {l : Launch} (hst : l.stackTraces = false) {K : Nat → Nat} {D : va_G} {tA : Nat → ClassId} {ad : Nat → Nat} {sz : Nat} {B N : Int} {g : GL} (hB : (0 ≤ B ∧ B ≤ 100000000) ∧ (0 ≤ N ∧ N ≤ 100000)) (hok : OKG B N g) (ship : Int) (r_ship : -2147483648 ≤ ship ∧ ship ≤ 2147483647) (hin : 0 ≤ ship ∧ ship < GL_v g 7 0) : zHi l yX10_litNightsOf wsX10_litNightsOf ({ frames := 7, cells := 1, slots := 6, locals := 111 }) K D tA [.ref (ad 0), .int (iI ship)] (zW tA K ad g) sz (fun (z : Int) (g' : GL) => RDO B N g g' ∧ (((0 ≤ ship ∧ ship < (GL_v g 7 0)) ∧ z = (GL_v g 11) ship))) (fun g' => zW tA K ad g') 1 6 :=
  zX_no (q_X10_litNightsOf hst hB hok ship r_ship) (fun E u h => h.2.2.2 hin)
theorem q_X10_darkNightsOf_t {l : Launch} (hst : l.stackTraces = false) {K : Nat → Nat} {D : va_G} {tA : Nat → ClassId} {ad : Nat → Nat} {sz : Nat} {B N : Int} {g : GL} (hB : (0 ≤ B ∧ B ≤ 100000000) ∧ (0 ≤ N ∧ N ≤ 100000)) (hok : OKG B N g) (ship : Int) (r_ship : -2147483648 ≤ ship ∧ ship ≤ 2147483647) (hin : 0 ≤ ship ∧ ship < GL_v g 7 0) : zHi l yX10_darkNightsOf wsX10_darkNightsOf ({ frames := 7, cells := 1, slots := 6, locals := 111 }) K D tA [.ref (ad 0), .int (iI ship)] (zW tA K ad g) sz (fun (z : Int) (g' : GL) => RDO B N g g' ∧ (((0 ≤ ship ∧ ship < (GL_v g 7 0)) ∧ z = (GL_v g 12) ship))) (fun g' => zW tA K ad g') 1 6 :=
  zX_no (q_X10_darkNightsOf hst hB hok ship r_ship) (fun E u h => h.2.2.2 hin)
theorem q_X10_lowerPortAt_t {l : Launch} (hst : l.stackTraces = false) {K : Nat → Nat} {D : va_G} {tA : Nat → ClassId} {ad : Nat → Nat} {sz : Nat} {B N : Int} {g : GL} (hB : (0 ≤ B ∧ B ≤ 100000000) ∧ (0 ≤ N ∧ N ≤ 100000)) (hok : OKG B N g) (pos : Int) (r_pos : -2147483648 ≤ pos ∧ pos ≤ 2147483647) (hin : 0 ≤ pos ∧ pos < GL_v g 1 0) : zHi l yX10_lowerPortAt wsX10_lowerPortAt ({ frames := 7, cells := 1, slots := 6, locals := 111 }) K D tA [.ref (ad 0), .int (iI pos)] (zW tA K ad g) sz (fun (z : Int) (g' : GL) => RDO B N g g' ∧ ((0 ≤ pos ∧ pos < (GL_v g 1 0) ∧ z = (GL_v g 2) pos))) (fun g' => zW tA K ad g') 1 6 :=
  zX_no (q_X10_lowerPortAt hst hB hok pos r_pos) (fun E u h => h.2.2.2 hin)
theorem q_X10_upperPortAt_t {l : Launch} (hst : l.stackTraces = false) {K : Nat → Nat} {D : va_G} {tA : Nat → ClassId} {ad : Nat → Nat} {sz : Nat} {B N : Int} {g : GL} (hB : (0 ≤ B ∧ B ≤ 100000000) ∧ (0 ≤ N ∧ N ≤ 100000)) (hok : OKG B N g) (pos : Int) (r_pos : -2147483648 ≤ pos ∧ pos ≤ 2147483647) (hin : 0 ≤ pos ∧ pos < GL_v g 1 0) : zHi l yX10_upperPortAt wsX10_upperPortAt ({ frames := 7, cells := 1, slots := 6, locals := 111 }) K D tA [.ref (ad 0), .int (iI pos)] (zW tA K ad g) sz (fun (z : Int) (g' : GL) => RDO B N g g' ∧ ((0 ≤ pos ∧ pos < (GL_v g 1 0) ∧ z = (GL_v g 3) pos))) (fun g' => zW tA K ad g') 1 6 :=
  zX_no (q_X10_upperPortAt hst hB hok pos r_pos) (fun E u h => h.2.2.2 hin)
theorem q_X10_meterOf_t {l : Launch} (hst : l.stackTraces = false) {K : Nat → Nat} {D : va_G} {tA : Nat → ClassId} {ad : Nat → Nat} {sz : Nat} {B N : Int} {g : GL} (hB : (0 ≤ B ∧ B ≤ 100000000) ∧ (0 ≤ N ∧ N ≤ 100000)) (hok : OKG B N g) (frm : Int) (too : Int) (r_frm : -2147483648 ≤ frm ∧ frm ≤ 2147483647) (r_too : -2147483648 ≤ too ∧ too ≤ 2147483647) (hin : inP (GL_v g 0 0) frm too) (hle : hasL (GL_v g 1 0) (GL_v g 2) (GL_v g 3) frm too) : zHi l yX10_meterOf wsX10_meterOf ({ frames := 8, cells := 2, slots := 12, locals := 134 }) K D tA [.ref (ad 0), .int (iI frm), .int (iI too)] (zW tA K ad g) sz (fun (z : Int) (g' : GL) => RDO B N g g' ∧ ((inP (GL_v g 0 0) frm too ∧ ∃ p, 0 ≤ p ∧ p < (GL_v g 1 0) ∧ (GL_v g 2) p = min frm too ∧ (GL_v g 3) p = max frm too ∧ z = (GL_v g 6) p))) (fun g' => zW tA K ad g') 2 12 :=
  zX_no (q_X10_meterOf hst hB hok frm too r_frm r_too) (fun E u h => h.2.2.elim (fun h9 => h9.2 hin) (fun h9 => h9.2.2 hle))
theorem q_X10_isLit_t {l : Launch} (hst : l.stackTraces = false) {K : Nat → Nat} {D : va_G} {tA : Nat → ClassId} {ad : Nat → Nat} {sz : Nat} {B N : Int} {g : GL} (hB : (0 ≤ B ∧ B ≤ 100000000) ∧ (0 ≤ N ∧ N ≤ 100000)) (hok : OKG B N g) (frm : Int) (too : Int) (r_frm : -2147483648 ≤ frm ∧ frm ≤ 2147483647) (r_too : -2147483648 ≤ too ∧ too ≤ 2147483647) (hin : inP (GL_v g 0 0) frm too) (hle : hasL (GL_v g 1 0) (GL_v g 2) (GL_v g 3) frm too) : zHi l yX10_isLit wsX10_isLit ({ frames := 8, cells := 2, slots := 12, locals := 134 }) K D tA [.ref (ad 0), .int (iI frm), .int (iI too)] (zW tA K ad g) sz (fun (z : Int) (g' : GL) => RDO B N g g' ∧ ((inP (GL_v g 0 0) frm too ∧ ∃ p, 0 ≤ p ∧ p < (GL_v g 1 0) ∧ (GL_v g 2) p = min frm too ∧ (GL_v g 3) p = max frm too ∧ ((z = 1 ∧ (GL_v g 5) p ≤ (GL_v g 13 0)) ∨ (z = 0 ∧ ¬ (GL_v g 5) p ≤ (GL_v g 13 0)))))) (fun g' => zW tA K ad g') 2 12 :=
  zX_no (q_X10_isLit hst hB hok frm too r_frm r_too) (fun E u h => h.2.2.elim (fun h9 => h9.2 hin) (fun h9 => h9.2.2 hle))
