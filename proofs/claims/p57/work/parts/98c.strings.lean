/-! ===== p57: made strings ===== -/
def tF (tx : List Int) : Int → Int := fun j => tx.getD j.toNat 0
theorem tF_in {tx : List Int} (h : ∀ v ∈ tx, 0 ≤ v ∧ v ≤ 127) (j : Int) : 0 ≤ tF tx j ∧ tF tx j ≤ 127 := by
  unfold tF
  rw [List.getD_eq_getElem?_getD]
  by_cases q : j.toNat < tx.length
  · rw [List.getElem?_eq_getElem q]
    exact h _ (List.getElem_mem q)
  · rw [List.getElem?_eq_none (by omega)]
    exact ⟨by decide, by decide⟩
theorem tF_cpy (g : Int → Int) (dp : Int) (tx : List Int) : zCpy (tF tx) g 0 dp ((tx.length : Nat) : Int) = wrL g dp tx := by
  funext j
  unfold zCpy wrL tF
  rw [Int.zero_add]
theorem zbfit (v : Int) (h : 0 ≤ v ∧ v ≤ 127) : fits .byte (.int (iI v)) = true := by
  have h2 : ∀ n : Nat, n < 128 → fits .byte (.int (nI n)) = true := by decide +kernel
  have h3 := h2 v.toNat (by omega)
  rw [nI_iI, Int.toNat_of_nonneg h.1] at h3
  exact h3
section ZSTR
variable {p : Program} {l : Launch} {e : Env} {R : Room} {s : State} {m : MethodId} {args : Array Value} {below : List Frame} {meth : Method} {c : Code} {H : Heap} {locs : List Loc} {cells slots : Nat} {Q : State → Prop}
variable {cc : ByteArray} {pc : Nat} {ls : Array Slot} {rest : List Value} {K : Nat → Nat} {D : va_G} {tA : Nat → ClassId} {ws : va_W} {A : Nat → Prop} {H0 : Heap}
theorem zz_ishl0 (hx : p.tables.exec = Jvm.exec) (hb : c.code = cc) {x : Int} (hd : decode cc pc = .ok (.ishl, 1)) (rx : 0 ≤ x ∧ x ≤ 2147483647) (k : W p l e R s m args below meth c H locs cells slots Q (F0 m (pc + 1) ls (.int (iI x) :: rest))) : W p l e R s m args below meth c H locs cells slots Q (F0 m pc ls (.int (iI 0) :: .int (iI x) :: rest)) := by
  refine lv_ishl hx hb hd ?_
  rw [show iI 0 &&& 31 = (0 : Int32) by decide, show iI x <<< (0 : Int32) = iI x from Int32.shiftLeft_zero]
  exact k
theorem zz_copyb (hx : p.tables.exec = Jvm.exec) (hb : c.code = cc) (hml : c.maxLocals = ls.size) {own : String} {index : Nat} (hown : s.vm.findClass own = some m.cls) (hlink : (Cond.methodLink own index arraycopyName).before args s = true) (hnat : (Cond.native arraycopyName).before args s = true) (hstat : (Cond.static arraycopyName).before args s = true) (hini : (Cond.initialized "java/lang/System").before args s = true)
    (hframes : 1 ≤ R.frames) (hlocals : (rest.map fun v => v.category).sum + (nativeFrameWords "java/lang/System" "arraycopy" 5 + 11) ≤ R.locals) (hK : zK D tA s) (hP : va_P D vwCl ws H) (hD : va_D A ws) (hS : va_S A H0 H locs) (q0 q1 : Nat) {a0 a : Nat} {n0 n1 : Nat} {f g : Int → Int} (ha0 : ws[q0]? = some (a0, .inl (tA 3, n0, .inl (zA f)))) (ha1 : ws[q1]? = some (a, .inl (tA 3, n1, .inl (zA g))))
    (hn0 : n0 ≤ 2147483647) (hn1 : n1 ≤ 2147483647) {sp dp n : Int} (hf : ∀ j, 0 ≤ j → j < sp + n → 0 ≤ f j ∧ f j ≤ 127) (hin : 0 ≤ sp ∧ 0 ≤ dp ∧ 0 ≤ n ∧ sp + n ≤ n0 ∧ dp + n ≤ n1) (hd : decode cc pc = .ok (.invokestatic index, 3))
    (kk : ∀ (H1 : Heap) (locs1 : List Loc), va_P D vwCl (ws.set q1 (a, .inl (tA 3, n1, .inl (zA (zCpy f g sp dp n))))) H1 → va_D A (ws.set q1 (a, .inl (tA 3, n1, .inl (zA (zCpy f g sp dp n))))) → va_S A H0 H1 locs1 → W p l e R s m args below meth c H1 locs1 cells slots Q (F0 m (pc + 3) ls rest)) : W p l e R s m args below meth c H locs cells slots Q (F0 m pc ls (.int (iI n) :: .int (iI dp) :: .ref a :: .int (iI sp) :: .ref a0 :: rest)) := by
  have e1 := iI_clamp (k := sp) (by omega)
  have e2 := iI_clamp (k := dp) (by omega)
  have e3 := iI_clamp (k := n) (by omega)
  refine va_copyi hx hb hml hown hlink hnat hstat hini hK hP hD hS q0 q1 3 3 ha0 ha1 rfl rfl rfl (fun h => absurd ((iI_lt (b := 0) (by omega) (by omega)).mp h) (by omega)) (fun h => absurd ((iI_lt (b := 0) (by omega) (by omega)).mp h) (by omega)) (fun h => absurd ((iI_lt (b := 0) (by omega) (by omega)).mp h) (by omega)) (by rw [e1, e3]; omega) (by rw [e2, e3]; omega) (fun i hi => ?_) hframes hlocals hd ?_
  · rw [e3] at hi
    rw [e1]
    exact zbfit _ (hf _ (by omega) (by omega))
  rw [zA_cpy f g (by omega) (by omega) (by omega)]
  exact kk
theorem zz_copyT (hx : p.tables.exec = Jvm.exec) (hb : c.code = cc) (hml : c.maxLocals = ls.size) {own : String} {index : Nat} (hown : s.vm.findClass own = some m.cls) (hlink : (Cond.methodLink own index arraycopyName).before args s = true) (hnat : (Cond.native arraycopyName).before args s = true) (hstat : (Cond.static arraycopyName).before args s = true) (hini : (Cond.initialized "java/lang/System").before args s = true)
    (hframes : 1 ≤ R.frames) (hlocals : (rest.map fun v => v.category).sum + (nativeFrameWords "java/lang/System" "arraycopy" 5 + 11) ≤ R.locals) (hK : zK D tA s) (hP : va_P D vwCl ws H) (hD : va_D A ws) (hS : va_S A H0 H locs) (q0 q1 : Nat) {a0 a : Nat} {n1 : Nat} {tx : List Int} {g : Int → Int} (ha0 : ws[q0]? = some (a0, .inl (tA 3, tx.length, .inl (zA (tF tx))))) (ha1 : ws[q1]? = some (a, .inl (tA 3, n1, .inl (zA g))))
    (htx : ∀ v ∈ tx, 0 ≤ v ∧ v ≤ 127) (hn0 : tx.length ≤ 64) (hn1 : n1 ≤ 64) {dp : Int} (hin : 0 ≤ dp ∧ dp + ((tx.length : Nat) : Int) ≤ n1) (hd : decode cc pc = .ok (.invokestatic index, 3))
    (kk : ∀ (H1 : Heap) (locs1 : List Loc), va_P D vwCl (ws.set q1 (a, .inl (tA 3, n1, .inl (zA (wrL g dp tx))))) H1 → va_D A (ws.set q1 (a, .inl (tA 3, n1, .inl (zA (wrL g dp tx))))) → va_S A H0 H1 locs1 → W p l e R s m args below meth c H1 locs1 cells slots Q (F0 m (pc + 3) ls rest)) : W p l e R s m args below meth c H locs cells slots Q (F0 m pc ls (.int (iI ((tx.length : Nat) : Int)) :: .int (iI dp) :: .ref a :: .int (iI 0) :: .ref a0 :: rest)) := by
  refine zz_copyb hx hb hml hown hlink hnat hstat hini hframes hlocals hK hP hD hS q0 q1 ha0 ha1 (by omega) (by omega) (fun j _ _ => tF_in htx j) (by omega) hd ?_
  rw [tF_cpy]
  exact kk
theorem zz_copyK (hx : p.tables.exec = Jvm.exec) (hb : c.code = cc) (hml : c.maxLocals = ls.size) {own : String} {index : Nat} (hown : s.vm.findClass own = some m.cls) (hlink : (Cond.methodLink own index arraycopyName).before args s = true) (hnat : (Cond.native arraycopyName).before args s = true) (hstat : (Cond.static arraycopyName).before args s = true) (hini : (Cond.initialized "java/lang/System").before args s = true)
    (hframes : 1 ≤ R.frames) (hlocals : (rest.map fun v => v.category).sum + (nativeFrameWords "java/lang/System" "arraycopy" 5 + 11) ≤ R.locals) (hK : zK D tA s) (hP : va_P D vwCl ws H) (hD : va_D A ws) (hS : va_S A s.heap H locs) {si : Nat} (hT : va_T .byte (K (200 + si)) (sLn si) (fun j => .int (iI (sCh si (j : Int)))) A s s.heap) (q1 : Nat) {a : Nat} {n1 : Nat} {g : Int → Int} (ha1 : ws[q1]? = some (a, .inl (tA 3, n1, .inl (zA g))))
    (hn1 : n1 ≤ 64) {dp : Int} (hin : 0 ≤ dp ∧ dp + ((sLn si : Nat) : Int) ≤ n1) (hd : decode cc pc = .ok (.invokestatic index, 3))
    (kk : ∀ (H1 : Heap) (locs1 : List Loc), va_P D vwCl (ws.set q1 (a, .inl (tA 3, n1, .inl (zA (wrL g dp (sTx.getD si [])))))) H1 → va_D A (ws.set q1 (a, .inl (tA 3, n1, .inl (zA (wrL g dp (sTx.getD si [])))))) → va_S A s.heap H1 locs1 → W p l e R s m args below meth c H1 locs1 cells slots Q (F0 m (pc + 3) ls rest)) : W p l e R s m args below meth c H locs cells slots Q (F0 m pc ls (.int (iI ((sLn si : Nat) : Int)) :: .int (iI dp) :: .ref a :: .int (iI 0) :: .ref (K (200 + si)) :: rest)) := by
  have e1 := iI_clamp (k := 0) (by omega)
  have e2 := iI_clamp (k := dp) (by omega)
  have e3 := iI_clamp (k := ((sLn si : Nat) : Int)) (by omega)
  refine vk_copyt (f := zA (sCh si)) hx hb hml hown hlink hnat hstat hini hK hP hD hS hT q1 3 ha1 rfl (fun h => absurd ((iI_lt (b := 0) (by omega) (by omega)).mp h) (by omega)) (fun h => absurd ((iI_lt (b := 0) (by omega) (by omega)).mp h) (by omega)) (fun h => absurd ((iI_lt (b := 0) (by omega) (by omega)).mp h) (by omega)) (by rw [e1, e3]; omega) (by rw [e2, e3]; omega) (fun i hi => ?_) hframes hlocals hd ?_
  · have q := sCh_in si (((iI 0).toNatClampNeg + i : Nat) : Int)
    exact zbfit _ (by omega)
  rw [zA_cpy (sCh si) g (by omega) (by omega) (by omega)]
  have e := tF_cpy g dp (sTx.getD si [])
  rw [show zCpy (sCh si) g 0 dp ((sLn si : Nat) : Int) = wrL g dp (sTx.getD si []) from e]
  exact kk
end ZSTR
abbrev bLinN (tA : Nat → ClassId) (cp : Nat) (a0 a1 : Nat) (lnb : Int → Int) (lml : Int) (lct : Int) : va_W := [(a0, .inr (1, [.ref a1, .int (iI 0), .int (iI lml), .int (iI lct)])), (a1, .inl (tA 3, cp, .inl (zA lnb)))]
abbrev bStr (tA : Nat → ClassId) (a0 a1 : Nat) (tx : List Int) : va_W := [(a0, .inr (0, [.ref a1, .int (iI 0), .int (iI 0), .int (iI 0)])), (a1, .inl (tA 3, tx.length, .inl (zA (tF tx))))]
set_option maxHeartbeats 4000000 in
set_option maxRecDepth 100000 in
theorem c_J0_coder_7d493_S (l : Launch) (K : Nat → Nat) (D : va_G) (tA : Nat → ClassId) (a0 a1 : Nat) (sz : Nat) (tx : List Int) : zCi l yJ0_coder_7d493 wsJ0_coder_7d493 ({ frames := 0, cells := 0, slots := 0, locals := 0 }) K D tA [.ref a0] (bStr tA a0 a1 tx) sz (fun (z : Int) (u : Unit) => (z = 0)) (fun (u : Unit) => bStr tA a0 a1 tx) 0 0 := by
  refine zCi_of (cc := cJ0_coder_7d493) (maxL := 1) (by decide) rfl (fun z u h => by have h0 : z = 0 := h; subst h0; rfl) (Nat.le_of_ble_eq_true rfl) ?_
  intro p e s m args below meth c A Q ls hx hb hml hts hown hK hP hD hA hCn hret hl
  obtain ⟨H, hHe⟩ : ∃ H : Heap, H = s.heap := ⟨_, rfl⟩
  have hS : va_S A s.heap H [] := by rw [hHe]; exact va_S.rf
  rw [← hHe] at hP ⊢
  have hl : lv_has ls 1 [(0, .ref a0)] := hl
  have iJ0 : ∀ v ∈ wsJ00, v ∈ wsJ0_coder_7d493 := by decide +kernel
  have f_15 := hts (.fieldLink RJ0 15 "java/lang/String" "coder" "B") (by decide +kernel)
  have f_38 := hts (.fieldLink RJ0 38 "java/lang/String" "COMPACT_STRINGS" "Z") (by decide +kernel)
  refine va_gets hx hb hCn.1.1.1 hS hown f_38 (fun _ h9 => h9) dJ0_coder_7d493_0 ?_
  refine zz_if_eq (tgt := 13) hx hb dJ0_coder_7d493_3 (by decide) (by decide) (fun c_3 => ?_) (fun c_3 => ?_)
  · exact absurd c_3 (by decide)
  · refine lv_aload_n hx hb dJ0_coder_7d493_6 rfl (lv_at hl 0 rfl) ?_
    refine va_get (D := D) (ci := 0) (v := .int (iI 0)) (C := RJ0) (T := TJ0) (N := 4) hx hb hts iJ0 hown hK hP 0 rfl rfl 1 (by decide) f_15 (fun _ h9 => h9) rfl dJ0_coder_7d493_7 ?_
    refine lv_goto (tgt := 14) hx hb dJ0_coder_7d493_10 (by decide) ?_
    exact hret 0 () _ _ _ _ dJ0_coder_7d493_14 (show (0 : Int) = 0 from by omega) hP hD hS

set_option maxHeartbeats 4000000 in
set_option maxRecDepth 100000 in
theorem c_J0_isLatin1_aae02_S (l : Launch) (K : Nat → Nat) (D : va_G) (tA : Nat → ClassId) (a0 a1 : Nat) (sz : Nat) (tx : List Int) : zCi l yJ0_isLatin1_aae02 wsJ0_isLatin1_aae02 ({ frames := 0, cells := 0, slots := 0, locals := 0 }) K D tA [.ref a0] (bStr tA a0 a1 tx) sz (fun (z : Int) (u : Unit) => (z = 1)) (fun (u : Unit) => bStr tA a0 a1 tx) 0 0 := by
  refine zCi_of (cc := cJ0_isLatin1_aae02) (maxL := 1) (by decide) rfl (fun z u h => zbool z (by omega)) (Nat.le_of_ble_eq_true rfl) ?_
  intro p e s m args below meth c A Q ls hx hb hml hts hown hK hP hD hA hCn hret hl
  obtain ⟨H, hHe⟩ : ∃ H : Heap, H = s.heap := ⟨_, rfl⟩
  have hS : va_S A s.heap H [] := by rw [hHe]; exact va_S.rf
  rw [← hHe] at hP ⊢
  have hl : lv_has ls 1 [(0, .ref a0)] := hl
  have iJ0 : ∀ v ∈ wsJ00, v ∈ wsJ0_isLatin1_aae02 := by decide +kernel
  have f_15 := hts (.fieldLink RJ0 15 "java/lang/String" "coder" "B") (by decide +kernel)
  have f_38 := hts (.fieldLink RJ0 38 "java/lang/String" "COMPACT_STRINGS" "Z") (by decide +kernel)
  refine va_gets hx hb hCn.1.1.1 hS hown f_38 (fun _ h9 => h9) dJ0_isLatin1_aae02_0 ?_
  refine zz_if_eq (tgt := 17) hx hb dJ0_isLatin1_aae02_3 (by decide) (by decide) (fun c_3 => ?_) (fun c_3 => ?_)
  · exact absurd c_3 (by decide)
  · refine lv_aload_n hx hb dJ0_isLatin1_aae02_6 rfl (lv_at hl 0 rfl) ?_
    refine va_get (D := D) (ci := 0) (v := .int (iI 0)) (C := RJ0) (T := TJ0) (N := 4) hx hb hts iJ0 hown hK hP 0 rfl rfl 1 (by decide) f_15 (fun _ h9 => h9) rfl dJ0_isLatin1_aae02_7 ?_
    refine zz_if_ne (tgt := 17) hx hb dJ0_isLatin1_aae02_10 (by decide) (by decide) (fun c_10 => ?_) (fun c_10 => ?_)
    · exact absurd c_10 (by decide)
    · refine zz_iconst hx hb dJ0_isLatin1_aae02_13 ?_
      refine lv_goto (tgt := 18) hx hb dJ0_isLatin1_aae02_14 (by decide) ?_
      exact hret 1 () _ _ _ _ dJ0_isLatin1_aae02_18 (show (1 : Int) = 1 from by omega) hP hD hS

set_option maxHeartbeats 4000000 in
set_option maxRecDepth 100000 in
theorem c_J0_length_8abf5_S (l : Launch) (K : Nat → Nat) (D : va_G) (tA : Nat → ClassId) (a0 a1 : Nat) (sz : Nat) (tx : List Int) (hsn : tx.length ≤ 64) : zCi l yJ0_length_8abf5 wsJ0_length_8abf5 ({ frames := 1, cells := 0, slots := 0, locals := 20 }) K D tA [.ref a0] (bStr tA a0 a1 tx) sz (fun (z : Int) (u : Unit) => (z = ((tx.length : Nat) : Int))) (fun (u : Unit) => bStr tA a0 a1 tx) 0 0 := by
  refine zCi_of (cc := cJ0_length_8abf5) (maxL := 1) (by decide) rfl (fun z u h => rfl) (Nat.le_of_ble_eq_true rfl) ?_
  intro p e s m args below meth c A Q ls hx hb hml hts hown hK hP hD hA hCn hret hl
  obtain ⟨H, hHe⟩ : ∃ H : Heap, H = s.heap := ⟨_, rfl⟩
  have hS : va_S A s.heap H [] := by rw [hHe]; exact va_S.rf
  rw [← hHe] at hP ⊢
  have hl : lv_has ls 1 [(0, .ref a0)] := hl
  have iJ0 : ∀ v ∈ wsJ00, v ∈ wsJ0_length_8abf5 := by decide +kernel
  have f_9 := hts (.fieldLink RJ0 9 "java/lang/String" "value" "[B") (by decide +kernel)
  refine lv_aload_n hx hb dJ0_length_8abf5_0 rfl (lv_at hl 0 rfl) ?_
  refine va_get (D := D) (ci := 0) (v := .ref a1) (C := RJ0) (T := TJ0) (N := 4) hx hb hts iJ0 hown hK hP 0 rfl rfl 0 (by decide) f_9 (fun _ h9 => h9) rfl dJ0_length_8abf5_1 ?_
  refine va_alen hx hb hK hP 1 3 rfl rfl (v := iI ((tx.length : Nat) : Int)) (nI_iI _) dJ0_length_8abf5_4 ?_
  refine lv_aload_n hx hb dJ0_length_8abf5_5 rfl (lv_at hl 0 rfl) ?_
  refine zc_callVi (As := []) (rest := [.int (iI ((tx.length : Nat) : Int))]) (wf := fun u => bStr tA a0 a1 tx) ⟨hx, hb, hml, hown, hts⟩ (c_J0_coder_7d493_S l K D tA a0 a1 H.size tx) (cwV 0 hts gJ0_length_8abf5_J0_coder_7d493 rfl rfl rfl (by decide +kernel) ⟨Nat.le_of_ble_eq_true rfl, Nat.le_of_ble_eq_true rfl⟩) hK hP hD hS hA hCn [0, 1] [] [0, 1] rfl rfl (by decide) (by decide) (by decide) (by decide) (fun _ => rfl) (ci := 0) (q0 := 0) rfl rfl rfl rfl rfl hl.1 (Nat.le_of_ble_eq_true rfl) dJ0_length_8abf5_6 ⟨Nat.le_of_ble_eq_true rfl, Nat.le_of_ble_eq_true rfl⟩ ?_
  intro z6_1 u H locs p6_2 hP hD hS
  have hP : va_P D vwCl (bStr tA a0 a1 tx) H := hP
  have hD : va_D A (bStr tA a0 a1 tx) := hD
  have q_6 : z6_1 = 0 := p6_2
  have hz6 : z6_1 = 0 := by first | exact q_6 | omega
  subst hz6
  refine zz_ishr0 hx hb dJ0_length_8abf5_9 (by omega) ?_
  exact hret ((tx.length : Nat) : Int) () _ _ _ _ dJ0_length_8abf5_10 (show ((tx.length : Nat) : Int) = ((tx.length : Nat) : Int) from by rfl) hP hD hS

set_option maxHeartbeats 4000000 in
set_option maxRecDepth 100000 in
theorem c_J1_charAt_3b067_S (l : Launch) (K : Nat → Nat) (D : va_G) (tA : Nat → ClassId) (a0 a1 : Nat) (sz : Nat) (tx : List Int) (i : Int) (r_i : -2147483648 ≤ i ∧ i ≤ 2147483647) (htx : ∀ v ∈ tx, 0 ≤ v ∧ v ≤ 127) (hsn : tx.length ≤ 64) (hi : 0 ≤ i ∧ i < ((tx.length : Nat) : Int)) : zCi l yJ1_charAt_3b067 wsJ1_charAt_3b067 ({ frames := 2, cells := 0, slots := 0, locals := 43 }) K D tA [.ref a1, .int (iI i)] (bStr tA a0 a1 tx) sz (fun (z : Int) (u : Unit) => (z = tF tx i) ∧ (0 ≤ z ∧ z ≤ 127)) (fun (u : Unit) => bStr tA a0 a1 tx) 0 0 := by
  refine zCi_of (cc := cJ1_charAt_3b067) (maxL := 2) (by decide) rfl (fun z u h => (zcharv z (by omega)).1) (Nat.le_of_ble_eq_true rfl) ?_
  intro p e s m args below meth c A Q ls hx hb hml hts hown hK hP hD hA hCn hret hl
  obtain ⟨H, hHe⟩ : ∃ H : Heap, H = s.heap := ⟨_, rfl⟩
  have hS : va_S A s.heap H [] := by rw [hHe]; exact va_S.rf
  rw [← hHe] at hP ⊢
  have hl : lv_has ls 2 [(0, .ref a1), (1, .int (iI i))] := hl
  have htf := fun j => tF_in htx j
  have htg := htf i
  refine lv_iload_n hx hb dJ1_charAt_3b067_0 rfl (lv_at hl 1 rfl) ?_
  refine lv_aload_n hx hb dJ1_charAt_3b067_1 rfl (lv_at hl 0 rfl) ?_
  refine va_alen hx hb hK hP 1 3 rfl rfl (v := iI ((tx.length : Nat) : Int)) (nI_iI _) dJ1_charAt_3b067_2 ?_
  refine zc_callSv (As := [.int (iI i), .int (iI ((tx.length : Nat) : Int))]) (rest := []) (wf := fun u => bStr tA a0 a1 tx) ⟨hx, hb, hml, hown, hts⟩ (c_J0_checkIndex_df160 l K D tA  H.size i ((tx.length : Nat) : Int) (by first | assumption | omega) (by first | assumption | omega) (by first | assumption | omega)) (va_cwS 2 hts gJ1_charAt_3b067_J0_checkIndex_df160 rfl rfl rfl (by decide +kernel) ⟨Nat.le_of_ble_eq_true rfl, Nat.le_of_ble_eq_true rfl⟩) hK hP hD hS hA hCn [] [0, 1] [0, 1] rfl rfl (by decide) (by decide) (by decide) (by decide) (fun _ => rfl) rfl rfl hl.1 (Nat.le_of_ble_eq_true rfl) dJ1_charAt_3b067_3 ⟨Nat.le_of_ble_eq_true rfl, Nat.le_of_ble_eq_true rfl⟩ ?_
  intro u H locs p3_1 hP hD hS
  have hP : va_P D vwCl (bStr tA a0 a1 tx) H := hP
  have hD : va_D A (bStr tA a0 a1 tx) := hD
  refine lv_aload_n hx hb dJ1_charAt_3b067_6 rfl (lv_at hl 0 rfl) ?_
  refine lv_iload_n hx hb dJ1_charAt_3b067_7 rfl (lv_at hl 1 rfl) ?_
  refine zz_bald hx hb hK hP 1 rfl (by omega) (by omega) dJ1_charAt_3b067_8 ?_
  refine zz_sipush hx hb dJ1_charAt_3b067_9 (by decide) ?_
  refine zz_iand255 hx hb dJ1_charAt_3b067_12 (by omega) ?_
  refine zz_i2c hx hb dJ1_charAt_3b067_13 (by omega) ?_
  exact hret ((tF tx) i) () _ _ _ _ dJ1_charAt_3b067_14 ⟨(show ((tF tx) i) = tF tx i from by rfl), (show 0 ≤ ((tF tx) i) ∧ ((tF tx) i) ≤ 127 from by omega)⟩ hP hD hS

set_option maxHeartbeats 4000000 in
set_option maxRecDepth 100000 in
theorem c_J0_charAt_5068e_S (l : Launch) (K : Nat → Nat) (D : va_G) (tA : Nat → ClassId) (a0 a1 : Nat) (sz : Nat) (tx : List Int) (i : Int) (r_i : -2147483648 ≤ i ∧ i ≤ 2147483647) (htx : ∀ v ∈ tx, 0 ≤ v ∧ v ≤ 127) (hsn : tx.length ≤ 64) (hi : 0 ≤ i ∧ i < ((tx.length : Nat) : Int)) : zCi l yJ0_charAt_5068e wsJ0_charAt_5068e ({ frames := 3, cells := 0, slots := 0, locals := 64 }) K D tA [.ref a0, .int (iI i)] (bStr tA a0 a1 tx) sz (fun (z : Int) (u : Unit) => (z = tF tx i) ∧ (0 ≤ z ∧ z ≤ 127)) (fun (u : Unit) => bStr tA a0 a1 tx) 0 0 := by
  refine zCi_of (cc := cJ0_charAt_5068e) (maxL := 2) (by decide) rfl (fun z u h => (zcharv z (by omega)).1) (Nat.le_of_ble_eq_true rfl) ?_
  intro p e s m args below meth c A Q ls hx hb hml hts hown hK hP hD hA hCn hret hl
  obtain ⟨H, hHe⟩ : ∃ H : Heap, H = s.heap := ⟨_, rfl⟩
  have hS : va_S A s.heap H [] := by rw [hHe]; exact va_S.rf
  rw [← hHe] at hP ⊢
  have hl : lv_has ls 2 [(0, .ref a0), (1, .int (iI i))] := hl
  have iJ0 : ∀ v ∈ wsJ00, v ∈ wsJ0_charAt_5068e := by decide +kernel
  have f_9 := hts (.fieldLink RJ0 9 "java/lang/String" "value" "[B") (by decide +kernel)
  refine lv_aload_n hx hb dJ0_charAt_5068e_0 rfl (lv_at hl 0 rfl) ?_
  refine zc_callVi (As := []) (rest := []) (wf := fun u => bStr tA a0 a1 tx) ⟨hx, hb, hml, hown, hts⟩ (c_J0_isLatin1_aae02_S l K D tA a0 a1 H.size tx) (cwV 0 hts gJ0_charAt_5068e_J0_isLatin1_aae02 rfl rfl rfl (by decide +kernel) ⟨Nat.le_of_ble_eq_true rfl, Nat.le_of_ble_eq_true rfl⟩) hK hP hD hS hA hCn [0, 1] [] [0, 1] rfl rfl (by decide) (by decide) (by decide) (by decide) (fun _ => rfl) (ci := 0) (q0 := 0) rfl rfl rfl rfl rfl hl.1 (Nat.le_of_ble_eq_true rfl) dJ0_charAt_5068e_1 ⟨Nat.le_of_ble_eq_true rfl, Nat.le_of_ble_eq_true rfl⟩ ?_
  intro z1_1 u H locs p1_2 hP hD hS
  have hP : va_P D vwCl (bStr tA a0 a1 tx) H := hP
  have hD : va_D A (bStr tA a0 a1 tx) := hD
  have q_1 : z1_1 = 1 := p1_2
  have hz1 : z1_1 = 1 := by first | exact q_1 | omega
  subst hz1
  refine zz_if_eq (tgt := 16) hx hb dJ0_charAt_5068e_4 (by decide) (by decide) (fun c_4 => ?_) (fun c_4 => ?_)
  · exact absurd c_4 (by decide)
  · refine lv_aload_n hx hb dJ0_charAt_5068e_7 rfl (lv_at hl 0 rfl) ?_
    refine va_get (D := D) (ci := 0) (v := .ref a1) (C := RJ0) (T := TJ0) (N := 4) hx hb hts iJ0 hown hK hP 0 rfl rfl 0 (by decide) f_9 (fun _ h9 => h9) rfl dJ0_charAt_5068e_8 ?_
    refine lv_iload_n hx hb dJ0_charAt_5068e_11 rfl (lv_at hl 1 rfl) ?_
    refine zc_callSi (As := [.ref a1, .int (iI i)]) (rest := []) (wf := fun u => bStr tA a0 a1 tx) ⟨hx, hb, hml, hown, hts⟩ (c_J1_charAt_3b067_S l K D tA a0 a1 H.size tx i (by first | assumption | omega) (by first | assumption | omega) (by first | assumption | omega) (by first | assumption | omega)) (va_cwS 2 hts gJ0_charAt_5068e_J1_charAt_3b067 rfl rfl rfl (by decide +kernel) ⟨Nat.le_of_ble_eq_true rfl, Nat.le_of_ble_eq_true rfl⟩) hK hP hD hS hA hCn [0, 1] [] [0, 1] rfl rfl (by decide) (by decide) (by decide) (by decide) (fun _ => rfl) rfl rfl hl.1 (Nat.le_of_ble_eq_true rfl) dJ0_charAt_5068e_12 ⟨Nat.le_of_ble_eq_true rfl, Nat.le_of_ble_eq_true rfl⟩ ?_
    intro z12_3 u H locs p12_4 hP hD hS
    have hP : va_P D vwCl (bStr tA a0 a1 tx) H := hP
    have hD : va_D A (bStr tA a0 a1 tx) := hD
    have q_12 : z12_3 = tF tx i := p12_4.1
    have q2_12 : 0 ≤ z12_3 ∧ z12_3 ≤ 127 := p12_4.2
    exact hret z12_3 () _ _ _ _ dJ0_charAt_5068e_15 ⟨(show z12_3 = tF tx i from by omega), (show 0 ≤ z12_3 ∧ z12_3 ≤ 127 from by omega)⟩ hP hD hS

set_option maxHeartbeats 4000000 in
set_option maxRecDepth 100000 in
theorem c_J5_ensureCapacityInternal_d00df_N (l : Launch) (K : Nat → Nat) (D : va_G) (tA : Nat → ClassId) (a0 a1 : Nat) (sz : Nat) (lnb : Int → Int) (lml : Int) (lct : Int) (cp : Nat) (mn : Int) (r_mn : -2147483648 ≤ mn ∧ mn ≤ 2147483647) (hcp : cp ≤ 64) (hmn : 0 ≤ mn ∧ mn ≤ (cp : Int)) : zCv l yJ5_ensureCapacityInternal_d00df wsJ5_ensureCapacityInternal_d00df ({ frames := 0, cells := 0, slots := 0, locals := 0 }) K D tA [.ref a0, .int (iI mn)] (bLinN tA cp a0 a1 lnb lml lct) sz (fun (u : Unit) => True) (fun (u : Unit) => bLinN tA cp a0 a1 lnb lml lct) 0 0 := by
  refine zCv_of (cc := cJ5_ensureCapacityInternal_d00df) (maxL := 3) (by decide) rfl (Nat.le_of_ble_eq_true rfl) ?_
  intro p e s m args below meth c A Q ls hx hb hml hts hown hK hP hD hA hCn hret hl
  obtain ⟨H, hHe⟩ : ∃ H : Heap, H = s.heap := ⟨_, rfl⟩
  have hS : va_S A s.heap H [] := by rw [hHe]; exact va_S.rf
  rw [← hHe] at hP ⊢
  have hl : lv_has ls 3 [(0, .ref a0), (1, .int (iI mn))] := hl
  have iJ4 : ∀ v ∈ wsJ40, v ∈ wsJ5_ensureCapacityInternal_d00df := by decide +kernel
  have f_15 := hts (.fieldLink RJ5 15 "java/lang/AbstractStringBuilder" "value" "[B") (by decide +kernel)
  have f_22 := hts (.fieldLink RJ5 22 "java/lang/AbstractStringBuilder" "coder" "B") (by decide +kernel)
  refine lv_aload_n hx hb dJ5_ensureCapacityInternal_d00df_0 rfl (lv_at hl 0 rfl) ?_
  refine va_get (D := D) (ci := 1) (v := .ref a1) (C := RJ4) (T := TJ4) (N := 4) hx hb hts iJ4 hown hK hP 0 rfl rfl 0 (by decide) f_15 (fun _ h9 => h9) rfl dJ5_ensureCapacityInternal_d00df_1 ?_
  refine va_alen hx hb hK hP 1 3 rfl rfl (v := iI ((cp : Nat) : Int)) (nI_iI _) dJ5_ensureCapacityInternal_d00df_4 ?_
  refine lv_aload_n hx hb dJ5_ensureCapacityInternal_d00df_5 rfl (lv_at hl 0 rfl) ?_
  refine va_get (D := D) (ci := 1) (v := .int (iI 0)) (C := RJ4) (T := TJ4) (N := 4) hx hb hts iJ4 hown hK hP 0 rfl rfl 1 (by decide) f_22 (fun _ h9 => h9) rfl dJ5_ensureCapacityInternal_d00df_6 ?_
  refine zz_ishr0 hx hb dJ5_ensureCapacityInternal_d00df_9 (by omega) ?_
  refine lv_istore_n (lv' := [(2, .int (iI ((cp : Nat) : Int))), (0, .ref a0), (1, .int (iI mn))]) hx hb dJ5_ensureCapacityInternal_d00df_10 rfl hl (by decide) rfl (fun ls hl => ?_)
  refine lv_iload_n hx hb dJ5_ensureCapacityInternal_d00df_11 rfl (lv_at hl 2 rfl) ?_
  refine lv_iload_n hx hb dJ5_ensureCapacityInternal_d00df_12 rfl (lv_at hl 0 rfl) ?_
  refine zz_isub hx hb dJ5_ensureCapacityInternal_d00df_13 ?_
  refine zz_if_le (tgt := 38) hx hb dJ5_ensureCapacityInternal_d00df_14 (by decide) (by omega) (fun c_14 => ?_) (fun c_14 => ?_)
  · exact hret () _ _ _ _ dJ5_ensureCapacityInternal_d00df_38 True.intro hP hD hS
  · exact absurd c_14 (by omega)

set_option maxHeartbeats 4000000 in
set_option maxRecDepth 100000 in
theorem c_J5_inflateIfNeededFor_a7421_K (l : Launch) (K : Nat → Nat) (D : va_G) (tA : Nat → ClassId) (a0 a1 : Nat) (sz : Nat) (lnb : Int → Int) (lml : Int) (lct : Int) (cp : Nat) (si : Nat) (hsi : si < 24) : zCv l yJ5_inflateIfNeededFor_a7421 wsJ5_inflateIfNeededFor_a7421 ({ frames := 1, cells := 0, slots := 0, locals := 20 }) K D tA [.ref a0, .ref (K (100 + si))] (bLinN tA cp a0 a1 lnb lml lct) sz (fun (u : Unit) => True) (fun (u : Unit) => bLinN tA cp a0 a1 lnb lml lct) 0 0 := by
  refine zCv_of (cc := cJ5_inflateIfNeededFor_a7421) (maxL := 2) (by decide) rfl (Nat.le_of_ble_eq_true rfl) ?_
  intro p e s m args below meth c A Q ls hx hb hml hts hown hK hP hD hA hCn hret hl
  obtain ⟨H, hHe⟩ : ∃ H : Heap, H = s.heap := ⟨_, rfl⟩
  have hS : va_S A s.heap H [] := by rw [hHe]; exact va_S.rf
  rw [← hHe] at hP ⊢
  have hl : lv_has ls 2 [(0, .ref a0), (1, .ref (K (100 + si)))] := hl
  have iJ4 : ∀ v ∈ wsJ40, v ∈ wsJ5_inflateIfNeededFor_a7421 := by decide +kernel
  have f_18 := hts (.fieldLink RJ5 18 "java/lang/String" "COMPACT_STRINGS" "Z") (by decide +kernel)
  have f_22 := hts (.fieldLink RJ5 22 "java/lang/AbstractStringBuilder" "coder" "B") (by decide +kernel)
  refine va_gets hx hb hCn.1.1.1 hS hown f_18 (fun _ h9 => h9) dJ5_inflateIfNeededFor_a7421_0 ?_
  refine zz_if_eq (tgt := 21) hx hb dJ5_inflateIfNeededFor_a7421_3 (by decide) (by decide) (fun c_3 => ?_) (fun c_3 => ?_)
  · exact absurd c_3 (by decide)
  · refine lv_aload_n hx hb dJ5_inflateIfNeededFor_a7421_6 rfl (lv_at hl 0 rfl) ?_
    refine va_get (D := D) (ci := 1) (v := .int (iI 0)) (C := RJ4) (T := TJ4) (N := 4) hx hb hts iJ4 hown hK hP 0 rfl rfl 1 (by decide) f_22 (fun _ h9 => h9) rfl dJ5_inflateIfNeededFor_a7421_7 ?_
    refine lv_aload_n hx hb dJ5_inflateIfNeededFor_a7421_10 rfl (lv_at hl 1 rfl) ?_
    refine zc_callOi (As := []) (rest := [.int (iI 0)]) (wf := fun u => bLinN tA cp a0 a1 lnb lml lct) ⟨hx, hb, hml, hown, hts⟩ (c_J0_coder_7d493 l K D tA  H.size si (by first | assumption | omega)) (cwV 0 hts gJ5_inflateIfNeededFor_a7421_J0_coder_7d493 rfl rfl rfl (by decide +kernel) ⟨Nat.le_of_ble_eq_true rfl, Nat.le_of_ble_eq_true rfl⟩) hK hP hD hS hA hCn [] [0, 1] [0, 1] rfl rfl (by decide) (by decide) (by decide) (by decide) (fun _ => rfl) (hCn.1.2.2 si (by omega)).1 rfl rfl hl.1 (Nat.le_of_ble_eq_true rfl) dJ5_inflateIfNeededFor_a7421_11 ⟨Nat.le_of_ble_eq_true rfl, Nat.le_of_ble_eq_true rfl⟩ ?_
    intro z11_1 u H locs p11_2 hP hD hS
    have hP : va_P D vwCl (bLinN tA cp a0 a1 lnb lml lct) H := hP
    have hD : va_D A (bLinN tA cp a0 a1 lnb lml lct) := hD
    have q_11 : z11_1 = 0 := p11_2
    have hz11 : z11_1 = 0 := by first | exact q_11 | omega
    subst hz11
    refine zz_icmp_eq (tgt := 21) hx hb dJ5_inflateIfNeededFor_a7421_14 (by decide) (by decide) (by decide) (fun c_14 => ?_) (fun c_14 => ?_)
    · exact hret () _ _ _ _ dJ5_inflateIfNeededFor_a7421_21 True.intro hP hD hS
    · exact absurd c_14 (by decide)

set_option maxHeartbeats 4000000 in
set_option maxRecDepth 100000 in
theorem c_J5_inflateIfNeededFor_a7421_S (l : Launch) (K : Nat → Nat) (D : va_G) (tA : Nat → ClassId) (a0 a1 b0 b1 : Nat) (sz : Nat) (lnb : Int → Int) (lml : Int) (lct : Int) (tx : List Int) (cp : Nat) : zCv l yJ5_inflateIfNeededFor_a7421 wsJ5_inflateIfNeededFor_a7421 ({ frames := 1, cells := 0, slots := 0, locals := 20 }) K D tA [.ref a0, .ref b0] (bLinN tA cp a0 a1 lnb lml lct ++ bStr tA b0 b1 tx) sz (fun (u : Unit) => True) (fun (u : Unit) => bLinN tA cp a0 a1 lnb lml lct ++ bStr tA b0 b1 tx) 0 0 := by
  refine zCv_of (cc := cJ5_inflateIfNeededFor_a7421) (maxL := 2) (by decide) rfl (Nat.le_of_ble_eq_true rfl) ?_
  intro p e s m args below meth c A Q ls hx hb hml hts hown hK hP hD hA hCn hret hl
  obtain ⟨H, hHe⟩ : ∃ H : Heap, H = s.heap := ⟨_, rfl⟩
  have hS : va_S A s.heap H [] := by rw [hHe]; exact va_S.rf
  rw [← hHe] at hP ⊢
  have hl : lv_has ls 2 [(0, .ref a0), (1, .ref b0)] := hl
  have iJ4 : ∀ v ∈ wsJ40, v ∈ wsJ5_inflateIfNeededFor_a7421 := by decide +kernel
  have f_18 := hts (.fieldLink RJ5 18 "java/lang/String" "COMPACT_STRINGS" "Z") (by decide +kernel)
  have f_22 := hts (.fieldLink RJ5 22 "java/lang/AbstractStringBuilder" "coder" "B") (by decide +kernel)
  refine va_gets hx hb hCn.1.1.1 hS hown f_18 (fun _ h9 => h9) dJ5_inflateIfNeededFor_a7421_0 ?_
  refine zz_if_eq (tgt := 21) hx hb dJ5_inflateIfNeededFor_a7421_3 (by decide) (by decide) (fun c_3 => ?_) (fun c_3 => ?_)
  · exact absurd c_3 (by decide)
  · refine lv_aload_n hx hb dJ5_inflateIfNeededFor_a7421_6 rfl (lv_at hl 0 rfl) ?_
    refine va_get (D := D) (ci := 1) (v := .int (iI 0)) (C := RJ4) (T := TJ4) (N := 4) hx hb hts iJ4 hown hK hP 0 rfl rfl 1 (by decide) f_22 (fun _ h9 => h9) rfl dJ5_inflateIfNeededFor_a7421_7 ?_
    refine lv_aload_n hx hb dJ5_inflateIfNeededFor_a7421_10 rfl (lv_at hl 1 rfl) ?_
    refine zc_callVi (As := []) (rest := [.int (iI 0)]) (wf := fun u => bLinN tA cp a0 a1 lnb lml lct ++ bStr tA b0 b1 tx) ⟨hx, hb, hml, hown, hts⟩ (c_J0_coder_7d493_S l K D tA b0 b1 H.size tx) (cwV 0 hts gJ5_inflateIfNeededFor_a7421_J0_coder_7d493 rfl rfl rfl (by decide +kernel) ⟨Nat.le_of_ble_eq_true rfl, Nat.le_of_ble_eq_true rfl⟩) hK hP hD hS hA hCn [2, 3] [0, 1] [0, 1, 2, 3] rfl rfl (by decide) (by decide) (by decide) (by decide) (fun _ => rfl) (ci := 0) (q0 := 0) rfl rfl rfl rfl rfl hl.1 (Nat.le_of_ble_eq_true rfl) dJ5_inflateIfNeededFor_a7421_11 ⟨Nat.le_of_ble_eq_true rfl, Nat.le_of_ble_eq_true rfl⟩ ?_
    intro z11_1 u H locs p11_2 hP hD hS
    have hP : va_P D vwCl (bLinN tA cp a0 a1 lnb lml lct ++ bStr tA b0 b1 tx) H := hP
    have hD : va_D A (bLinN tA cp a0 a1 lnb lml lct ++ bStr tA b0 b1 tx) := hD
    have q_11 : z11_1 = 0 := p11_2
    have hz11 : z11_1 = 0 := by first | exact q_11 | omega
    subst hz11
    refine zz_icmp_eq (tgt := 21) hx hb dJ5_inflateIfNeededFor_a7421_14 (by decide) (by decide) (by decide) (fun c_14 => ?_) (fun c_14 => ?_)
    · exact hret () _ _ _ _ dJ5_inflateIfNeededFor_a7421_21 True.intro hP hD hS
    · exact absurd c_14 (by decide)

set_option maxHeartbeats 4000000 in
set_option maxRecDepth 100000 in
theorem c_J0_getBytes_840e7_K (l : Launch) (K : Nat → Nat) (D : va_G) (tA : Nat → ClassId) (a0 a1 : Nat) (sz : Nat) (lnb : Int → Int) (lml : Int) (lct : Int) (cp : Nat) (si : Nat) (at1 : Int) (cd : Int) (r_at1 : -2147483648 ≤ at1 ∧ at1 ≤ 2147483647) (r_cd : -2147483648 ≤ cd ∧ cd ≤ 2147483647) (hsi : si < 24) (hcp : cp ≤ 64) (hcd : cd = 0) (hat : 0 ≤ at1 ∧ at1 + ((sLn si : Nat) : Int) ≤ (cp : Int)) : zCv l yJ0_getBytes_840e7 wsJ0_getBytes_840e7 ({ frames := 1, cells := 0, slots := 0, locals := 40 }) K D tA [.ref (K (100 + si)), .ref a1, .int (iI at1), .int (iI cd)] (bLinN tA cp a0 a1 lnb lml lct) sz (fun (u : Unit) => True) (fun (u : Unit) => bLinN tA cp a0 a1 (wrL lnb at1 (sTx.getD si [])) lml lct) 0 0 := by
  refine zCv_of (cc := cJ0_getBytes_840e7) (maxL := 4) (by decide) rfl (Nat.le_of_ble_eq_true rfl) ?_
  intro p e s m args below meth c A Q ls hx hb hml hts hown hK hP hD hA hCn hret hl
  obtain ⟨H, hHe⟩ : ∃ H : Heap, H = s.heap := ⟨_, rfl⟩
  have hS : va_S A s.heap H [] := by rw [hHe]; exact va_S.rf
  rw [← hHe] at hP ⊢
  have hl : lv_has ls 4 [(0, .ref (K (100 + si))), (1, .ref a1), (2, .int (iI at1)), (3, .int (iI cd))] := hl
  have f_9 := hts (.fieldLink RJ0 9 "java/lang/String" "value" "[B") (by decide +kernel)
  have l_212 := hts (.methodLink RJ0 212 arraycopyName) (by decide +kernel)
  have ln_212 := hts (.native arraycopyName) (by decide +kernel)
  have ls_212 := hts (.static arraycopyName) (by decide +kernel)
  have li_212 := hts (.initialized "java/lang/System") (by decide +kernel)
  have hcs : cd = 0 := by omega
  have hk := hcs
  · subst hk
    have hl : lv_has ls 4 [(0, .ref (K (100 + si))), (1, .ref a1), (2, .int (iI at1)), (3, .int (iI 0))] := hl
    refine lv_aload_n hx hb dJ0_getBytes_840e7_0 rfl (lv_at hl 0 rfl) ?_
    refine zc_callOi (As := []) (rest := []) (wf := fun u => bLinN tA cp a0 a1 lnb lml lct) ⟨hx, hb, hml, hown, hts⟩ (c_J0_coder_7d493 l K D tA  H.size si (by first | assumption | omega)) (cwV 0 hts gJ0_getBytes_840e7_J0_coder_7d493 rfl rfl rfl (by decide +kernel) ⟨Nat.le_of_ble_eq_true rfl, Nat.le_of_ble_eq_true rfl⟩) hK hP hD hS hA hCn [] [0, 1] [0, 1] rfl rfl (by decide) (by decide) (by decide) (by decide) (fun _ => rfl) (hCn.1.2.2 si (by omega)).1 rfl rfl hl.1 (Nat.le_of_ble_eq_true rfl) dJ0_getBytes_840e7_1 ⟨Nat.le_of_ble_eq_true rfl, Nat.le_of_ble_eq_true rfl⟩ ?_
    intro z1_1 u H locs p1_2 hP hD hS
    have hP : va_P D vwCl (bLinN tA cp a0 a1 lnb lml lct) H := hP
    have hD : va_D A (bLinN tA cp a0 a1 lnb lml lct) := hD
    have q_1 : z1_1 = 0 := p1_2
    have hz1 : z1_1 = 0 := by first | exact q_1 | omega
    subst hz1
    refine lv_iload_n hx hb dJ0_getBytes_840e7_4 rfl (lv_at hl 3 rfl) ?_
    refine zz_icmp_ne (tgt := 28) hx hb dJ0_getBytes_840e7_5 (by decide) (by decide) (by decide) (fun c_5 => ?_) (fun c_5 => ?_)
    · exact absurd c_5 (by decide)
    · refine lv_aload_n hx hb dJ0_getBytes_840e7_8 rfl (lv_at hl 0 rfl) ?_
      refine vk_getf hx hb (hCn.1.2.2 si (by omega)).2.2.1 hS hown f_9 (fun _ h9 => h9) dJ0_getBytes_840e7_9 ?_
      refine zz_iconst hx hb dJ0_getBytes_840e7_12 ?_
      refine lv_aload_n hx hb dJ0_getBytes_840e7_13 rfl (lv_at hl 1 rfl) ?_
      refine lv_iload_n hx hb dJ0_getBytes_840e7_14 rfl (lv_at hl 2 rfl) ?_
      refine lv_iload_n hx hb dJ0_getBytes_840e7_15 rfl (lv_at hl 3 rfl) ?_
      refine zz_ishl0 hx hb dJ0_getBytes_840e7_16 (by omega) ?_
      refine lv_aload_n hx hb dJ0_getBytes_840e7_17 rfl (lv_at hl 0 rfl) ?_
      refine vk_getf hx hb (hCn.1.2.2 si (by omega)).2.2.1 hS hown f_9 (fun _ h9 => h9) dJ0_getBytes_840e7_18 ?_
      refine va_tlen hx hb (hCn.1.2.2 si (by omega)).2.2.2 hS (v := iI ((sLn si : Nat) : Int)) rfl dJ0_getBytes_840e7_21 ?_
      have rl_21 := sLn_le si
      refine zz_copyK hx hb (by rw [hml]; exact hl.1.symm) hown l_212 ln_212 ls_212 li_212 (Nat.le_of_ble_eq_true rfl) (Nat.le_of_ble_eq_true rfl) hK hP hD hS (hCn.1.2.2 si (by omega)).2.2.2 1 rfl (by omega) (by omega) dJ0_getBytes_840e7_22 (fun H locs hP hD hS => ?_)
      have hP : va_P D vwCl (bLinN tA cp a0 a1 (wrL lnb at1 (sTx.getD si [])) lml lct) H := hP
      have hD : va_D A (bLinN tA cp a0 a1 (wrL lnb at1 (sTx.getD si [])) lml lct) := hD
      refine lv_goto (tgt := 43) hx hb dJ0_getBytes_840e7_25 (by decide) ?_
      exact hret () _ _ _ _ dJ0_getBytes_840e7_43 True.intro hP hD hS

set_option maxHeartbeats 4000000 in
set_option maxRecDepth 100000 in
theorem c_J0_getBytes_840e7_S (l : Launch) (K : Nat → Nat) (D : va_G) (tA : Nat → ClassId) (a0 a1 b0 b1 : Nat) (sz : Nat) (tx : List Int) (lnb : Int → Int) (lml : Int) (lct : Int) (cp : Nat) (at1 : Int) (cd : Int) (r_at1 : -2147483648 ≤ at1 ∧ at1 ≤ 2147483647) (r_cd : -2147483648 ≤ cd ∧ cd ≤ 2147483647) (hcp : cp ≤ 64) (htx : ∀ v ∈ tx, 0 ≤ v ∧ v ≤ 127) (hsn : tx.length ≤ 64) (hcd : cd = 0) (hat : 0 ≤ at1 ∧ at1 + ((tx.length : Nat) : Int) ≤ (cp : Int)) : zCv l yJ0_getBytes_840e7 wsJ0_getBytes_840e7 ({ frames := 1, cells := 0, slots := 0, locals := 40 }) K D tA [.ref a0, .ref b1, .int (iI at1), .int (iI cd)] (bStr tA a0 a1 tx ++ bLinN tA cp b0 b1 lnb lml lct) sz (fun (u : Unit) => True) (fun (u : Unit) => bStr tA a0 a1 tx ++ bLinN tA cp b0 b1 (wrL lnb at1 tx) lml lct) 0 0 := by
  refine zCv_of (cc := cJ0_getBytes_840e7) (maxL := 4) (by decide) rfl (Nat.le_of_ble_eq_true rfl) ?_
  intro p e s m args below meth c A Q ls hx hb hml hts hown hK hP hD hA hCn hret hl
  obtain ⟨H, hHe⟩ : ∃ H : Heap, H = s.heap := ⟨_, rfl⟩
  have hS : va_S A s.heap H [] := by rw [hHe]; exact va_S.rf
  rw [← hHe] at hP ⊢
  have hl : lv_has ls 4 [(0, .ref a0), (1, .ref b1), (2, .int (iI at1)), (3, .int (iI cd))] := hl
  have iJ0 : ∀ v ∈ wsJ00, v ∈ wsJ0_getBytes_840e7 := by decide +kernel
  have f_9 := hts (.fieldLink RJ0 9 "java/lang/String" "value" "[B") (by decide +kernel)
  have l_212 := hts (.methodLink RJ0 212 arraycopyName) (by decide +kernel)
  have ln_212 := hts (.native arraycopyName) (by decide +kernel)
  have ls_212 := hts (.static arraycopyName) (by decide +kernel)
  have li_212 := hts (.initialized "java/lang/System") (by decide +kernel)
  have hcs : cd = 0 := by omega
  have hk := hcs
  · subst hk
    have hl : lv_has ls 4 [(0, .ref a0), (1, .ref b1), (2, .int (iI at1)), (3, .int (iI 0))] := hl
    refine lv_aload_n hx hb dJ0_getBytes_840e7_0 rfl (lv_at hl 0 rfl) ?_
    refine zc_callVi (As := []) (rest := []) (wf := fun u => bStr tA a0 a1 tx ++ bLinN tA cp b0 b1 lnb lml lct) ⟨hx, hb, hml, hown, hts⟩ (c_J0_coder_7d493_S l K D tA a0 a1 H.size tx) (cwV 0 hts gJ0_getBytes_840e7_J0_coder_7d493 rfl rfl rfl (by decide +kernel) ⟨Nat.le_of_ble_eq_true rfl, Nat.le_of_ble_eq_true rfl⟩) hK hP hD hS hA hCn [0, 1] [2, 3] [2, 3, 0, 1] rfl rfl (by decide) (by decide) (by decide) (by decide) (fun _ => rfl) (ci := 0) (q0 := 0) rfl rfl rfl rfl rfl hl.1 (Nat.le_of_ble_eq_true rfl) dJ0_getBytes_840e7_1 ⟨Nat.le_of_ble_eq_true rfl, Nat.le_of_ble_eq_true rfl⟩ ?_
    intro z1_1 u H locs p1_2 hP hD hS
    have hP : va_P D vwCl (bStr tA a0 a1 tx ++ bLinN tA cp b0 b1 lnb lml lct) H := hP
    have hD : va_D A (bStr tA a0 a1 tx ++ bLinN tA cp b0 b1 lnb lml lct) := hD
    have q_1 : z1_1 = 0 := p1_2
    have hz1 : z1_1 = 0 := by first | exact q_1 | omega
    subst hz1
    refine lv_iload_n hx hb dJ0_getBytes_840e7_4 rfl (lv_at hl 3 rfl) ?_
    refine zz_icmp_ne (tgt := 28) hx hb dJ0_getBytes_840e7_5 (by decide) (by decide) (by decide) (fun c_5 => ?_) (fun c_5 => ?_)
    · exact absurd c_5 (by decide)
    · refine lv_aload_n hx hb dJ0_getBytes_840e7_8 rfl (lv_at hl 0 rfl) ?_
      refine va_get (D := D) (ci := 0) (v := .ref a1) (C := RJ0) (T := TJ0) (N := 4) hx hb hts iJ0 hown hK hP 0 rfl rfl 0 (by decide) f_9 (fun _ h9 => h9) rfl dJ0_getBytes_840e7_9 ?_
      refine zz_iconst hx hb dJ0_getBytes_840e7_12 ?_
      refine lv_aload_n hx hb dJ0_getBytes_840e7_13 rfl (lv_at hl 1 rfl) ?_
      refine lv_iload_n hx hb dJ0_getBytes_840e7_14 rfl (lv_at hl 2 rfl) ?_
      refine lv_iload_n hx hb dJ0_getBytes_840e7_15 rfl (lv_at hl 3 rfl) ?_
      refine zz_ishl0 hx hb dJ0_getBytes_840e7_16 (by omega) ?_
      refine lv_aload_n hx hb dJ0_getBytes_840e7_17 rfl (lv_at hl 0 rfl) ?_
      refine va_get (D := D) (ci := 0) (v := .ref a1) (C := RJ0) (T := TJ0) (N := 4) hx hb hts iJ0 hown hK hP 0 rfl rfl 0 (by decide) f_9 (fun _ h9 => h9) rfl dJ0_getBytes_840e7_18 ?_
      refine va_alen hx hb hK hP 1 3 rfl rfl (v := iI ((tx.length : Nat) : Int)) (nI_iI _) dJ0_getBytes_840e7_21 ?_
      refine zz_copyT hx hb (by rw [hml]; exact hl.1.symm) hown l_212 ln_212 ls_212 li_212 (Nat.le_of_ble_eq_true rfl) (Nat.le_of_ble_eq_true rfl) hK hP hD hS 1 3 rfl rfl htx (by omega) (by omega) (by omega) dJ0_getBytes_840e7_22 (fun H locs hP hD hS => ?_)
      have hP : va_P D vwCl (bStr tA a0 a1 tx ++ bLinN tA cp b0 b1 (wrL lnb at1 tx) lml lct) H := hP
      have hD : va_D A (bStr tA a0 a1 tx ++ bLinN tA cp b0 b1 (wrL lnb at1 tx) lml lct) := hD
      refine lv_goto (tgt := 43) hx hb dJ0_getBytes_840e7_25 (by decide) ?_
      exact hret () _ _ _ _ dJ0_getBytes_840e7_43 True.intro hP hD hS

set_option maxHeartbeats 4000000 in
set_option maxRecDepth 100000 in
theorem c_J5_putStringAt_47b60_K (l : Launch) (K : Nat → Nat) (D : va_G) (tA : Nat → ClassId) (a0 a1 : Nat) (sz : Nat) (lnb : Int → Int) (lml : Int) (lct : Int) (cp : Nat) (si : Nat) (at1 : Int) (r_at1 : -2147483648 ≤ at1 ∧ at1 ≤ 2147483647) (hsi : si < 24) (hcp : cp ≤ 64) (hat : 0 ≤ at1 ∧ at1 + ((sLn si : Nat) : Int) ≤ (cp : Int)) : zCv l yJ5_putStringAt_47b60 wsJ5_putStringAt_47b60 ({ frames := 2, cells := 0, slots := 0, locals := 63 }) K D tA [.ref a0, .int (iI at1), .ref (K (100 + si))] (bLinN tA cp a0 a1 lnb lml lct) sz (fun (u : Unit) => True) (fun (u : Unit) => bLinN tA cp a0 a1 (wrL lnb at1 (sTx.getD si [])) lml lct) 0 0 := by
  refine zCv_of (cc := cJ5_putStringAt_47b60) (maxL := 3) (by decide) rfl (Nat.le_of_ble_eq_true rfl) ?_
  intro p e s m args below meth c A Q ls hx hb hml hts hown hK hP hD hA hCn hret hl
  obtain ⟨H, hHe⟩ : ∃ H : Heap, H = s.heap := ⟨_, rfl⟩
  have hS : va_S A s.heap H [] := by rw [hHe]; exact va_S.rf
  rw [← hHe] at hP ⊢
  have hl : lv_has ls 3 [(0, .ref a0), (1, .int (iI at1)), (2, .ref (K (100 + si)))] := hl
  have iJ4 : ∀ v ∈ wsJ40, v ∈ wsJ5_putStringAt_47b60 := by decide +kernel
  have f_15 := hts (.fieldLink RJ5 15 "java/lang/AbstractStringBuilder" "value" "[B") (by decide +kernel)
  have f_22 := hts (.fieldLink RJ5 22 "java/lang/AbstractStringBuilder" "coder" "B") (by decide +kernel)
  refine lv_aload_n hx hb dJ5_putStringAt_47b60_0 rfl (lv_at hl 0 rfl) ?_
  refine lv_aload_n hx hb dJ5_putStringAt_47b60_1 rfl (lv_at hl 2 rfl) ?_
  refine zc_callUv (As := [.ref (K (100 + si))]) (rest := []) (wf := fun u => bLinN tA cp a0 a1 lnb lml lct) ⟨hx, hb, hml, hown, hts⟩ (c_J5_inflateIfNeededFor_a7421_K l K D tA a0 a1 H.size lnb lml lct cp si (by first | assumption | omega)) (va_cwU 1 hts gJ5_putStringAt_47b60_J5_inflateIfNeededFor_a7421_u397J4 rfl rfl rfl rfl ⟨by decide, by decide, by decide +kernel⟩ ⟨Nat.le_of_ble_eq_true rfl, Nat.le_of_ble_eq_true rfl⟩) hK hP hD hS hA hCn [0, 1] [] [0, 1] rfl rfl (by decide) (by decide) (by decide) (by decide) (fun _ => rfl) (ci := 1) (q0 := 0) rfl rfl rfl rfl rfl hl.1 (Nat.le_of_ble_eq_true rfl) dJ5_putStringAt_47b60_2 ⟨Nat.le_of_ble_eq_true rfl, Nat.le_of_ble_eq_true rfl⟩ ?_
  intro u H locs p2_1 hP hD hS
  have hP : va_P D vwCl (bLinN tA cp a0 a1 lnb lml lct) H := hP
  have hD : va_D A (bLinN tA cp a0 a1 lnb lml lct) := hD
  refine lv_aload_n hx hb dJ5_putStringAt_47b60_5 rfl (lv_at hl 2 rfl) ?_
  refine lv_aload_n hx hb dJ5_putStringAt_47b60_6 rfl (lv_at hl 0 rfl) ?_
  refine va_get (D := D) (ci := 1) (v := .ref a1) (C := RJ4) (T := TJ4) (N := 4) hx hb hts iJ4 hown hK hP 0 rfl rfl 0 (by decide) f_15 (fun _ h9 => h9) rfl dJ5_putStringAt_47b60_7 ?_
  refine lv_iload_n hx hb dJ5_putStringAt_47b60_10 rfl (lv_at hl 1 rfl) ?_
  refine lv_aload_n hx hb dJ5_putStringAt_47b60_11 rfl (lv_at hl 0 rfl) ?_
  refine va_get (D := D) (ci := 1) (v := .int (iI 0)) (C := RJ4) (T := TJ4) (N := 4) hx hb hts iJ4 hown hK hP 0 rfl rfl 1 (by decide) f_22 (fun _ h9 => h9) rfl dJ5_putStringAt_47b60_12 ?_
  refine zc_callOv (As := [.ref a1, .int (iI at1), .int (iI 0)]) (rest := []) (wf := fun u => bLinN tA cp a0 a1 (wrL lnb at1 (sTx.getD si [])) lml lct) ⟨hx, hb, hml, hown, hts⟩ (c_J0_getBytes_840e7_K l K D tA a0 a1 H.size lnb lml lct cp si at1 0 (by first | assumption | omega) (by first | assumption | omega) (by first | assumption | omega) (by first | assumption | omega) (by first | assumption | omega) (by first | assumption | omega)) (cwV 3 hts gJ5_putStringAt_47b60_J0_getBytes_840e7 rfl rfl rfl (by decide +kernel) ⟨Nat.le_of_ble_eq_true rfl, Nat.le_of_ble_eq_true rfl⟩) hK hP hD hS hA hCn [0, 1] [] [0, 1] rfl rfl (by decide) (by decide) (by decide) (by decide) (fun _ => rfl) (hCn.1.2.2 si (by omega)).1 rfl rfl hl.1 (Nat.le_of_ble_eq_true rfl) dJ5_putStringAt_47b60_15 ⟨Nat.le_of_ble_eq_true rfl, Nat.le_of_ble_eq_true rfl⟩ ?_
  intro u H locs p15_2 hP hD hS
  have hP : va_P D vwCl (bLinN tA cp a0 a1 (wrL lnb at1 (sTx.getD si [])) lml lct) H := hP
  have hD : va_D A (bLinN tA cp a0 a1 (wrL lnb at1 (sTx.getD si [])) lml lct) := hD
  exact hret () _ _ _ _ dJ5_putStringAt_47b60_18 True.intro hP hD hS

set_option maxHeartbeats 4000000 in
set_option maxRecDepth 100000 in
theorem c_J5_putStringAt_47b60_S (l : Launch) (K : Nat → Nat) (D : va_G) (tA : Nat → ClassId) (a0 a1 b0 b1 : Nat) (sz : Nat) (lnb : Int → Int) (lml : Int) (lct : Int) (tx : List Int) (cp : Nat) (at1 : Int) (r_at1 : -2147483648 ≤ at1 ∧ at1 ≤ 2147483647) (hcp : cp ≤ 64) (htx : ∀ v ∈ tx, 0 ≤ v ∧ v ≤ 127) (hsn : tx.length ≤ 64) (hat : 0 ≤ at1 ∧ at1 + ((tx.length : Nat) : Int) ≤ (cp : Int)) : zCv l yJ5_putStringAt_47b60 wsJ5_putStringAt_47b60 ({ frames := 2, cells := 0, slots := 0, locals := 63 }) K D tA [.ref a0, .int (iI at1), .ref b0] (bLinN tA cp a0 a1 lnb lml lct ++ bStr tA b0 b1 tx) sz (fun (u : Unit) => True) (fun (u : Unit) => bLinN tA cp a0 a1 (wrL lnb at1 tx) lml lct ++ bStr tA b0 b1 tx) 0 0 := by
  refine zCv_of (cc := cJ5_putStringAt_47b60) (maxL := 3) (by decide) rfl (Nat.le_of_ble_eq_true rfl) ?_
  intro p e s m args below meth c A Q ls hx hb hml hts hown hK hP hD hA hCn hret hl
  obtain ⟨H, hHe⟩ : ∃ H : Heap, H = s.heap := ⟨_, rfl⟩
  have hS : va_S A s.heap H [] := by rw [hHe]; exact va_S.rf
  rw [← hHe] at hP ⊢
  have hl : lv_has ls 3 [(0, .ref a0), (1, .int (iI at1)), (2, .ref b0)] := hl
  have iJ4 : ∀ v ∈ wsJ40, v ∈ wsJ5_putStringAt_47b60 := by decide +kernel
  have f_15 := hts (.fieldLink RJ5 15 "java/lang/AbstractStringBuilder" "value" "[B") (by decide +kernel)
  have f_22 := hts (.fieldLink RJ5 22 "java/lang/AbstractStringBuilder" "coder" "B") (by decide +kernel)
  refine lv_aload_n hx hb dJ5_putStringAt_47b60_0 rfl (lv_at hl 0 rfl) ?_
  refine lv_aload_n hx hb dJ5_putStringAt_47b60_1 rfl (lv_at hl 2 rfl) ?_
  refine zc_callUv (As := [.ref b0]) (rest := []) (wf := fun u => bLinN tA cp a0 a1 lnb lml lct ++ bStr tA b0 b1 tx) ⟨hx, hb, hml, hown, hts⟩ (c_J5_inflateIfNeededFor_a7421_S l K D tA a0 a1 b0 b1 H.size lnb lml lct tx cp) (va_cwU 1 hts gJ5_putStringAt_47b60_J5_inflateIfNeededFor_a7421_u397J4 rfl rfl rfl rfl ⟨by decide, by decide, by decide +kernel⟩ ⟨Nat.le_of_ble_eq_true rfl, Nat.le_of_ble_eq_true rfl⟩) hK hP hD hS hA hCn [0, 1, 2, 3] [] [0, 1, 2, 3] rfl rfl (by decide) (by decide) (by decide) (by decide) (fun _ => rfl) (ci := 1) (q0 := 0) rfl rfl rfl rfl rfl hl.1 (Nat.le_of_ble_eq_true rfl) dJ5_putStringAt_47b60_2 ⟨Nat.le_of_ble_eq_true rfl, Nat.le_of_ble_eq_true rfl⟩ ?_
  intro u H locs p2_1 hP hD hS
  have hP : va_P D vwCl (bLinN tA cp a0 a1 lnb lml lct ++ bStr tA b0 b1 tx) H := hP
  have hD : va_D A (bLinN tA cp a0 a1 lnb lml lct ++ bStr tA b0 b1 tx) := hD
  refine lv_aload_n hx hb dJ5_putStringAt_47b60_5 rfl (lv_at hl 2 rfl) ?_
  refine lv_aload_n hx hb dJ5_putStringAt_47b60_6 rfl (lv_at hl 0 rfl) ?_
  refine va_get (D := D) (ci := 1) (v := .ref a1) (C := RJ4) (T := TJ4) (N := 4) hx hb hts iJ4 hown hK hP 0 rfl rfl 0 (by decide) f_15 (fun _ h9 => h9) rfl dJ5_putStringAt_47b60_7 ?_
  refine lv_iload_n hx hb dJ5_putStringAt_47b60_10 rfl (lv_at hl 1 rfl) ?_
  refine lv_aload_n hx hb dJ5_putStringAt_47b60_11 rfl (lv_at hl 0 rfl) ?_
  refine va_get (D := D) (ci := 1) (v := .int (iI 0)) (C := RJ4) (T := TJ4) (N := 4) hx hb hts iJ4 hown hK hP 0 rfl rfl 1 (by decide) f_22 (fun _ h9 => h9) rfl dJ5_putStringAt_47b60_12 ?_
  refine zc_callVv (As := [.ref a1, .int (iI at1), .int (iI 0)]) (rest := []) (wf := fun u => bLinN tA cp a0 a1 (wrL lnb at1 tx) lml lct ++ bStr tA b0 b1 tx) ⟨hx, hb, hml, hown, hts⟩ (c_J0_getBytes_840e7_S l K D tA b0 b1 a0 a1 H.size tx lnb lml lct cp at1 0 (by first | assumption | omega) (by first | assumption | omega) (by first | assumption | omega) (by first | assumption | omega) (by first | assumption | omega) (by first | assumption | omega) (by first | assumption | omega)) (cwV 3 hts gJ5_putStringAt_47b60_J0_getBytes_840e7 rfl rfl rfl (by decide +kernel) ⟨Nat.le_of_ble_eq_true rfl, Nat.le_of_ble_eq_true rfl⟩) hK hP hD hS hA hCn [2, 3, 0, 1] [] [2, 3, 0, 1] rfl rfl (by decide) (by decide) (by decide) (by decide) (fun _ => rfl) (ci := 0) (q0 := 0) rfl rfl rfl rfl rfl hl.1 (Nat.le_of_ble_eq_true rfl) dJ5_putStringAt_47b60_15 ⟨Nat.le_of_ble_eq_true rfl, Nat.le_of_ble_eq_true rfl⟩ ?_
  intro u H locs p15_2 hP hD hS
  have hP : va_P D vwCl (bLinN tA cp a0 a1 (wrL lnb at1 tx) lml lct ++ bStr tA b0 b1 tx) H := hP
  have hD : va_D A (bLinN tA cp a0 a1 (wrL lnb at1 tx) lml lct ++ bStr tA b0 b1 tx) := hD
  exact hret () _ _ _ _ dJ5_putStringAt_47b60_18 True.intro hP hD hS

set_option maxHeartbeats 4000000 in
set_option maxRecDepth 100000 in
theorem c_J5_append_cf1ce_K (l : Launch) (K : Nat → Nat) (D : va_G) (tA : Nat → ClassId) (a0 a1 : Nat) (sz : Nat) (lnb : Int → Int) (lml : Int) (lct : Int) (cp : Nat) (si : Nat) (hsi : si < 24) (hcp : cp ≤ 64) (hlc : 0 ≤ lct ∧ lct + ((sLn si : Nat) : Int) ≤ (cp : Int)) : zCr l yJ5_append_cf1ce wsJ5_append_cf1ce ({ frames := 3, cells := 0, slots := 0, locals := 85 }) K D tA [.ref a0, .ref (K (100 + si))] a0 (bLinN tA cp a0 a1 lnb lml lct) sz (fun (u : Unit) => True) (fun (u : Unit) => bLinN tA cp a0 a1 (wrL lnb lct (sTx.getD si [])) lml (lct + ((sLn si : Nat) : Int))) 0 0 := by
  refine zCr_of (cc := cJ5_append_cf1ce) (maxL := 3) (by decide) rfl (Or.inl ⟨_, rfl⟩) (Nat.le_of_ble_eq_true rfl) ?_
  intro p e s m args below meth c A Q ls hx hb hml hts hown hK hP hD hA hCn hret hl
  obtain ⟨H, hHe⟩ : ∃ H : Heap, H = s.heap := ⟨_, rfl⟩
  have hS : va_S A s.heap H [] := by rw [hHe]; exact va_S.rf
  rw [← hHe] at hP ⊢
  have hl : lv_has ls 3 [(0, .ref a0), (1, .ref (K (100 + si)))] := hl
  have iJ4 : ∀ v ∈ wsJ40, v ∈ wsJ5_append_cf1ce := by decide +kernel
  have f_79 := hts (.fieldLink RJ5 79 "java/lang/AbstractStringBuilder" "count" "I") (by decide +kernel)
  refine lv_aload_n hx hb dJ5_append_cf1ce_0 rfl (lv_at hl 1 rfl) ?_
  refine lv_ifnonnull (tgt := 9) hx hb dJ5_append_cf1ce_1 (by decide) ?_
  refine lv_aload_n hx hb dJ5_append_cf1ce_9 rfl (lv_at hl 1 rfl) ?_
  refine zc_callOi (As := []) (rest := []) (wf := fun u => bLinN tA cp a0 a1 lnb lml lct) ⟨hx, hb, hml, hown, hts⟩ (c_J0_length_8abf5 l K D tA  H.size si (by first | assumption | omega)) (cwV 0 hts gJ5_append_cf1ce_J0_length_8abf5 rfl rfl rfl (by decide +kernel) ⟨Nat.le_of_ble_eq_true rfl, Nat.le_of_ble_eq_true rfl⟩) hK hP hD hS hA hCn [] [0, 1] [0, 1] rfl rfl (by decide) (by decide) (by decide) (by decide) (fun _ => rfl) (hCn.1.2.2 si (by omega)).1 rfl rfl hl.1 (Nat.le_of_ble_eq_true rfl) dJ5_append_cf1ce_10 ⟨Nat.le_of_ble_eq_true rfl, Nat.le_of_ble_eq_true rfl⟩ ?_
  intro z10_1 u H locs p10_2 hP hD hS
  have hP : va_P D vwCl (bLinN tA cp a0 a1 lnb lml lct) H := hP
  have hD : va_D A (bLinN tA cp a0 a1 lnb lml lct) := hD
  have q_10 : z10_1 = ((sLn si : Nat) : Int) := p10_2
  refine lv_istore_n (lv' := [(2, .int (iI z10_1)), (0, .ref a0), (1, .ref (K (100 + si)))]) hx hb dJ5_append_cf1ce_13 rfl hl (by decide) rfl (fun ls hl => ?_)
  refine lv_aload_n hx hb dJ5_append_cf1ce_14 rfl (lv_at hl 1 rfl) ?_
  refine lv_aload_n hx hb dJ5_append_cf1ce_15 rfl (lv_at hl 1 rfl) ?_
  refine va_get (D := D) (ci := 1) (v := .int (iI lct)) (C := RJ4) (T := TJ4) (N := 4) hx hb hts iJ4 hown hK hP 0 rfl rfl 3 (by decide) f_79 (fun _ h9 => h9) rfl dJ5_append_cf1ce_16 ?_
  refine lv_iload_n hx hb dJ5_append_cf1ce_19 rfl (lv_at hl 0 rfl) ?_
  refine zz_iadd hx hb dJ5_append_cf1ce_20 ?_
  refine zc_callUv (As := [.int (iI (lct + z10_1))]) (rest := []) (wf := fun u => bLinN tA cp a0 a1 lnb lml lct) ⟨hx, hb, hml, hown, hts⟩ (c_J5_ensureCapacityInternal_d00df_N l K D tA a0 a1 H.size lnb lml lct cp (lct + z10_1) (by first | assumption | omega) (by first | assumption | omega) (by first | assumption | omega)) (va_cwU 1 hts gJ5_append_cf1ce_J5_ensureCapacityInternal_d00df_u100J4 rfl rfl rfl rfl ⟨by decide, by decide, by decide +kernel⟩ ⟨Nat.le_of_ble_eq_true rfl, Nat.le_of_ble_eq_true rfl⟩) hK hP hD hS hA hCn [0, 1] [] [0, 1] rfl rfl (by decide) (by decide) (by decide) (by decide) (fun _ => rfl) (ci := 1) (q0 := 0) rfl rfl rfl rfl rfl hl.1 (Nat.le_of_ble_eq_true rfl) dJ5_append_cf1ce_21 ⟨Nat.le_of_ble_eq_true rfl, Nat.le_of_ble_eq_true rfl⟩ ?_
  intro u H locs p21_3 hP hD hS
  have hP : va_P D vwCl (bLinN tA cp a0 a1 lnb lml lct) H := hP
  have hD : va_D A (bLinN tA cp a0 a1 lnb lml lct) := hD
  refine lv_aload_n hx hb dJ5_append_cf1ce_24 rfl (lv_at hl 1 rfl) ?_
  refine lv_aload_n hx hb dJ5_append_cf1ce_25 rfl (lv_at hl 1 rfl) ?_
  refine va_get (D := D) (ci := 1) (v := .int (iI lct)) (C := RJ4) (T := TJ4) (N := 4) hx hb hts iJ4 hown hK hP 0 rfl rfl 3 (by decide) f_79 (fun _ h9 => h9) rfl dJ5_append_cf1ce_26 ?_
  refine lv_aload_n hx hb dJ5_append_cf1ce_29 rfl (lv_at hl 2 rfl) ?_
  refine zc_callUv (As := [.int (iI lct), .ref (K (100 + si))]) (rest := []) (wf := fun u => bLinN tA cp a0 a1 (wrL lnb lct (sTx.getD si [])) lml lct) ⟨hx, hb, hml, hown, hts⟩ (c_J5_putStringAt_47b60_K l K D tA a0 a1 H.size lnb lml lct cp si lct (by first | assumption | omega) (by first | assumption | omega) (by first | assumption | omega) (by first | assumption | omega)) (va_cwU 2 hts gJ5_append_cf1ce_J5_putStringAt_47b60_u208J4 rfl rfl rfl rfl ⟨by decide, by decide, by decide +kernel⟩ ⟨Nat.le_of_ble_eq_true rfl, Nat.le_of_ble_eq_true rfl⟩) hK hP hD hS hA hCn [0, 1] [] [0, 1] rfl rfl (by decide) (by decide) (by decide) (by decide) (fun _ => rfl) (ci := 1) (q0 := 0) rfl rfl rfl rfl rfl hl.1 (Nat.le_of_ble_eq_true rfl) dJ5_append_cf1ce_30 ⟨Nat.le_of_ble_eq_true rfl, Nat.le_of_ble_eq_true rfl⟩ ?_
  intro u H locs p30_4 hP hD hS
  have hP : va_P D vwCl (bLinN tA cp a0 a1 (wrL lnb lct (sTx.getD si [])) lml lct) H := hP
  have hD : va_D A (bLinN tA cp a0 a1 (wrL lnb lct (sTx.getD si [])) lml lct) := hD
  refine lv_aload_n hx hb dJ5_append_cf1ce_33 rfl (lv_at hl 1 rfl) ?_
  refine lv_dup hx hb dJ5_append_cf1ce_34 rfl ?_
  refine va_get (D := D) (ci := 1) (v := .int (iI lct)) (C := RJ4) (T := TJ4) (N := 4) hx hb hts iJ4 hown hK hP 0 rfl rfl 3 (by decide) f_79 (fun _ h9 => h9) rfl dJ5_append_cf1ce_35 ?_
  refine lv_iload_n hx hb dJ5_append_cf1ce_38 rfl (lv_at hl 0 rfl) ?_
  refine zz_iadd hx hb dJ5_append_cf1ce_39 ?_
  refine va_put (D := D) (ci := 1) (v := .int (iI (lct + z10_1))) (ty := .int) (C := RJ4) (T := TJ4) (N := 4) hx hb hts iJ4 tyJ4 tyJ4_ok nmJ4 hown hK hP hD hS 0 rfl rfl 3 (by decide) f_79 (fun _ h9 => h9) rfl (by decide +kernel) rfl rfl (Nat.le_of_ble_eq_true rfl) dJ5_append_cf1ce_40 (fun H locs hP hD hS => ?_)
  have hP : va_P D vwCl (bLinN tA cp a0 a1 (wrL lnb lct (sTx.getD si [])) lml (lct + z10_1)) H := hP
  have hD : va_D A (bLinN tA cp a0 a1 (wrL lnb lct (sTx.getD si [])) lml (lct + z10_1)) := hD
  refine lv_aload_n hx hb dJ5_append_cf1ce_43 rfl (lv_at hl 1 rfl) ?_
  have e_lct : ((lct + z10_1) : Int) = (lct + ((sLn si : Nat) : Int)) := by omega
  rw [e_lct] at hP hD
  exact hret () _ _ _ _ dJ5_append_cf1ce_44 True.intro hP hD hS

set_option maxHeartbeats 4000000 in
set_option maxRecDepth 100000 in
theorem c_J5_append_cf1ce_S (l : Launch) (K : Nat → Nat) (D : va_G) (tA : Nat → ClassId) (a0 a1 b0 b1 : Nat) (sz : Nat) (lnb : Int → Int) (lml : Int) (lct : Int) (tx : List Int) (cp : Nat) (hcp : cp ≤ 64) (htx : ∀ v ∈ tx, 0 ≤ v ∧ v ≤ 127) (hsn : tx.length ≤ 64) (hlc : 0 ≤ lct ∧ lct + ((tx.length : Nat) : Int) ≤ (cp : Int)) : zCr l yJ5_append_cf1ce wsJ5_append_cf1ce ({ frames := 3, cells := 0, slots := 0, locals := 85 }) K D tA [.ref a0, .ref b0] a0 (bLinN tA cp a0 a1 lnb lml lct ++ bStr tA b0 b1 tx) sz (fun (u : Unit) => True) (fun (u : Unit) => bLinN tA cp a0 a1 (wrL lnb lct tx) lml (lct + ((tx.length : Nat) : Int)) ++ bStr tA b0 b1 tx) 0 0 := by
  refine zCr_of (cc := cJ5_append_cf1ce) (maxL := 3) (by decide) rfl (Or.inl ⟨_, rfl⟩) (Nat.le_of_ble_eq_true rfl) ?_
  intro p e s m args below meth c A Q ls hx hb hml hts hown hK hP hD hA hCn hret hl
  obtain ⟨H, hHe⟩ : ∃ H : Heap, H = s.heap := ⟨_, rfl⟩
  have hS : va_S A s.heap H [] := by rw [hHe]; exact va_S.rf
  rw [← hHe] at hP ⊢
  have hl : lv_has ls 3 [(0, .ref a0), (1, .ref b0)] := hl
  have iJ4 : ∀ v ∈ wsJ40, v ∈ wsJ5_append_cf1ce := by decide +kernel
  have f_79 := hts (.fieldLink RJ5 79 "java/lang/AbstractStringBuilder" "count" "I") (by decide +kernel)
  refine lv_aload_n hx hb dJ5_append_cf1ce_0 rfl (lv_at hl 1 rfl) ?_
  refine lv_ifnonnull (tgt := 9) hx hb dJ5_append_cf1ce_1 (by decide) ?_
  refine lv_aload_n hx hb dJ5_append_cf1ce_9 rfl (lv_at hl 1 rfl) ?_
  refine zc_callVi (As := []) (rest := []) (wf := fun u => bLinN tA cp a0 a1 lnb lml lct ++ bStr tA b0 b1 tx) ⟨hx, hb, hml, hown, hts⟩ (c_J0_length_8abf5_S l K D tA b0 b1 H.size tx (by first | assumption | omega)) (cwV 0 hts gJ5_append_cf1ce_J0_length_8abf5 rfl rfl rfl (by decide +kernel) ⟨Nat.le_of_ble_eq_true rfl, Nat.le_of_ble_eq_true rfl⟩) hK hP hD hS hA hCn [2, 3] [0, 1] [0, 1, 2, 3] rfl rfl (by decide) (by decide) (by decide) (by decide) (fun _ => rfl) (ci := 0) (q0 := 0) rfl rfl rfl rfl rfl hl.1 (Nat.le_of_ble_eq_true rfl) dJ5_append_cf1ce_10 ⟨Nat.le_of_ble_eq_true rfl, Nat.le_of_ble_eq_true rfl⟩ ?_
  intro z10_1 u H locs p10_2 hP hD hS
  have hP : va_P D vwCl (bLinN tA cp a0 a1 lnb lml lct ++ bStr tA b0 b1 tx) H := hP
  have hD : va_D A (bLinN tA cp a0 a1 lnb lml lct ++ bStr tA b0 b1 tx) := hD
  have q_10 : z10_1 = ((tx.length : Nat) : Int) := p10_2
  refine lv_istore_n (lv' := [(2, .int (iI z10_1)), (0, .ref a0), (1, .ref b0)]) hx hb dJ5_append_cf1ce_13 rfl hl (by decide) rfl (fun ls hl => ?_)
  refine lv_aload_n hx hb dJ5_append_cf1ce_14 rfl (lv_at hl 1 rfl) ?_
  refine lv_aload_n hx hb dJ5_append_cf1ce_15 rfl (lv_at hl 1 rfl) ?_
  refine va_get (D := D) (ci := 1) (v := .int (iI lct)) (C := RJ4) (T := TJ4) (N := 4) hx hb hts iJ4 hown hK hP 0 rfl rfl 3 (by decide) f_79 (fun _ h9 => h9) rfl dJ5_append_cf1ce_16 ?_
  refine lv_iload_n hx hb dJ5_append_cf1ce_19 rfl (lv_at hl 0 rfl) ?_
  refine zz_iadd hx hb dJ5_append_cf1ce_20 ?_
  refine zc_callUv (As := [.int (iI (lct + z10_1))]) (rest := []) (wf := fun u => bLinN tA cp a0 a1 lnb lml lct ++ bStr tA b0 b1 tx) ⟨hx, hb, hml, hown, hts⟩ (c_J5_ensureCapacityInternal_d00df_N l K D tA a0 a1 H.size lnb lml lct cp (lct + z10_1) (by first | assumption | omega) (by first | assumption | omega) (by first | assumption | omega)) (va_cwU 1 hts gJ5_append_cf1ce_J5_ensureCapacityInternal_d00df_u100J4 rfl rfl rfl rfl ⟨by decide, by decide, by decide +kernel⟩ ⟨Nat.le_of_ble_eq_true rfl, Nat.le_of_ble_eq_true rfl⟩) hK hP hD hS hA hCn [0, 1] [2, 3] [2, 3, 0, 1] rfl rfl (by decide) (by decide) (by decide) (by decide) (fun _ => rfl) (ci := 1) (q0 := 0) rfl rfl rfl rfl rfl hl.1 (Nat.le_of_ble_eq_true rfl) dJ5_append_cf1ce_21 ⟨Nat.le_of_ble_eq_true rfl, Nat.le_of_ble_eq_true rfl⟩ ?_
  intro u H locs p21_3 hP hD hS
  have hP : va_P D vwCl (bLinN tA cp a0 a1 lnb lml lct ++ bStr tA b0 b1 tx) H := hP
  have hD : va_D A (bLinN tA cp a0 a1 lnb lml lct ++ bStr tA b0 b1 tx) := hD
  refine lv_aload_n hx hb dJ5_append_cf1ce_24 rfl (lv_at hl 1 rfl) ?_
  refine lv_aload_n hx hb dJ5_append_cf1ce_25 rfl (lv_at hl 1 rfl) ?_
  refine va_get (D := D) (ci := 1) (v := .int (iI lct)) (C := RJ4) (T := TJ4) (N := 4) hx hb hts iJ4 hown hK hP 0 rfl rfl 3 (by decide) f_79 (fun _ h9 => h9) rfl dJ5_append_cf1ce_26 ?_
  refine lv_aload_n hx hb dJ5_append_cf1ce_29 rfl (lv_at hl 2 rfl) ?_
  refine zc_callUv (As := [.int (iI lct), .ref b0]) (rest := []) (wf := fun u => bLinN tA cp a0 a1 (wrL lnb lct tx) lml lct ++ bStr tA b0 b1 tx) ⟨hx, hb, hml, hown, hts⟩ (c_J5_putStringAt_47b60_S l K D tA a0 a1 b0 b1 H.size lnb lml lct tx cp lct (by first | assumption | omega) (by first | assumption | omega) (by first | assumption | omega) (by first | assumption | omega) (by first | assumption | omega)) (va_cwU 2 hts gJ5_append_cf1ce_J5_putStringAt_47b60_u208J4 rfl rfl rfl rfl ⟨by decide, by decide, by decide +kernel⟩ ⟨Nat.le_of_ble_eq_true rfl, Nat.le_of_ble_eq_true rfl⟩) hK hP hD hS hA hCn [0, 1, 2, 3] [] [0, 1, 2, 3] rfl rfl (by decide) (by decide) (by decide) (by decide) (fun _ => rfl) (ci := 1) (q0 := 0) rfl rfl rfl rfl rfl hl.1 (Nat.le_of_ble_eq_true rfl) dJ5_append_cf1ce_30 ⟨Nat.le_of_ble_eq_true rfl, Nat.le_of_ble_eq_true rfl⟩ ?_
  intro u H locs p30_4 hP hD hS
  have hP : va_P D vwCl (bLinN tA cp a0 a1 (wrL lnb lct tx) lml lct ++ bStr tA b0 b1 tx) H := hP
  have hD : va_D A (bLinN tA cp a0 a1 (wrL lnb lct tx) lml lct ++ bStr tA b0 b1 tx) := hD
  refine lv_aload_n hx hb dJ5_append_cf1ce_33 rfl (lv_at hl 1 rfl) ?_
  refine lv_dup hx hb dJ5_append_cf1ce_34 rfl ?_
  refine va_get (D := D) (ci := 1) (v := .int (iI lct)) (C := RJ4) (T := TJ4) (N := 4) hx hb hts iJ4 hown hK hP 0 rfl rfl 3 (by decide) f_79 (fun _ h9 => h9) rfl dJ5_append_cf1ce_35 ?_
  refine lv_iload_n hx hb dJ5_append_cf1ce_38 rfl (lv_at hl 0 rfl) ?_
  refine zz_iadd hx hb dJ5_append_cf1ce_39 ?_
  refine va_put (D := D) (ci := 1) (v := .int (iI (lct + z10_1))) (ty := .int) (C := RJ4) (T := TJ4) (N := 4) hx hb hts iJ4 tyJ4 tyJ4_ok nmJ4 hown hK hP hD hS 0 rfl rfl 3 (by decide) f_79 (fun _ h9 => h9) rfl (by decide +kernel) rfl rfl (Nat.le_of_ble_eq_true rfl) dJ5_append_cf1ce_40 (fun H locs hP hD hS => ?_)
  have hP : va_P D vwCl (bLinN tA cp a0 a1 (wrL lnb lct tx) lml (lct + z10_1) ++ bStr tA b0 b1 tx) H := hP
  have hD : va_D A (bLinN tA cp a0 a1 (wrL lnb lct tx) lml (lct + z10_1) ++ bStr tA b0 b1 tx) := hD
  refine lv_aload_n hx hb dJ5_append_cf1ce_43 rfl (lv_at hl 1 rfl) ?_
  have e_lct : ((lct + z10_1) : Int) = (lct + ((tx.length : Nat) : Int)) := by omega
  rw [e_lct] at hP hD
  exact hret () _ _ _ _ dJ5_append_cf1ce_44 True.intro hP hD hS

set_option maxHeartbeats 4000000 in
set_option maxRecDepth 100000 in
theorem c_J4_append_15ec4_K (l : Launch) (K : Nat → Nat) (D : va_G) (tA : Nat → ClassId) (a0 a1 : Nat) (sz : Nat) (lnb : Int → Int) (lml : Int) (lct : Int) (cp : Nat) (si : Nat) (hsi : si < 24) (hcp : cp ≤ 64) (hlc : 0 ≤ lct ∧ lct + ((sLn si : Nat) : Int) ≤ (cp : Int)) : zCr l yJ4_append_15ec4 wsJ4_append_15ec4 ({ frames := 4, cells := 0, slots := 0, locals := 107 }) K D tA [.ref a0, .ref (K (100 + si))] a0 (bLinN tA cp a0 a1 lnb lml lct) sz (fun (u : Unit) => True) (fun (u : Unit) => bLinN tA cp a0 a1 (wrL lnb lct (sTx.getD si [])) lml (lct + ((sLn si : Nat) : Int))) 0 0 := by
  refine zCr_of (cc := cJ4_append_15ec4) (maxL := 2) (by decide) rfl (Or.inl ⟨_, rfl⟩) (Nat.le_of_ble_eq_true rfl) ?_
  intro p e s m args below meth c A Q ls hx hb hml hts hown hK hP hD hA hCn hret hl
  obtain ⟨H, hHe⟩ : ∃ H : Heap, H = s.heap := ⟨_, rfl⟩
  have hS : va_S A s.heap H [] := by rw [hHe]; exact va_S.rf
  rw [← hHe] at hP ⊢
  have hl : lv_has ls 2 [(0, .ref a0), (1, .ref (K (100 + si)))] := hl
  refine lv_aload_n hx hb dJ4_append_15ec4_0 rfl (lv_at hl 0 rfl) ?_
  refine lv_aload_n hx hb dJ4_append_15ec4_1 rfl (lv_at hl 1 rfl) ?_
  refine zc_callSUr (As := [.ref (K (100 + si))]) (rest := []) (wf := fun u => bLinN tA cp a0 a1 (wrL lnb lct (sTx.getD si [])) lml (lct + ((sLn si : Nat) : Int))) ⟨hx, hb, hml, hown, hts⟩ (c_J5_append_cf1ce_K l K D tA a0 a1 H.size lnb lml lct cp si (by first | assumption | omega) (by first | assumption | omega) (by first | assumption | omega)) (va_cwSU 1 hts gJ4_append_15ec4_J5_append_cf1ce_s29 rfl rfl rfl ⟨by decide, by decide +kernel⟩ ⟨Nat.le_of_ble_eq_true rfl, Nat.le_of_ble_eq_true rfl⟩) hK hP hD hS hA hCn [0, 1] [] [0, 1] rfl rfl (by decide) (by decide) (by decide) (by decide) (fun _ => rfl) (hK.1 1 (RJ4, TJ4, 4) rfl).2 (ci := 1) (q0 := 0) rfl rfl rfl rfl rfl hl.1 (Nat.le_of_ble_eq_true rfl) dJ4_append_15ec4_2 ⟨Nat.le_of_ble_eq_true rfl, Nat.le_of_ble_eq_true rfl⟩ ?_
  intro u H locs p2_1 hP hD hS
  have hP : va_P D vwCl (bLinN tA cp a0 a1 (wrL lnb lct (sTx.getD si [])) lml (lct + ((sLn si : Nat) : Int))) H := hP
  have hD : va_D A (bLinN tA cp a0 a1 (wrL lnb lct (sTx.getD si [])) lml (lct + ((sLn si : Nat) : Int))) := hD
  refine lv_pop hx hb dJ4_append_15ec4_5 rfl ?_
  refine lv_aload_n hx hb dJ4_append_15ec4_6 rfl (lv_at hl 0 rfl) ?_
  exact hret () _ _ _ _ dJ4_append_15ec4_7 True.intro hP hD hS

set_option maxHeartbeats 4000000 in
set_option maxRecDepth 100000 in
theorem c_J4_append_15ec4_S (l : Launch) (K : Nat → Nat) (D : va_G) (tA : Nat → ClassId) (a0 a1 b0 b1 : Nat) (sz : Nat) (lnb : Int → Int) (lml : Int) (lct : Int) (tx : List Int) (cp : Nat) (hcp : cp ≤ 64) (htx : ∀ v ∈ tx, 0 ≤ v ∧ v ≤ 127) (hsn : tx.length ≤ 64) (hlc : 0 ≤ lct ∧ lct + ((tx.length : Nat) : Int) ≤ (cp : Int)) : zCr l yJ4_append_15ec4 wsJ4_append_15ec4 ({ frames := 4, cells := 0, slots := 0, locals := 107 }) K D tA [.ref a0, .ref b0] a0 (bLinN tA cp a0 a1 lnb lml lct ++ bStr tA b0 b1 tx) sz (fun (u : Unit) => True) (fun (u : Unit) => bLinN tA cp a0 a1 (wrL lnb lct tx) lml (lct + ((tx.length : Nat) : Int)) ++ bStr tA b0 b1 tx) 0 0 := by
  refine zCr_of (cc := cJ4_append_15ec4) (maxL := 2) (by decide) rfl (Or.inl ⟨_, rfl⟩) (Nat.le_of_ble_eq_true rfl) ?_
  intro p e s m args below meth c A Q ls hx hb hml hts hown hK hP hD hA hCn hret hl
  obtain ⟨H, hHe⟩ : ∃ H : Heap, H = s.heap := ⟨_, rfl⟩
  have hS : va_S A s.heap H [] := by rw [hHe]; exact va_S.rf
  rw [← hHe] at hP ⊢
  have hl : lv_has ls 2 [(0, .ref a0), (1, .ref b0)] := hl
  refine lv_aload_n hx hb dJ4_append_15ec4_0 rfl (lv_at hl 0 rfl) ?_
  refine lv_aload_n hx hb dJ4_append_15ec4_1 rfl (lv_at hl 1 rfl) ?_
  refine zc_callSUr (As := [.ref b0]) (rest := []) (wf := fun u => bLinN tA cp a0 a1 (wrL lnb lct tx) lml (lct + ((tx.length : Nat) : Int)) ++ bStr tA b0 b1 tx) ⟨hx, hb, hml, hown, hts⟩ (c_J5_append_cf1ce_S l K D tA a0 a1 b0 b1 H.size lnb lml lct tx cp (by first | assumption | omega) (by first | assumption | omega) (by first | assumption | omega) (by first | assumption | omega)) (va_cwSU 1 hts gJ4_append_15ec4_J5_append_cf1ce_s29 rfl rfl rfl ⟨by decide, by decide +kernel⟩ ⟨Nat.le_of_ble_eq_true rfl, Nat.le_of_ble_eq_true rfl⟩) hK hP hD hS hA hCn [0, 1, 2, 3] [] [0, 1, 2, 3] rfl rfl (by decide) (by decide) (by decide) (by decide) (fun _ => rfl) (hK.1 1 (RJ4, TJ4, 4) rfl).2 (ci := 1) (q0 := 0) rfl rfl rfl rfl rfl hl.1 (Nat.le_of_ble_eq_true rfl) dJ4_append_15ec4_2 ⟨Nat.le_of_ble_eq_true rfl, Nat.le_of_ble_eq_true rfl⟩ ?_
  intro u H locs p2_1 hP hD hS
  have hP : va_P D vwCl (bLinN tA cp a0 a1 (wrL lnb lct tx) lml (lct + ((tx.length : Nat) : Int)) ++ bStr tA b0 b1 tx) H := hP
  have hD : va_D A (bLinN tA cp a0 a1 (wrL lnb lct tx) lml (lct + ((tx.length : Nat) : Int)) ++ bStr tA b0 b1 tx) := hD
  refine lv_pop hx hb dJ4_append_15ec4_5 rfl ?_
  refine lv_aload_n hx hb dJ4_append_15ec4_6 rfl (lv_at hl 0 rfl) ?_
  exact hret () _ _ _ _ dJ4_append_15ec4_7 True.intro hP hD hS

