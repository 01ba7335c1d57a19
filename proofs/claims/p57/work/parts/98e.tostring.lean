/-! ===== p57: toString ===== -/
set_option maxHeartbeats 4000000 in
set_option maxRecDepth 100000 in
theorem c_J5_getValue_6d5f1_N (l : Launch) (K : Nat → Nat) (D : va_G) (tA : Nat → ClassId) (a0 a1 : Nat) (sz : Nat) (lnb : Int → Int) (lml : Int) (lct : Int) (cp : Nat) : zCr l yJ5_getValue_6d5f1 wsJ5_getValue_6d5f1 ({ frames := 0, cells := 0, slots := 0, locals := 0 }) K D tA [.ref a0] a1 (bLinN tA cp a0 a1 lnb lml lct) sz (fun (u : Unit) => True) (fun (u : Unit) => bLinN tA cp a0 a1 lnb lml lct) 0 0 := by
  refine zCr_of (cc := cJ5_getValue_6d5f1) (maxL := 1) (by decide) rfl (Or.inr ⟨_, rfl⟩) (Nat.le_of_ble_eq_true rfl) ?_
  intro p e s m args below meth c A Q ls hx hb hml hts hown hK hP hD hA hCn hret hl
  obtain ⟨H, hHe⟩ : ∃ H : Heap, H = s.heap := ⟨_, rfl⟩
  have hS : va_S A s.heap H [] := by rw [hHe]; exact va_S.rf
  rw [← hHe] at hP ⊢
  have hl : lv_has ls 1 [(0, .ref a0)] := hl
  have iJ4 : ∀ v ∈ wsJ40, v ∈ wsJ5_getValue_6d5f1 := by decide +kernel
  have f_15 := hts (.fieldLink RJ5 15 "java/lang/AbstractStringBuilder" "value" "[B") (by decide +kernel)
  refine lv_aload_n hx hb dJ5_getValue_6d5f1_0 rfl (lv_at hl 0 rfl) ?_
  refine va_get (D := D) (ci := 1) (v := .ref a1) (C := RJ4) (T := TJ4) (N := 4) hx hb hts iJ4 hown hK hP 0 rfl rfl 0 (by decide) f_15 (fun _ h9 => h9) rfl dJ5_getValue_6d5f1_1 ?_
  exact hret () _ _ _ _ dJ5_getValue_6d5f1_4 True.intro hP hD hS

set_option maxHeartbeats 4000000 in
set_option maxRecDepth 100000 in
theorem c_J5_length_8abf5_N (l : Launch) (K : Nat → Nat) (D : va_G) (tA : Nat → ClassId) (a0 a1 : Nat) (sz : Nat) (lnb : Int → Int) (lml : Int) (lct : Int) (cp : Nat) : zCi l yJ5_length_8abf5 wsJ5_length_8abf5 ({ frames := 0, cells := 0, slots := 0, locals := 0 }) K D tA [.ref a0] (bLinN tA cp a0 a1 lnb lml lct) sz (fun (z : Int) (u : Unit) => (z = lct)) (fun (u : Unit) => bLinN tA cp a0 a1 lnb lml lct) 0 0 := by
  refine zCi_of (cc := cJ5_length_8abf5) (maxL := 1) (by decide) rfl (fun z u h => rfl) (Nat.le_of_ble_eq_true rfl) ?_
  intro p e s m args below meth c A Q ls hx hb hml hts hown hK hP hD hA hCn hret hl
  obtain ⟨H, hHe⟩ : ∃ H : Heap, H = s.heap := ⟨_, rfl⟩
  have hS : va_S A s.heap H [] := by rw [hHe]; exact va_S.rf
  rw [← hHe] at hP ⊢
  have hl : lv_has ls 1 [(0, .ref a0)] := hl
  have iJ4 : ∀ v ∈ wsJ40, v ∈ wsJ5_length_8abf5 := by decide +kernel
  have f_79 := hts (.fieldLink RJ5 79 "java/lang/AbstractStringBuilder" "count" "I") (by decide +kernel)
  refine lv_aload_n hx hb dJ5_length_8abf5_0 rfl (lv_at hl 0 rfl) ?_
  refine va_get (D := D) (ci := 1) (v := .int (iI lct)) (C := RJ4) (T := TJ4) (N := 4) hx hb hts iJ4 hown hK hP 0 rfl rfl 3 (by decide) f_79 (fun _ h9 => h9) rfl dJ5_length_8abf5_1 ?_
  exact hret lct () _ _ _ _ dJ5_length_8abf5_4 (show lct = lct from by rfl) hP hD hS

set_option maxHeartbeats 4000000 in
set_option maxRecDepth 100000 in
theorem c_J4_length_8abf5_N (l : Launch) (K : Nat → Nat) (D : va_G) (tA : Nat → ClassId) (a0 a1 : Nat) (sz : Nat) (lnb : Int → Int) (lml : Int) (lct : Int) (cp : Nat) : zCi l yJ4_length_8abf5 wsJ4_length_8abf5 ({ frames := 1, cells := 0, slots := 0, locals := 20 }) K D tA [.ref a0] (bLinN tA cp a0 a1 lnb lml lct) sz (fun (z : Int) (u : Unit) => (z = lct)) (fun (u : Unit) => bLinN tA cp a0 a1 lnb lml lct) 0 0 := by
  refine zCi_of (cc := cJ4_length_8abf5) (maxL := 1) (by decide) rfl (fun z u h => rfl) (Nat.le_of_ble_eq_true rfl) ?_
  intro p e s m args below meth c A Q ls hx hb hml hts hown hK hP hD hA hCn hret hl
  obtain ⟨H, hHe⟩ : ∃ H : Heap, H = s.heap := ⟨_, rfl⟩
  have hS : va_S A s.heap H [] := by rw [hHe]; exact va_S.rf
  rw [← hHe] at hP ⊢
  have hl : lv_has ls 1 [(0, .ref a0)] := hl
  refine lv_aload_n hx hb dJ4_length_8abf5_0 rfl (lv_at hl 0 rfl) ?_
  refine zc_callSUi (As := []) (rest := []) (wf := fun u => bLinN tA cp a0 a1 lnb lml lct) ⟨hx, hb, hml, hown, hts⟩ (c_J5_length_8abf5_N l K D tA a0 a1 H.size lnb lml lct cp) (va_cwSU 0 hts gJ4_length_8abf5_J5_length_8abf5_s343 rfl rfl rfl ⟨by decide, by decide +kernel⟩ ⟨Nat.le_of_ble_eq_true rfl, Nat.le_of_ble_eq_true rfl⟩) hK hP hD hS hA hCn [0, 1] [] [0, 1] rfl rfl (by decide) (by decide) (by decide) (by decide) (fun _ => rfl) (hK.1 1 (RJ4, TJ4, 4) rfl).2 (ci := 1) (q0 := 0) rfl rfl rfl rfl rfl hl.1 (Nat.le_of_ble_eq_true rfl) dJ4_length_8abf5_1 ⟨Nat.le_of_ble_eq_true rfl, Nat.le_of_ble_eq_true rfl⟩ ?_
  intro z1_1 u H locs p1_2 hP hD hS
  have hP : va_P D vwCl (bLinN tA cp a0 a1 lnb lml lct) H := hP
  have hD : va_D A (bLinN tA cp a0 a1 lnb lml lct) := hD
  have q_1 : z1_1 = lct := p1_2
  exact hret z1_1 () _ _ _ _ dJ4_length_8abf5_4 (show z1_1 = lct from by omega) hP hD hS

set_option maxHeartbeats 4000000 in
set_option maxRecDepth 100000 in
theorem c_J5_isLatin1_aae02_N (l : Launch) (K : Nat → Nat) (D : va_G) (tA : Nat → ClassId) (a0 a1 : Nat) (sz : Nat) (lnb : Int → Int) (lml : Int) (lct : Int) (cp : Nat) : zCi l yJ5_isLatin1_aae02 wsJ5_isLatin1_aae02 ({ frames := 0, cells := 0, slots := 0, locals := 0 }) K D tA [.ref a0] (bLinN tA cp a0 a1 lnb lml lct) sz (fun (z : Int) (u : Unit) => (z = 1)) (fun (u : Unit) => bLinN tA cp a0 a1 lnb lml lct) 0 0 := by
  refine zCi_of (cc := cJ5_isLatin1_aae02) (maxL := 1) (by decide) rfl (fun z u h => zbool z (by omega)) (Nat.le_of_ble_eq_true rfl) ?_
  intro p e s m args below meth c A Q ls hx hb hml hts hown hK hP hD hA hCn hret hl
  obtain ⟨H, hHe⟩ : ∃ H : Heap, H = s.heap := ⟨_, rfl⟩
  have hS : va_S A s.heap H [] := by rw [hHe]; exact va_S.rf
  rw [← hHe] at hP ⊢
  have hl : lv_has ls 1 [(0, .ref a0)] := hl
  have iJ4 : ∀ v ∈ wsJ40, v ∈ wsJ5_isLatin1_aae02 := by decide +kernel
  have f_18 := hts (.fieldLink RJ5 18 "java/lang/String" "COMPACT_STRINGS" "Z") (by decide +kernel)
  have f_22 := hts (.fieldLink RJ5 22 "java/lang/AbstractStringBuilder" "coder" "B") (by decide +kernel)
  refine va_gets hx hb hCn.1.1.1 hS hown f_18 (fun _ h9 => h9) dJ5_isLatin1_aae02_0 ?_
  refine zz_if_eq (tgt := 17) hx hb dJ5_isLatin1_aae02_3 (by decide) (by decide) (fun c_3 => ?_) (fun c_3 => ?_)
  · exact absurd c_3 (by decide)
  · refine lv_aload_n hx hb dJ5_isLatin1_aae02_6 rfl (lv_at hl 0 rfl) ?_
    refine va_get (D := D) (ci := 1) (v := .int (iI 0)) (C := RJ4) (T := TJ4) (N := 4) hx hb hts iJ4 hown hK hP 0 rfl rfl 1 (by decide) f_22 (fun _ h9 => h9) rfl dJ5_isLatin1_aae02_7 ?_
    refine zz_if_ne (tgt := 17) hx hb dJ5_isLatin1_aae02_10 (by decide) (by decide) (fun c_10 => ?_) (fun c_10 => ?_)
    · exact absurd c_10 (by decide)
    · refine zz_iconst hx hb dJ5_isLatin1_aae02_13 ?_
      refine lv_goto (tgt := 18) hx hb dJ5_isLatin1_aae02_14 (by decide) ?_
      exact hret 1 () _ _ _ _ dJ5_isLatin1_aae02_18 (show (1 : Int) = 1 from by omega) hP hD hS

set_option maxHeartbeats 4000000 in
set_option maxRecDepth 100000 in
theorem c_J0_init_db425 (l : Launch) (K : Nat → Nat) (D : va_G) (tA : Nat → ClassId) (a0 a1 : Nat) (h sz : Nat) (cp : Nat) (lnb : Int → Int) (lml lct : Int) (tx : List Int) (htx : ∀ v ∈ tx, 0 ≤ v ∧ v ≤ 127) (hsn : tx.length ≤ 64) (hcp : cp ≤ 64) (hlb : ∀ j : Int, 0 ≤ j → j < ((tx.length : Nat) : Int) → lnb j = tF tx j) (hle : tx.length < cp) (hlc : lct = ((tx.length : Nat) : Int)) : zNv l yJ0_init_db425 wsJ0_init_db425 ({ frames := 3, cells := 1, slots := 64, locals := 86 }) K D tA [.ref h, .ref a0, .null] ([(a0, .inr (1, [.ref a1, .int (iI 0), .int (iI lml), .int (iI lct)])), (a1, .inl (tA 3, cp, .inl (zA lnb))), (h, .inr (0, [.null, .int (iI 0), .int (iI 0), .int (iI 0)]))]) sz (fun (u : Nat) => True) (fun (u : Nat) => [(a0, .inr (1, [.ref a1, .int (iI 0), .int (iI lml), .int (iI lct)])), (a1, .inl (tA 3, cp, .inl (zA lnb))), (h, .inr (0, [.ref u, .int (iI 0), .int (iI 0), .int (iI 0)])), (u, .inl (tA 3, tx.length, .inl (zA (tF tx))))]) 1 64 := by
  refine zNv_of (cc := cJ0_init_db425) (maxL := 5) (by decide) rfl rfl (Nat.le_of_ble_eq_true rfl) ?_
  intro p e s m args below meth c A Q ls hx hb hml hts hown hin hK hP hD hA hCn hPo hret hl
  obtain ⟨H, hHe⟩ : ∃ H : Heap, H = s.heap := ⟨_, rfl⟩
  have hS : va_S A s.heap H [] := by rw [hHe]; exact va_S.rf
  rw [← hHe] at hP ⊢
  have hl : lv_has ls 5 [(0, .ref h), (1, .ref a0), (2, .null)] := hl
  have iJ0 : ∀ v ∈ wsJ00, v ∈ wsJ0_init_db425 := by decide +kernel
  have f_9 := hts (.fieldLink RJ0 9 "java/lang/String" "value" "[B") (by decide +kernel)
  have f_15 := hts (.fieldLink RJ0 15 "java/lang/String" "coder" "B") (by decide +kernel)
  refine lv_aload_n hx hb dJ0_init_db425_0 rfl (lv_at hl 0 rfl) ?_
  refine W.objInit hx hb hown (hts (.methodLink RJ0 1 objectInit) (by decide +kernel)) (hts (.instanceMethod objectInit) (by decide +kernel)) (hts (.code objectInit ⟨#[0xb1]⟩ 1 none) (List.mem_of_getElem? (i := 3) rfl)) rfl (by rw [hml]; exact hl.1) rfl dJ0_init_db425_1 (Nat.le_of_ble_eq_true rfl) (Nat.le_of_ble_eq_true rfl) ?_
  refine W.eq (g2 := F0 m 4 ls []) rfl ?_
  refine lv_aload_n hx hb dJ0_init_db425_4 rfl (lv_at hl 1 rfl) ?_
  refine zc_callUr (As := []) (rest := []) (wf := fun u => [(a0, .inr (1, [.ref a1, .int (iI 0), .int (iI lml), .int (iI lct)])), (a1, .inl (tA 3, cp, .inl (zA lnb))), (h, .inr (0, [.null, .int (iI 0), .int (iI 0), .int (iI 0)]))]) ⟨hx, hb, hml, hown, hts⟩ (c_J5_getValue_6d5f1_N l K D tA a0 a1 H.size lnb lml lct cp) (va_cwU 0 hts gJ0_init_db425_J5_getValue_6d5f1_u552J4 rfl rfl rfl rfl ⟨by decide, by decide, by decide +kernel⟩ ⟨Nat.le_of_ble_eq_true rfl, Nat.le_of_ble_eq_true rfl⟩) hK hP hD hS hA hCn [0, 1] [2] [1, 2, 0] rfl rfl (by decide) (by decide) (by decide) (by decide) (fun _ => rfl) (ci := 1) (q0 := 0) rfl rfl rfl rfl rfl hl.1 (Nat.le_of_ble_eq_true rfl) dJ0_init_db425_5 (by show _ + 0 ≤ 1 ∧ _ + 0 ≤ 64; omega) ?_
  intro u H locs p5 hP hD hS
  have hP : va_P D vwCl ([(a0, .inr (1, [.ref a1, .int (iI 0), .int (iI lml), .int (iI lct)])), (a1, .inl (tA 3, cp, .inl (zA lnb))), (h, .inr (0, [.null, .int (iI 0), .int (iI 0), .int (iI 0)]))]) H := hP
  have hD : va_D A ([(a0, .inr (1, [.ref a1, .int (iI 0), .int (iI lml), .int (iI lct)])), (a1, .inl (tA 3, cp, .inl (zA lnb))), (h, .inr (0, [.null, .int (iI 0), .int (iI 0), .int (iI 0)]))]) := hD
  refine lv_astore_n (lv' := [(3, .ref a1), (0, .ref h), (1, .ref a0), (2, .null)]) hx hb dJ0_init_db425_8 rfl hl (by decide) rfl (fun ls hl => ?_)
  refine lv_aload_n hx hb dJ0_init_db425_9 rfl (lv_at hl 2 rfl) ?_
  refine zc_callUi (As := []) (rest := []) (wf := fun u => [(a0, .inr (1, [.ref a1, .int (iI 0), .int (iI lml), .int (iI lct)])), (a1, .inl (tA 3, cp, .inl (zA lnb))), (h, .inr (0, [.null, .int (iI 0), .int (iI 0), .int (iI 0)]))]) ⟨hx, hb, hml, hown, hts⟩ (c_J4_length_8abf5_N l K D tA a0 a1 H.size lnb lml lct cp) (va_cwO 0 hts gJ0_init_db425_J4_length_8abf5_u549J4 rfl rfl rfl (b0 := cJ5_length_8abf5) (m0 := 1) (r0 := some .int) (by decide +kernel) ⟨by decide, by decide, by decide +kernel⟩ ⟨Nat.le_of_ble_eq_true rfl, Nat.le_of_ble_eq_true rfl⟩) hK hP hD hS hA hCn [0, 1] [2] [1, 2, 0] rfl rfl (by decide) (by decide) (by decide) (by decide) (fun _ => rfl) (ci := 1) (q0 := 0) rfl rfl rfl rfl rfl hl.1 (Nat.le_of_ble_eq_true rfl) dJ0_init_db425_10 (by show _ + 0 ≤ 1 ∧ _ + 0 ≤ 64; omega) ?_
  intro z10 u H locs p10 hP hD hS
  have hP : va_P D vwCl ([(a0, .inr (1, [.ref a1, .int (iI 0), .int (iI lml), .int (iI lct)])), (a1, .inl (tA 3, cp, .inl (zA lnb))), (h, .inr (0, [.null, .int (iI 0), .int (iI 0), .int (iI 0)]))]) H := hP
  have hD : va_D A ([(a0, .inr (1, [.ref a1, .int (iI 0), .int (iI lml), .int (iI lct)])), (a1, .inl (tA 3, cp, .inl (zA lnb))), (h, .inr (0, [.null, .int (iI 0), .int (iI 0), .int (iI 0)]))]) := hD
  have hz10 : z10 = ((tx.length : Nat) : Int) := (show z10 = lct from p10).trans hlc
  subst hz10
  refine lv_istore (lv' := [(4, .int (iI ((tx.length : Nat) : Int))), (3, .ref a1), (0, .ref h), (1, .ref a0), (2, .null)]) hx hb dJ0_init_db425_13 hl (by decide) rfl (fun ls hl => ?_)
  refine lv_aload_n hx hb dJ0_init_db425_15 rfl (lv_at hl 3 rfl) ?_
  refine zc_callUi (As := []) (rest := []) (wf := fun u => [(a0, .inr (1, [.ref a1, .int (iI 0), .int (iI lml), .int (iI lct)])), (a1, .inl (tA 3, cp, .inl (zA lnb))), (h, .inr (0, [.null, .int (iI 0), .int (iI 0), .int (iI 0)]))]) ⟨hx, hb, hml, hown, hts⟩ (c_J5_isLatin1_aae02_N l K D tA a0 a1 H.size lnb lml lct cp) (va_cwU 0 hts gJ0_init_db425_J5_isLatin1_aae02_u1047J4 rfl rfl rfl rfl ⟨by decide, by decide, by decide +kernel⟩ ⟨Nat.le_of_ble_eq_true rfl, Nat.le_of_ble_eq_true rfl⟩) hK hP hD hS hA hCn [0, 1] [2] [1, 2, 0] rfl rfl (by decide) (by decide) (by decide) (by decide) (fun _ => rfl) (ci := 1) (q0 := 0) rfl rfl rfl rfl rfl hl.1 (Nat.le_of_ble_eq_true rfl) dJ0_init_db425_16 (by show _ + 0 ≤ 1 ∧ _ + 0 ≤ 64; omega) ?_
  intro z16 u H locs p16 hP hD hS
  have hP : va_P D vwCl ([(a0, .inr (1, [.ref a1, .int (iI 0), .int (iI lml), .int (iI lct)])), (a1, .inl (tA 3, cp, .inl (zA lnb))), (h, .inr (0, [.null, .int (iI 0), .int (iI 0), .int (iI 0)]))]) H := hP
  have hD : va_D A ([(a0, .inr (1, [.ref a1, .int (iI 0), .int (iI lml), .int (iI lct)])), (a1, .inl (tA 3, cp, .inl (zA lnb))), (h, .inr (0, [.null, .int (iI 0), .int (iI 0), .int (iI 0)]))]) := hD
  have hz16 : z16 = 1 := p16
  subst hz16
  refine zz_if_eq (tgt := 41) hx hb dJ0_init_db425_19 (by decide) (by omega) (fun c9 => absurd c9 (by decide)) (fun _ => ?_)
  refine lv_aload_n hx hb dJ0_init_db425_22 rfl (lv_at hl 2 rfl) ?_
  refine zz_iconst hx hb dJ0_init_db425_23 ?_
  refine va_putF (D := D) (ci := 0) (v := .int (iI 0)) (ty := .byte) (C := RJ0) (T := TJ0) (N := 4) hx hb hts iJ0 tyJ0 tyJ0_ok nmJ0 hown hK hP hD hS 2 rfl rfl 1 (by decide) f_15 (fun _ h9 => h9) rfl hin rfl (by decide +kernel) rfl rfl (Nat.le_of_ble_eq_true rfl) dJ0_init_db425_24 (fun H locs hP hD hS => ?_)
  have hP : va_P D vwCl ([(a0, .inr (1, [.ref a1, .int (iI 0), .int (iI lml), .int (iI lct)])), (a1, .inl (tA 3, cp, .inl (zA lnb))), (h, .inr (0, [.null, .int (iI 0), .int (iI 0), .int (iI 0)]))]) H := hP
  have hD : va_D A ([(a0, .inr (1, [.ref a1, .int (iI 0), .int (iI lml), .int (iI lct)])), (a1, .inl (tA 3, cp, .inl (zA lnb))), (h, .inr (0, [.null, .int (iI 0), .int (iI 0), .int (iI 0)]))]) := hD
  refine lv_aload_n hx hb dJ0_init_db425_27 rfl (lv_at hl 2 rfl) ?_
  refine lv_aload_n hx hb dJ0_init_db425_28 rfl (lv_at hl 1 rfl) ?_
  refine zz_iconst hx hb dJ0_init_db425_29 ?_
  refine lv_iload hx hb dJ0_init_db425_30 (lv_at hl 0 rfl) ?_
  refine zc_callSA (As := [.ref a1, .int (iI 0), .int (iI ((tx.length : Nat) : Int))]) (rest := [.ref h]) (wf := fun u => [(a0, .inr (1, [.ref a1, .int (iI 0), .int (iI lml), .int (iI lct)])), (a1, .inl (tA 3, cp, .inl (zA lnb))), (h, .inr (0, [.null, .int (iI 0), .int (iI 0), .int (iI 0)])), (u, .inl (tA 3, tx.length, .inl (zA (tF tx))))]) ⟨hx, hb, hml, hown, hts⟩ (c_J7_copyOfRange_39247 l K D tA a1 H.size cp lnb tx htx hsn hcp hlb hle) (va_cwS 3 hts gJ0_init_db425_J7_copyOfRange_39247 rfl rfl rfl (by decide +kernel) ⟨Nat.le_of_ble_eq_true rfl, Nat.le_of_ble_eq_true rfl⟩) hK hP hD hS hA hCn [1] [0, 2] [0, 2, 1, 3] rfl rfl (by decide) (by decide) (by decide) (by decide) (fun _ => rfl) rfl rfl hl.1 (Nat.le_of_ble_eq_true rfl) dJ0_init_db425_32 (by show _ + 1 ≤ 1 ∧ _ + 64 ≤ 64; omega) ?_
  intro u H locs p32 hP hD hS
  have hP : va_P D vwCl ([(a0, .inr (1, [.ref a1, .int (iI 0), .int (iI lml), .int (iI lct)])), (a1, .inl (tA 3, cp, .inl (zA lnb))), (h, .inr (0, [.null, .int (iI 0), .int (iI 0), .int (iI 0)])), (u, .inl (tA 3, tx.length, .inl (zA (tF tx))))]) H := hP
  have hD : va_D A ([(a0, .inr (1, [.ref a1, .int (iI 0), .int (iI lml), .int (iI lct)])), (a1, .inl (tA 3, cp, .inl (zA lnb))), (h, .inr (0, [.null, .int (iI 0), .int (iI 0), .int (iI 0)])), (u, .inl (tA 3, tx.length, .inl (zA (tF tx))))]) := hD
  refine va_putF (D := D) (ci := 0) (v := .ref u) (ty := (.array .byte)) (C := RJ0) (T := TJ0) (N := 4) hx hb hts iJ0 tyJ0 tyJ0_ok nmJ0 hown hK hP hD hS 2 rfl rfl 0 (by decide) f_9 (fun _ h9 => h9) rfl hin rfl (by decide +kernel) rfl rfl (Nat.le_of_ble_eq_true rfl) dJ0_init_db425_35 (fun H locs hP hD hS => ?_)
  have hP : va_P D vwCl ([(a0, .inr (1, [.ref a1, .int (iI 0), .int (iI lml), .int (iI lct)])), (a1, .inl (tA 3, cp, .inl (zA lnb))), (h, .inr (0, [.ref u, .int (iI 0), .int (iI 0), .int (iI 0)])), (u, .inl (tA 3, tx.length, .inl (zA (tF tx))))]) H := hP
  have hD : va_D A ([(a0, .inr (1, [.ref a1, .int (iI 0), .int (iI lml), .int (iI lct)])), (a1, .inl (tA 3, cp, .inl (zA lnb))), (h, .inr (0, [.ref u, .int (iI 0), .int (iI 0), .int (iI 0)])), (u, .inl (tA 3, tx.length, .inl (zA (tF tx))))]) := hD
  refine lv_goto (tgt := 97) hx hb dJ0_init_db425_38 (by decide) ?_
  exact hret u _ _ _ _ dJ0_init_db425_97 True.intro hP hD hS
set_option maxHeartbeats 4000000 in
set_option maxRecDepth 100000 in
theorem c_J0_init_81219 (l : Launch) (K : Nat → Nat) (D : va_G) (tA : Nat → ClassId) (a0 a1 : Nat) (h sz : Nat) (cp : Nat) (lnb : Int → Int) (lml lct : Int) (tx : List Int) (htx : ∀ v ∈ tx, 0 ≤ v ∧ v ≤ 127) (hsn : tx.length ≤ 64) (hcp : cp ≤ 64) (hlb : ∀ j : Int, 0 ≤ j → j < ((tx.length : Nat) : Int) → lnb j = tF tx j) (hle : tx.length < cp) (hlc : lct = ((tx.length : Nat) : Int)) : zNv l yJ0_init_81219 wsJ0_init_81219 ({ frames := 4, cells := 1, slots := 64, locals := 110 }) K D tA [.ref h, .ref a0] ([(a0, .inr (1, [.ref a1, .int (iI 0), .int (iI lml), .int (iI lct)])), (a1, .inl (tA 3, cp, .inl (zA lnb))), (h, .inr (0, [.null, .int (iI 0), .int (iI 0), .int (iI 0)]))]) sz (fun (u : Nat) => True) (fun (u : Nat) => [(a0, .inr (1, [.ref a1, .int (iI 0), .int (iI lml), .int (iI lct)])), (a1, .inl (tA 3, cp, .inl (zA lnb))), (h, .inr (0, [.ref u, .int (iI 0), .int (iI 0), .int (iI 0)])), (u, .inl (tA 3, tx.length, .inl (zA (tF tx))))]) 1 64 := by
  refine zNv_of (cc := cJ0_init_81219) (maxL := 2) (by decide) rfl rfl (Nat.le_of_ble_eq_true rfl) ?_
  intro p e s m args below meth c A Q ls hx hb hml hts hown hin hK hP hD hA hCn hPo hret hl
  obtain ⟨H, hHe⟩ : ∃ H : Heap, H = s.heap := ⟨_, rfl⟩
  have hS : va_S A s.heap H [] := by rw [hHe]; exact va_S.rf
  rw [← hHe] at hP ⊢
  have hl : lv_has ls 2 [(0, .ref h), (1, .ref a0)] := hl
  refine lv_aload_n hx hb dJ0_init_81219_0 rfl (lv_at hl 0 rfl) ?_
  refine lv_aload_n hx hb dJ0_init_81219_1 rfl (lv_at hl 1 rfl) ?_
  refine lv_null hx hb dJ0_init_81219_2 ?_
  refine zn_sup (As := [.ref a0, .null]) (rest := []) ⟨hx, hb, hml, hown, hts⟩ (c_J0_init_db425 l K D tA a0 a1 h H.size cp lnb lml lct tx htx hsn hcp hlb hle hlc) (cwI 2 hts gJ0_init_81219_J0_init_db425 rfl rfl rfl (hts (.initialized RJ0) (by decide +kernel)) (hts (.methodLink RJ0 489 yJ0_init_db425) (by decide +kernel)) (hts (.instanceMethod yJ0_init_db425) (by decide +kernel)) rfl (by decide +kernel) ⟨Nat.le_of_ble_eq_true rfl, Nat.le_of_ble_eq_true rfl⟩) hK hP hD hS hA hCn hPo rfl rfl hl.1 dJ0_init_81219_3 ⟨Nat.le_of_ble_eq_true rfl, Nat.le_of_ble_eq_true rfl⟩ (Nat.le_of_ble_eq_true rfl) (fun u H locs hp9 hP hD hS => ?_)
  exact hret u _ _ _ _ dJ0_init_81219_6 True.intro hP hD hS
set_option maxHeartbeats 4000000 in
set_option maxRecDepth 100000 in
theorem c_J4_toString_0e30d (l : Launch) (K : Nat → Nat) (D : va_G) (tA : Nat → ClassId) (a0 a1 : Nat) (sz : Nat) (cp : Nat) (lnb : Int → Int) (lml lct : Int) (tx : List Int) (htx : ∀ v ∈ tx, 0 ≤ v ∧ v ≤ 127) (hsn : tx.length ≤ 64) (hcp : cp ≤ 64) (hlb : ∀ j : Int, 0 ≤ j → j < ((tx.length : Nat) : Int) → lnb j = tF tx j) (hle : tx.length < cp) (hlc : lct = ((tx.length : Nat) : Int)) : zAr l yJ4_toString_0e30d wsJ4_toString_0e30d ({ frames := 5, cells := 2, slots := 68, locals := 131 }) K D tA [.ref a0] ([(a0, .inr (1, [.ref a1, .int (iI 0), .int (iI lml), .int (iI lct)])), (a1, .inl (tA 3, cp, .inl (zA lnb)))]) sz (fun (u : Nat × Nat) => True) (fun (u : Nat × Nat) => u.1) (fun (u : Nat × Nat) => [(a0, .inr (1, [.ref a1, .int (iI 0), .int (iI lml), .int (iI lct)])), (a1, .inl (tA 3, cp, .inl (zA lnb))), (u.1, .inr (0, [.ref u.2, .int (iI 0), .int (iI 0), .int (iI 0)])), (u.2, .inl (tA 3, tx.length, .inl (zA (tF tx))))]) 2 68 := by
  refine zAr_of (cc := cJ4_toString_0e30d) (maxL := 1) (by decide) rfl (Or.inl ⟨_, rfl⟩) (Nat.le_of_ble_eq_true rfl) ?_
  intro p e s m args below meth c A Q ls hx hb hml hts hown hK hP hD hA hCn hret hl
  obtain ⟨H, hHe⟩ : ∃ H : Heap, H = s.heap := ⟨_, rfl⟩
  have hS : va_S A s.heap H [] := by rw [hHe]; exact va_S.rf
  rw [← hHe] at hP ⊢
  have hl : lv_has ls 1 [(0, .ref a0)] := hl
  have iJ0 : ∀ v ∈ wsJ00, v ∈ wsJ4_toString_0e30d := by decide +kernel
  have hPo := hCn.2.2.2
  refine va_new (ci := 0) (fs := [.null, .int (iI 0), .int (iI 0), .int (iI 0)]) (C := RJ0) (T := TJ0) (N := 4) hx hb hts iJ0 tyJ0 tyJ0_ok hown (hts (.classLink RJ4 18 RJ0) (by decide +kernel)) (hts (.instantiable RJ0 4) (by decide +kernel)) (hts (.initialized RJ0) (by decide +kernel)) hK hP hD hS hA rfl (fun j hj => by rcases (show j = 0 ∨ j = 1 ∨ j = 2 ∨ j = 3 by omega) with rfl | rfl | rfl | rfl <;> rfl) (Nat.le_of_ble_eq_true rfl) (Nat.le_of_ble_eq_true rfl) dJ4_toString_0e30d_0 (fun q0 H hP hD hS => ?_)
  have hP : va_P D vwCl ([(a0, .inr (1, [.ref a1, .int (iI 0), .int (iI lml), .int (iI lct)])), (a1, .inl (tA 3, cp, .inl (zA lnb))), (q0, .inr (0, [.null, .int (iI 0), .int (iI 0), .int (iI 0)]))]) H := hP
  have hD : va_D A ([(a0, .inr (1, [.ref a1, .int (iI 0), .int (iI lml), .int (iI lct)])), (a1, .inl (tA 3, cp, .inl (zA lnb))), (q0, .inr (0, [.null, .int (iI 0), .int (iI 0), .int (iI 0)]))]) := hD
  refine lv_dup hx hb dJ4_toString_0e30d_3 rfl ?_
  refine lv_aload_n hx hb dJ4_toString_0e30d_4 rfl (lv_at hl 0 rfl) ?_
  refine zn_sup (As := [.ref a0]) (rest := [.ref q0]) ⟨hx, hb, hml, hown, hts⟩ (c_J0_init_81219 l K D tA a0 a1 q0 H.size cp lnb lml lct tx htx hsn hcp hlb hle hlc) (cwI 1 hts gJ4_toString_0e30d_J0_init_81219 rfl rfl rfl (hts (.initialized RJ0) (by decide +kernel)) (hts (.methodLink RJ4 137 yJ0_init_81219) (by decide +kernel)) (hts (.instanceMethod yJ0_init_81219) (by decide +kernel)) rfl (by decide +kernel) ⟨Nat.le_of_ble_eq_true rfl, Nat.le_of_ble_eq_true rfl⟩) hK hP hD hS hA hCn hPo rfl rfl hl.1 dJ4_toString_0e30d_5 ⟨Nat.le_of_ble_eq_true rfl, Nat.le_of_ble_eq_true rfl⟩ (Nat.le_of_ble_eq_true rfl) (fun u H locs hp9 hP hD hS => ?_)
  exact hret (q0, u) _ _ _ _ dJ4_toString_0e30d_8 True.intro hP hD hS
