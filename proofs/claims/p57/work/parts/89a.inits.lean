/-! ===== constructors ===== -/

set_option maxHeartbeats 4000000 in
set_option maxRecDepth 100000 in
theorem c_X1_init (l : Launch) (K : Nat → Nat) (D : va_G) (tA : Nat → ClassId) (h sz : Nat) : zNv l yX1_init wsX1_init ({ frames := 1, cells := 5, slots := 100, locals := 12 }) K D tA [.ref h] [(h, .inr (4, [.int (iI 0), .int (iI 0), .null, .null, .null, .null, .null]))] sz (fun (u : List Nat) => True) (fun (u : List Nat) => bChart tA h (u.getD 0 0) (u.getD 1 0) (u.getD 2 0) (u.getD 3 0) (u.getD 4 0) 0 0 z0F z0F z0F z0F z0F) 5 100 := by
  refine zNv_of (cc := cX1_init) (maxL := 1) (by decide) rfl rfl (Nat.le_of_ble_eq_true rfl) ?_
  intro p e s m args below meth c A Q ls hx hb hml hts hown hin hK hP hD hA hCn hPo hret hl
  obtain ⟨H, hHe⟩ : ∃ H : Heap, H = s.heap := ⟨_, rfl⟩
  have hS : va_S A s.heap H [] := by rw [hHe]; exact va_S.rf
  rw [← hHe] at hP ⊢
  have hl : lv_has ls 1 [(0, .ref h)] := hl
  have iX1 : ∀ v ∈ wsX10, v ∈ wsX1_init := by decide +kernel
  refine lv_aload_n hx hb dX1_init_0 rfl (lv_at hl 0 rfl) ?_
  refine W.objInit hx hb hown (hts (.methodLink RX1 3 objectInit) (by decide +kernel)) (hts (.instanceMethod objectInit) (by decide +kernel)) (hts (.code objectInit ⟨#[0xb1]⟩ 1 none) (List.mem_of_getElem? (i := 3) rfl)) rfl (by rw [hml]; exact hl.1) rfl dX1_init_1 (Nat.le_of_ble_eq_true rfl) (Nat.le_of_ble_eq_true rfl) ?_
  refine W.eq (g2 := F0 m 4 ls []) rfl ?_
  refine lv_aload_n hx hb dX1_init_4 rfl (lv_at hl 0 rfl) ?_
  refine zz_bipush hx hb dX1_init_5 (by decide) ?_
  refine zn_arr (atype := .int) (ty := .int) 0 hx hb (hts (.arrayClass .int) (by decide +kernel)) rfl rfl hK hP hD hS hA (a0 := (20, .inl (zA z0F))) (N' := 20) (fun _ => rfl) (by decide) (by decide) (by decide) (Nat.le_of_ble_eq_true rfl) (Nat.le_of_ble_eq_true rfl) dX1_init_7 (fun q7 H hP hD hS => ?_)
  have hP : va_P D vwCl ((h, .inr (4, [.int (iI 0), .int (iI 0), .null, .null, .null, .null, .null])) :: [(q7, .inl (tA 0, 20, .inl (zA z0F)))]) H := hP
  have hD : va_D A ((h, .inr (4, [.int (iI 0), .int (iI 0), .null, .null, .null, .null, .null])) :: [(q7, .inl (tA 0, 20, .inl (zA z0F)))]) := hD
  refine va_putF (D := D) (ci := 4) (v := .ref q7) (ty := (.array .int)) (C := RX1) (T := TX1) (N := 7) hx hb hts iX1 tyX1 tyX1_ok nmX1 hown hK hP hD hS 0 rfl rfl 2 (by decide) (hts (.fieldLink RX1 9 "HarborLights$Chart" "lower" "[I") (by decide +kernel)) (fun _ h9 => h9) rfl hin rfl (by decide +kernel) rfl rfl (Nat.le_of_ble_eq_true rfl) dX1_init_9 (fun H locs hP hD hS => ?_)
  have hP : va_P D vwCl ((h, .inr (4, [.int (iI 0), .int (iI 0), .ref q7, .null, .null, .null, .null])) :: [(q7, .inl (tA 0, 20, .inl (zA z0F)))]) H := hP
  have hD : va_D A ((h, .inr (4, [.int (iI 0), .int (iI 0), .ref q7, .null, .null, .null, .null])) :: [(q7, .inl (tA 0, 20, .inl (zA z0F)))]) := hD
  refine lv_aload_n hx hb dX1_init_12 rfl (lv_at hl 0 rfl) ?_
  refine zz_bipush hx hb dX1_init_13 (by decide) ?_
  refine zn_arr (atype := .int) (ty := .int) 0 hx hb (hts (.arrayClass .int) (by decide +kernel)) rfl rfl hK hP hD hS hA (a0 := (20, .inl (zA z0F))) (N' := 20) (fun _ => rfl) (by decide) (by decide) (by decide) (Nat.le_of_ble_eq_true rfl) (Nat.le_of_ble_eq_true rfl) dX1_init_15 (fun q15 H hP hD hS => ?_)
  have hP : va_P D vwCl ((h, .inr (4, [.int (iI 0), .int (iI 0), .ref q7, .null, .null, .null, .null])) :: ([(q7, .inl (tA 0, 20, .inl (zA z0F)))] ++ [(q15, .inl (tA 0, 20, .inl (zA z0F)))])) H := hP
  have hD : va_D A ((h, .inr (4, [.int (iI 0), .int (iI 0), .ref q7, .null, .null, .null, .null])) :: ([(q7, .inl (tA 0, 20, .inl (zA z0F)))] ++ [(q15, .inl (tA 0, 20, .inl (zA z0F)))])) := hD
  refine va_putF (D := D) (ci := 4) (v := .ref q15) (ty := (.array .int)) (C := RX1) (T := TX1) (N := 7) hx hb hts iX1 tyX1 tyX1_ok nmX1 hown hK hP hD hS 0 rfl rfl 3 (by decide) (hts (.fieldLink RX1 15 "HarborLights$Chart" "upper" "[I") (by decide +kernel)) (fun _ h9 => h9) rfl hin rfl (by decide +kernel) rfl rfl (Nat.le_of_ble_eq_true rfl) dX1_init_17 (fun H locs hP hD hS => ?_)
  have hP : va_P D vwCl ((h, .inr (4, [.int (iI 0), .int (iI 0), .ref q7, .ref q15, .null, .null, .null])) :: ([(q7, .inl (tA 0, 20, .inl (zA z0F)))] ++ [(q15, .inl (tA 0, 20, .inl (zA z0F)))])) H := hP
  have hD : va_D A ((h, .inr (4, [.int (iI 0), .int (iI 0), .ref q7, .ref q15, .null, .null, .null])) :: ([(q7, .inl (tA 0, 20, .inl (zA z0F)))] ++ [(q15, .inl (tA 0, 20, .inl (zA z0F)))])) := hD
  refine lv_aload_n hx hb dX1_init_20 rfl (lv_at hl 0 rfl) ?_
  refine zz_bipush hx hb dX1_init_21 (by decide) ?_
  refine zn_arr (atype := .int) (ty := .int) 0 hx hb (hts (.arrayClass .int) (by decide +kernel)) rfl rfl hK hP hD hS hA (a0 := (20, .inl (zA z0F))) (N' := 20) (fun _ => rfl) (by decide) (by decide) (by decide) (Nat.le_of_ble_eq_true rfl) (Nat.le_of_ble_eq_true rfl) dX1_init_23 (fun q23 H hP hD hS => ?_)
  have hP : va_P D vwCl ((h, .inr (4, [.int (iI 0), .int (iI 0), .ref q7, .ref q15, .null, .null, .null])) :: (([(q7, .inl (tA 0, 20, .inl (zA z0F)))] ++ [(q15, .inl (tA 0, 20, .inl (zA z0F)))]) ++ [(q23, .inl (tA 0, 20, .inl (zA z0F)))])) H := hP
  have hD : va_D A ((h, .inr (4, [.int (iI 0), .int (iI 0), .ref q7, .ref q15, .null, .null, .null])) :: (([(q7, .inl (tA 0, 20, .inl (zA z0F)))] ++ [(q15, .inl (tA 0, 20, .inl (zA z0F)))]) ++ [(q23, .inl (tA 0, 20, .inl (zA z0F)))])) := hD
  refine va_putF (D := D) (ci := 4) (v := .ref q23) (ty := (.array .int)) (C := RX1) (T := TX1) (N := 7) hx hb hts iX1 tyX1 tyX1_ok nmX1 hown hK hP hD hS 0 rfl rfl 4 (by decide) (hts (.fieldLink RX1 18 "HarborLights$Chart" "length" "[I") (by decide +kernel)) (fun _ h9 => h9) rfl hin rfl (by decide +kernel) rfl rfl (Nat.le_of_ble_eq_true rfl) dX1_init_25 (fun H locs hP hD hS => ?_)
  have hP : va_P D vwCl ((h, .inr (4, [.int (iI 0), .int (iI 0), .ref q7, .ref q15, .ref q23, .null, .null])) :: (([(q7, .inl (tA 0, 20, .inl (zA z0F)))] ++ [(q15, .inl (tA 0, 20, .inl (zA z0F)))]) ++ [(q23, .inl (tA 0, 20, .inl (zA z0F)))])) H := hP
  have hD : va_D A ((h, .inr (4, [.int (iI 0), .int (iI 0), .ref q7, .ref q15, .ref q23, .null, .null])) :: (([(q7, .inl (tA 0, 20, .inl (zA z0F)))] ++ [(q15, .inl (tA 0, 20, .inl (zA z0F)))]) ++ [(q23, .inl (tA 0, 20, .inl (zA z0F)))])) := hD
  refine lv_aload_n hx hb dX1_init_28 rfl (lv_at hl 0 rfl) ?_
  refine zz_bipush hx hb dX1_init_29 (by decide) ?_
  refine zn_arr (atype := .int) (ty := .int) 0 hx hb (hts (.arrayClass .int) (by decide +kernel)) rfl rfl hK hP hD hS hA (a0 := (20, .inl (zA z0F))) (N' := 20) (fun _ => rfl) (by decide) (by decide) (by decide) (Nat.le_of_ble_eq_true rfl) (Nat.le_of_ble_eq_true rfl) dX1_init_31 (fun q31 H hP hD hS => ?_)
  have hP : va_P D vwCl ((h, .inr (4, [.int (iI 0), .int (iI 0), .ref q7, .ref q15, .ref q23, .null, .null])) :: ((([(q7, .inl (tA 0, 20, .inl (zA z0F)))] ++ [(q15, .inl (tA 0, 20, .inl (zA z0F)))]) ++ [(q23, .inl (tA 0, 20, .inl (zA z0F)))]) ++ [(q31, .inl (tA 0, 20, .inl (zA z0F)))])) H := hP
  have hD : va_D A ((h, .inr (4, [.int (iI 0), .int (iI 0), .ref q7, .ref q15, .ref q23, .null, .null])) :: ((([(q7, .inl (tA 0, 20, .inl (zA z0F)))] ++ [(q15, .inl (tA 0, 20, .inl (zA z0F)))]) ++ [(q23, .inl (tA 0, 20, .inl (zA z0F)))]) ++ [(q31, .inl (tA 0, 20, .inl (zA z0F)))])) := hD
  refine va_putF (D := D) (ci := 4) (v := .ref q31) (ty := (.array .int)) (C := RX1) (T := TX1) (N := 7) hx hb hts iX1 tyX1 tyX1_ok nmX1 hown hK hP hD hS 0 rfl rfl 5 (by decide) (hts (.fieldLink RX1 21 "HarborLights$Chart" "reach" "[I") (by decide +kernel)) (fun _ h9 => h9) rfl hin rfl (by decide +kernel) rfl rfl (Nat.le_of_ble_eq_true rfl) dX1_init_33 (fun H locs hP hD hS => ?_)
  have hP : va_P D vwCl ((h, .inr (4, [.int (iI 0), .int (iI 0), .ref q7, .ref q15, .ref q23, .ref q31, .null])) :: ((([(q7, .inl (tA 0, 20, .inl (zA z0F)))] ++ [(q15, .inl (tA 0, 20, .inl (zA z0F)))]) ++ [(q23, .inl (tA 0, 20, .inl (zA z0F)))]) ++ [(q31, .inl (tA 0, 20, .inl (zA z0F)))])) H := hP
  have hD : va_D A ((h, .inr (4, [.int (iI 0), .int (iI 0), .ref q7, .ref q15, .ref q23, .ref q31, .null])) :: ((([(q7, .inl (tA 0, 20, .inl (zA z0F)))] ++ [(q15, .inl (tA 0, 20, .inl (zA z0F)))]) ++ [(q23, .inl (tA 0, 20, .inl (zA z0F)))]) ++ [(q31, .inl (tA 0, 20, .inl (zA z0F)))])) := hD
  refine lv_aload_n hx hb dX1_init_36 rfl (lv_at hl 0 rfl) ?_
  refine zz_bipush hx hb dX1_init_37 (by decide) ?_
  refine zn_arr (atype := .int) (ty := .int) 0 hx hb (hts (.arrayClass .int) (by decide +kernel)) rfl rfl hK hP hD hS hA (a0 := (20, .inl (zA z0F))) (N' := 20) (fun _ => rfl) (by decide) (by decide) (by decide) (Nat.le_of_ble_eq_true rfl) (Nat.le_of_ble_eq_true rfl) dX1_init_39 (fun q39 H hP hD hS => ?_)
  have hP : va_P D vwCl ((h, .inr (4, [.int (iI 0), .int (iI 0), .ref q7, .ref q15, .ref q23, .ref q31, .null])) :: (((([(q7, .inl (tA 0, 20, .inl (zA z0F)))] ++ [(q15, .inl (tA 0, 20, .inl (zA z0F)))]) ++ [(q23, .inl (tA 0, 20, .inl (zA z0F)))]) ++ [(q31, .inl (tA 0, 20, .inl (zA z0F)))]) ++ [(q39, .inl (tA 0, 20, .inl (zA z0F)))])) H := hP
  have hD : va_D A ((h, .inr (4, [.int (iI 0), .int (iI 0), .ref q7, .ref q15, .ref q23, .ref q31, .null])) :: (((([(q7, .inl (tA 0, 20, .inl (zA z0F)))] ++ [(q15, .inl (tA 0, 20, .inl (zA z0F)))]) ++ [(q23, .inl (tA 0, 20, .inl (zA z0F)))]) ++ [(q31, .inl (tA 0, 20, .inl (zA z0F)))]) ++ [(q39, .inl (tA 0, 20, .inl (zA z0F)))])) := hD
  refine va_putF (D := D) (ci := 4) (v := .ref q39) (ty := (.array .int)) (C := RX1) (T := TX1) (N := 7) hx hb hts iX1 tyX1 tyX1_ok nmX1 hown hK hP hD hS 0 rfl rfl 6 (by decide) (hts (.fieldLink RX1 24 "HarborLights$Chart" "meter" "[I") (by decide +kernel)) (fun _ h9 => h9) rfl hin rfl (by decide +kernel) rfl rfl (Nat.le_of_ble_eq_true rfl) dX1_init_41 (fun H locs hP hD hS => ?_)
  have hP : va_P D vwCl ((h, .inr (4, [.int (iI 0), .int (iI 0), .ref q7, .ref q15, .ref q23, .ref q31, .ref q39])) :: (((([(q7, .inl (tA 0, 20, .inl (zA z0F)))] ++ [(q15, .inl (tA 0, 20, .inl (zA z0F)))]) ++ [(q23, .inl (tA 0, 20, .inl (zA z0F)))]) ++ [(q31, .inl (tA 0, 20, .inl (zA z0F)))]) ++ [(q39, .inl (tA 0, 20, .inl (zA z0F)))])) H := hP
  have hD : va_D A ((h, .inr (4, [.int (iI 0), .int (iI 0), .ref q7, .ref q15, .ref q23, .ref q31, .ref q39])) :: (((([(q7, .inl (tA 0, 20, .inl (zA z0F)))] ++ [(q15, .inl (tA 0, 20, .inl (zA z0F)))]) ++ [(q23, .inl (tA 0, 20, .inl (zA z0F)))]) ++ [(q31, .inl (tA 0, 20, .inl (zA z0F)))]) ++ [(q39, .inl (tA 0, 20, .inl (zA z0F)))])) := hD
  refine W.widen (k := 5) (n := 100) (Nat.le_of_ble_eq_true rfl) (Nat.le_of_ble_eq_true rfl) ?_
  exact hret ([q7, q15, q23, q31, q39]) _ _ _ _ dX1_init_44 True.intro hP hD hS

set_option maxHeartbeats 4000000 in
set_option maxRecDepth 100000 in
theorem c_X8_init (l : Launch) (K : Nat → Nat) (D : va_G) (tA : Nat → ClassId) (h sz : Nat) : zNv l yX8_init wsX8_init ({ frames := 1, cells := 5, slots := 30, locals := 12 }) K D tA [.ref h] [(h, .inr (10, [.int (iI 0), .null, .null, .null, .null, .null]))] sz (fun (u : List Nat) => True) (fun (u : List Nat) => bShips tA h (u.getD 0 0) (u.getD 1 0) (u.getD 2 0) (u.getD 3 0) (u.getD 4 0) 0 z0F z0F z0F z0F z0F) 5 30 := by
  refine zNv_of (cc := cX8_init) (maxL := 1) (by decide) rfl rfl (Nat.le_of_ble_eq_true rfl) ?_
  intro p e s m args below meth c A Q ls hx hb hml hts hown hin hK hP hD hA hCn hPo hret hl
  obtain ⟨H, hHe⟩ : ∃ H : Heap, H = s.heap := ⟨_, rfl⟩
  have hS : va_S A s.heap H [] := by rw [hHe]; exact va_S.rf
  rw [← hHe] at hP ⊢
  have hl : lv_has ls 1 [(0, .ref h)] := hl
  have iX8 : ∀ v ∈ wsX80, v ∈ wsX8_init := by decide +kernel
  refine lv_aload_n hx hb dX8_init_0 rfl (lv_at hl 0 rfl) ?_
  refine W.objInit hx hb hown (hts (.methodLink RX8 3 objectInit) (by decide +kernel)) (hts (.instanceMethod objectInit) (by decide +kernel)) (hts (.code objectInit ⟨#[0xb1]⟩ 1 none) (List.mem_of_getElem? (i := 3) rfl)) rfl (by rw [hml]; exact hl.1) rfl dX8_init_1 (Nat.le_of_ble_eq_true rfl) (Nat.le_of_ble_eq_true rfl) ?_
  refine W.eq (g2 := F0 m 4 ls []) rfl ?_
  refine lv_aload_n hx hb dX8_init_4 rfl (lv_at hl 0 rfl) ?_
  refine zz_bipush hx hb dX8_init_5 (by decide) ?_
  refine zn_arr (atype := .int) (ty := .int) 0 hx hb (hts (.arrayClass .int) (by decide +kernel)) rfl rfl hK hP hD hS hA (a0 := (6, .inl (zA z0F))) (N' := 6) (fun _ => rfl) (by decide) (by decide) (by decide) (Nat.le_of_ble_eq_true rfl) (Nat.le_of_ble_eq_true rfl) dX8_init_7 (fun q7 H hP hD hS => ?_)
  have hP : va_P D vwCl ((h, .inr (10, [.int (iI 0), .null, .null, .null, .null, .null])) :: [(q7, .inl (tA 0, 6, .inl (zA z0F)))]) H := hP
  have hD : va_D A ((h, .inr (10, [.int (iI 0), .null, .null, .null, .null, .null])) :: [(q7, .inl (tA 0, 6, .inl (zA z0F)))]) := hD
  refine va_putF (D := D) (ci := 10) (v := .ref q7) (ty := (.array .int)) (C := RX8) (T := TX8) (N := 6) hx hb hts iX8 tyX8 tyX8_ok nmX8 hown hK hP hD hS 0 rfl rfl 1 (by decide) (hts (.fieldLink RX8 9 "HarborLights$Ships" "start" "[I") (by decide +kernel)) (fun _ h9 => h9) rfl hin rfl (by decide +kernel) rfl rfl (Nat.le_of_ble_eq_true rfl) dX8_init_9 (fun H locs hP hD hS => ?_)
  have hP : va_P D vwCl ((h, .inr (10, [.int (iI 0), .ref q7, .null, .null, .null, .null])) :: [(q7, .inl (tA 0, 6, .inl (zA z0F)))]) H := hP
  have hD : va_D A ((h, .inr (10, [.int (iI 0), .ref q7, .null, .null, .null, .null])) :: [(q7, .inl (tA 0, 6, .inl (zA z0F)))]) := hD
  refine lv_aload_n hx hb dX8_init_12 rfl (lv_at hl 0 rfl) ?_
  refine zz_bipush hx hb dX8_init_13 (by decide) ?_
  refine zn_arr (atype := .int) (ty := .int) 0 hx hb (hts (.arrayClass .int) (by decide +kernel)) rfl rfl hK hP hD hS hA (a0 := (6, .inl (zA z0F))) (N' := 6) (fun _ => rfl) (by decide) (by decide) (by decide) (Nat.le_of_ble_eq_true rfl) (Nat.le_of_ble_eq_true rfl) dX8_init_15 (fun q15 H hP hD hS => ?_)
  have hP : va_P D vwCl ((h, .inr (10, [.int (iI 0), .ref q7, .null, .null, .null, .null])) :: ([(q7, .inl (tA 0, 6, .inl (zA z0F)))] ++ [(q15, .inl (tA 0, 6, .inl (zA z0F)))])) H := hP
  have hD : va_D A ((h, .inr (10, [.int (iI 0), .ref q7, .null, .null, .null, .null])) :: ([(q7, .inl (tA 0, 6, .inl (zA z0F)))] ++ [(q15, .inl (tA 0, 6, .inl (zA z0F)))])) := hD
  refine va_putF (D := D) (ci := 10) (v := .ref q15) (ty := (.array .int)) (C := RX8) (T := TX8) (N := 6) hx hb hts iX8 tyX8 tyX8_ok nmX8 hown hK hP hD hS 0 rfl rfl 2 (by decide) (hts (.fieldLink RX8 15 "HarborLights$Ships" "goal" "[I") (by decide +kernel)) (fun _ h9 => h9) rfl hin rfl (by decide +kernel) rfl rfl (Nat.le_of_ble_eq_true rfl) dX8_init_17 (fun H locs hP hD hS => ?_)
  have hP : va_P D vwCl ((h, .inr (10, [.int (iI 0), .ref q7, .ref q15, .null, .null, .null])) :: ([(q7, .inl (tA 0, 6, .inl (zA z0F)))] ++ [(q15, .inl (tA 0, 6, .inl (zA z0F)))])) H := hP
  have hD : va_D A ((h, .inr (10, [.int (iI 0), .ref q7, .ref q15, .null, .null, .null])) :: ([(q7, .inl (tA 0, 6, .inl (zA z0F)))] ++ [(q15, .inl (tA 0, 6, .inl (zA z0F)))])) := hD
  refine lv_aload_n hx hb dX8_init_20 rfl (lv_at hl 0 rfl) ?_
  refine zz_bipush hx hb dX8_init_21 (by decide) ?_
  refine zn_arr (atype := .int) (ty := .int) 0 hx hb (hts (.arrayClass .int) (by decide +kernel)) rfl rfl hK hP hD hS hA (a0 := (6, .inl (zA z0F))) (N' := 6) (fun _ => rfl) (by decide) (by decide) (by decide) (Nat.le_of_ble_eq_true rfl) (Nat.le_of_ble_eq_true rfl) dX8_init_23 (fun q23 H hP hD hS => ?_)
  have hP : va_P D vwCl ((h, .inr (10, [.int (iI 0), .ref q7, .ref q15, .null, .null, .null])) :: (([(q7, .inl (tA 0, 6, .inl (zA z0F)))] ++ [(q15, .inl (tA 0, 6, .inl (zA z0F)))]) ++ [(q23, .inl (tA 0, 6, .inl (zA z0F)))])) H := hP
  have hD : va_D A ((h, .inr (10, [.int (iI 0), .ref q7, .ref q15, .null, .null, .null])) :: (([(q7, .inl (tA 0, 6, .inl (zA z0F)))] ++ [(q15, .inl (tA 0, 6, .inl (zA z0F)))]) ++ [(q23, .inl (tA 0, 6, .inl (zA z0F)))])) := hD
  refine va_putF (D := D) (ci := 10) (v := .ref q23) (ty := (.array .int)) (C := RX8) (T := TX8) (N := 6) hx hb hts iX8 tyX8 tyX8_ok nmX8 hown hK hP hD hS 0 rfl rfl 3 (by decide) (hts (.fieldLink RX8 18 "HarborLights$Ships" "money" "[I") (by decide +kernel)) (fun _ h9 => h9) rfl hin rfl (by decide +kernel) rfl rfl (Nat.le_of_ble_eq_true rfl) dX8_init_25 (fun H locs hP hD hS => ?_)
  have hP : va_P D vwCl ((h, .inr (10, [.int (iI 0), .ref q7, .ref q15, .ref q23, .null, .null])) :: (([(q7, .inl (tA 0, 6, .inl (zA z0F)))] ++ [(q15, .inl (tA 0, 6, .inl (zA z0F)))]) ++ [(q23, .inl (tA 0, 6, .inl (zA z0F)))])) H := hP
  have hD : va_D A ((h, .inr (10, [.int (iI 0), .ref q7, .ref q15, .ref q23, .null, .null])) :: (([(q7, .inl (tA 0, 6, .inl (zA z0F)))] ++ [(q15, .inl (tA 0, 6, .inl (zA z0F)))]) ++ [(q23, .inl (tA 0, 6, .inl (zA z0F)))])) := hD
  refine lv_aload_n hx hb dX8_init_28 rfl (lv_at hl 0 rfl) ?_
  refine zz_bipush hx hb dX8_init_29 (by decide) ?_
  refine zn_arr (atype := .int) (ty := .int) 0 hx hb (hts (.arrayClass .int) (by decide +kernel)) rfl rfl hK hP hD hS hA (a0 := (6, .inl (zA z0F))) (N' := 6) (fun _ => rfl) (by decide) (by decide) (by decide) (Nat.le_of_ble_eq_true rfl) (Nat.le_of_ble_eq_true rfl) dX8_init_31 (fun q31 H hP hD hS => ?_)
  have hP : va_P D vwCl ((h, .inr (10, [.int (iI 0), .ref q7, .ref q15, .ref q23, .null, .null])) :: ((([(q7, .inl (tA 0, 6, .inl (zA z0F)))] ++ [(q15, .inl (tA 0, 6, .inl (zA z0F)))]) ++ [(q23, .inl (tA 0, 6, .inl (zA z0F)))]) ++ [(q31, .inl (tA 0, 6, .inl (zA z0F)))])) H := hP
  have hD : va_D A ((h, .inr (10, [.int (iI 0), .ref q7, .ref q15, .ref q23, .null, .null])) :: ((([(q7, .inl (tA 0, 6, .inl (zA z0F)))] ++ [(q15, .inl (tA 0, 6, .inl (zA z0F)))]) ++ [(q23, .inl (tA 0, 6, .inl (zA z0F)))]) ++ [(q31, .inl (tA 0, 6, .inl (zA z0F)))])) := hD
  refine va_putF (D := D) (ci := 10) (v := .ref q31) (ty := (.array .int)) (C := RX8) (T := TX8) (N := 6) hx hb hts iX8 tyX8 tyX8_ok nmX8 hown hK hP hD hS 0 rfl rfl 4 (by decide) (hts (.fieldLink RX8 21 "HarborLights$Ships" "litNights" "[I") (by decide +kernel)) (fun _ h9 => h9) rfl hin rfl (by decide +kernel) rfl rfl (Nat.le_of_ble_eq_true rfl) dX8_init_33 (fun H locs hP hD hS => ?_)
  have hP : va_P D vwCl ((h, .inr (10, [.int (iI 0), .ref q7, .ref q15, .ref q23, .ref q31, .null])) :: ((([(q7, .inl (tA 0, 6, .inl (zA z0F)))] ++ [(q15, .inl (tA 0, 6, .inl (zA z0F)))]) ++ [(q23, .inl (tA 0, 6, .inl (zA z0F)))]) ++ [(q31, .inl (tA 0, 6, .inl (zA z0F)))])) H := hP
  have hD : va_D A ((h, .inr (10, [.int (iI 0), .ref q7, .ref q15, .ref q23, .ref q31, .null])) :: ((([(q7, .inl (tA 0, 6, .inl (zA z0F)))] ++ [(q15, .inl (tA 0, 6, .inl (zA z0F)))]) ++ [(q23, .inl (tA 0, 6, .inl (zA z0F)))]) ++ [(q31, .inl (tA 0, 6, .inl (zA z0F)))])) := hD
  refine lv_aload_n hx hb dX8_init_36 rfl (lv_at hl 0 rfl) ?_
  refine zz_bipush hx hb dX8_init_37 (by decide) ?_
  refine zn_arr (atype := .int) (ty := .int) 0 hx hb (hts (.arrayClass .int) (by decide +kernel)) rfl rfl hK hP hD hS hA (a0 := (6, .inl (zA z0F))) (N' := 6) (fun _ => rfl) (by decide) (by decide) (by decide) (Nat.le_of_ble_eq_true rfl) (Nat.le_of_ble_eq_true rfl) dX8_init_39 (fun q39 H hP hD hS => ?_)
  have hP : va_P D vwCl ((h, .inr (10, [.int (iI 0), .ref q7, .ref q15, .ref q23, .ref q31, .null])) :: (((([(q7, .inl (tA 0, 6, .inl (zA z0F)))] ++ [(q15, .inl (tA 0, 6, .inl (zA z0F)))]) ++ [(q23, .inl (tA 0, 6, .inl (zA z0F)))]) ++ [(q31, .inl (tA 0, 6, .inl (zA z0F)))]) ++ [(q39, .inl (tA 0, 6, .inl (zA z0F)))])) H := hP
  have hD : va_D A ((h, .inr (10, [.int (iI 0), .ref q7, .ref q15, .ref q23, .ref q31, .null])) :: (((([(q7, .inl (tA 0, 6, .inl (zA z0F)))] ++ [(q15, .inl (tA 0, 6, .inl (zA z0F)))]) ++ [(q23, .inl (tA 0, 6, .inl (zA z0F)))]) ++ [(q31, .inl (tA 0, 6, .inl (zA z0F)))]) ++ [(q39, .inl (tA 0, 6, .inl (zA z0F)))])) := hD
  refine va_putF (D := D) (ci := 10) (v := .ref q39) (ty := (.array .int)) (C := RX8) (T := TX8) (N := 6) hx hb hts iX8 tyX8 tyX8_ok nmX8 hown hK hP hD hS 0 rfl rfl 5 (by decide) (hts (.fieldLink RX8 24 "HarborLights$Ships" "darkNights" "[I") (by decide +kernel)) (fun _ h9 => h9) rfl hin rfl (by decide +kernel) rfl rfl (Nat.le_of_ble_eq_true rfl) dX8_init_41 (fun H locs hP hD hS => ?_)
  have hP : va_P D vwCl ((h, .inr (10, [.int (iI 0), .ref q7, .ref q15, .ref q23, .ref q31, .ref q39])) :: (((([(q7, .inl (tA 0, 6, .inl (zA z0F)))] ++ [(q15, .inl (tA 0, 6, .inl (zA z0F)))]) ++ [(q23, .inl (tA 0, 6, .inl (zA z0F)))]) ++ [(q31, .inl (tA 0, 6, .inl (zA z0F)))]) ++ [(q39, .inl (tA 0, 6, .inl (zA z0F)))])) H := hP
  have hD : va_D A ((h, .inr (10, [.int (iI 0), .ref q7, .ref q15, .ref q23, .ref q31, .ref q39])) :: (((([(q7, .inl (tA 0, 6, .inl (zA z0F)))] ++ [(q15, .inl (tA 0, 6, .inl (zA z0F)))]) ++ [(q23, .inl (tA 0, 6, .inl (zA z0F)))]) ++ [(q31, .inl (tA 0, 6, .inl (zA z0F)))]) ++ [(q39, .inl (tA 0, 6, .inl (zA z0F)))])) := hD
  refine W.widen (k := 5) (n := 30) (Nat.le_of_ble_eq_true rfl) (Nat.le_of_ble_eq_true rfl) ?_
  exact hret ([q7, q15, q23, q31, q39]) _ _ _ _ dX8_init_44 True.intro hP hD hS

set_option maxHeartbeats 4000000 in
set_option maxRecDepth 100000 in
theorem c_X9_init (l : Launch) (K : Nat → Nat) (D : va_G) (tA : Nat → ClassId) (h sz : Nat) : zNv l yX9_init wsX9_init ({ frames := 2, cells := 12, slots := 143, locals := 32 }) K D tA [.ref h] [(h, .inr (11, [.null, .null, .int (iI 0), .int (iI 0), .int (iI 0), .long (lI 0), .long (lI 0), .long (lI 0)]))] sz (fun (u : List Nat) => True) (fun (u : List Nat) => bState tA h (u.getD 0 0) (u.getD 1 0) (u.getD 2 0) (u.getD 3 0) (u.getD 4 0) (u.getD 5 0) (u.getD 6 0) (u.getD 7 0) (u.getD 8 0) (u.getD 9 0) (u.getD 10 0) (u.getD 11 0) 0 0 z0F z0F z0F z0F z0F 0 z0F z0F z0F z0F z0F 0 0 0 0 0 0) 12 143 := by
  refine zNv_of (cc := cX9_init) (maxL := 1) (by decide) rfl rfl (Nat.le_of_ble_eq_true rfl) ?_
  intro p e s m args below meth c A Q ls hx hb hml hts hown hin hK hP hD hA hCn hPo hret hl
  obtain ⟨H, hHe⟩ : ∃ H : Heap, H = s.heap := ⟨_, rfl⟩
  have hS : va_S A s.heap H [] := by rw [hHe]; exact va_S.rf
  rw [← hHe] at hP ⊢
  have hl : lv_has ls 1 [(0, .ref h)] := hl
  have iX9 : ∀ v ∈ wsX90, v ∈ wsX9_init := by decide +kernel
  refine lv_aload_n hx hb dX9_init_0 rfl (lv_at hl 0 rfl) ?_
  refine W.objInit hx hb hown (hts (.methodLink RX9 1 objectInit) (by decide +kernel)) (hts (.instanceMethod objectInit) (by decide +kernel)) (hts (.code objectInit ⟨#[0xb1]⟩ 1 none) (List.mem_of_getElem? (i := 3) rfl)) rfl (by rw [hml]; exact hl.1) rfl dX9_init_1 (Nat.le_of_ble_eq_true rfl) (Nat.le_of_ble_eq_true rfl) ?_
  refine W.eq (g2 := F0 m 4 ls []) rfl ?_
  refine lv_aload_n hx hb dX9_init_4 rfl (lv_at hl 0 rfl) ?_
  refine zn_newN (ci := 4) (fs := [.int (iI 0), .int (iI 0), .null, .null, .null, .null, .null]) (C := RX1) (T := TX1) (N := 7) ⟨hx, hb, hml, hown, hts⟩ (by decide +kernel) tyX1 tyX1_ok (hts (.classLink RX9 7 RX1) (by decide +kernel)) (hts (.instantiable RX1 7) (by decide +kernel)) (hts (.initialized RX1) (by decide +kernel)) rfl (fun j hj => by rcases (show j = 0 ∨ j = 1 ∨ j = 2 ∨ j = 3 ∨ j = 4 ∨ j = 5 ∨ j = 6 by omega) with rfl | rfl | rfl | rfl | rfl | rfl | rfl <;> rfl) (fun q sz => c_X1_init l K D tA q sz) ⟨va_cnB 0 hts gX9_init_X1_init_n9 rfl rfl rfl (hPo.2.2 (RX9, 9, yX1_init) (List.mem_of_getElem? (i := 0) rfl)) (hts (.initialized RX1) (by decide +kernel)) (by decide +kernel) ⟨Nat.le_of_ble_eq_true rfl, Nat.le_of_ble_eq_true rfl⟩, rfl, hts (.instanceMethod yX1_init) (by decide +kernel)⟩ hK hP hD hS hA hCn hPo hl.1 dX9_init_5 dX9_init_8 dX9_init_9 ⟨Nat.le_of_ble_eq_true rfl, Nat.le_of_ble_eq_true rfl⟩ (Nat.le_of_ble_eq_true rfl) (fun q5_0 u5_0 H locs hp9 hP hD hS => ?_)
  have hP : va_P D vwCl ((h, .inr (11, [.null, .null, .int (iI 0), .int (iI 0), .int (iI 0), .long (lI 0), .long (lI 0), .long (lI 0)])) :: (bChart tA q5_0 (u5_0.getD 0 0) (u5_0.getD 1 0) (u5_0.getD 2 0) (u5_0.getD 3 0) (u5_0.getD 4 0) 0 0 z0F z0F z0F z0F z0F)) H := hP
  have hD : va_D A ((h, .inr (11, [.null, .null, .int (iI 0), .int (iI 0), .int (iI 0), .long (lI 0), .long (lI 0), .long (lI 0)])) :: (bChart tA q5_0 (u5_0.getD 0 0) (u5_0.getD 1 0) (u5_0.getD 2 0) (u5_0.getD 3 0) (u5_0.getD 4 0) 0 0 z0F z0F z0F z0F z0F)) := hD
  refine va_putF (D := D) (ci := 11) (v := .ref q5_0) (ty := (.object "HarborLights$Chart")) (C := RX9) (T := TX9) (N := 8) hx hb hts iX9 tyX9 tyX9_ok nmX9 hown hK hP hD hS 0 rfl rfl 0 (by decide) (hts (.fieldLink RX9 10 "HarborLights$State" "chart" "LHarborLights$Chart;") (by decide +kernel)) (fun _ h9 => h9) rfl hin rfl (by decide +kernel) rfl rfl (Nat.le_of_ble_eq_true rfl) dX9_init_12 (fun H locs hP hD hS => ?_)
  have hP : va_P D vwCl ((h, .inr (11, [.ref q5_0, .null, .int (iI 0), .int (iI 0), .int (iI 0), .long (lI 0), .long (lI 0), .long (lI 0)])) :: (bChart tA q5_0 (u5_0.getD 0 0) (u5_0.getD 1 0) (u5_0.getD 2 0) (u5_0.getD 3 0) (u5_0.getD 4 0) 0 0 z0F z0F z0F z0F z0F)) H := hP
  have hD : va_D A ((h, .inr (11, [.ref q5_0, .null, .int (iI 0), .int (iI 0), .int (iI 0), .long (lI 0), .long (lI 0), .long (lI 0)])) :: (bChart tA q5_0 (u5_0.getD 0 0) (u5_0.getD 1 0) (u5_0.getD 2 0) (u5_0.getD 3 0) (u5_0.getD 4 0) 0 0 z0F z0F z0F z0F z0F)) := hD
  refine lv_aload_n hx hb dX9_init_15 rfl (lv_at hl 0 rfl) ?_
  refine zn_newN (ci := 10) (fs := [.int (iI 0), .null, .null, .null, .null, .null]) (C := RX8) (T := TX8) (N := 6) ⟨hx, hb, hml, hown, hts⟩ (by decide +kernel) tyX8 tyX8_ok (hts (.classLink RX9 16 RX8) (by decide +kernel)) (hts (.instantiable RX8 6) (by decide +kernel)) (hts (.initialized RX8) (by decide +kernel)) rfl (fun j hj => by rcases (show j = 0 ∨ j = 1 ∨ j = 2 ∨ j = 3 ∨ j = 4 ∨ j = 5 by omega) with rfl | rfl | rfl | rfl | rfl | rfl <;> rfl) (fun q sz => c_X8_init l K D tA q sz) ⟨va_cnB 0 hts gX9_init_X8_init_n18 rfl rfl rfl (hPo.2.2 (RX9, 18, yX8_init) (List.mem_of_getElem? (i := 1) rfl)) (hts (.initialized RX8) (by decide +kernel)) (by decide +kernel) ⟨Nat.le_of_ble_eq_true rfl, Nat.le_of_ble_eq_true rfl⟩, rfl, hts (.instanceMethod yX8_init) (by decide +kernel)⟩ hK hP hD hS hA hCn hPo hl.1 dX9_init_16 dX9_init_19 dX9_init_20 ⟨Nat.le_of_ble_eq_true rfl, Nat.le_of_ble_eq_true rfl⟩ (Nat.le_of_ble_eq_true rfl) (fun q16_1 u16_1 H locs hp9 hP hD hS => ?_)
  have hP : va_P D vwCl ((h, .inr (11, [.ref q5_0, .null, .int (iI 0), .int (iI 0), .int (iI 0), .long (lI 0), .long (lI 0), .long (lI 0)])) :: ((bChart tA q5_0 (u5_0.getD 0 0) (u5_0.getD 1 0) (u5_0.getD 2 0) (u5_0.getD 3 0) (u5_0.getD 4 0) 0 0 z0F z0F z0F z0F z0F) ++ bShips tA q16_1 (u16_1.getD 0 0) (u16_1.getD 1 0) (u16_1.getD 2 0) (u16_1.getD 3 0) (u16_1.getD 4 0) 0 z0F z0F z0F z0F z0F)) H := hP
  have hD : va_D A ((h, .inr (11, [.ref q5_0, .null, .int (iI 0), .int (iI 0), .int (iI 0), .long (lI 0), .long (lI 0), .long (lI 0)])) :: ((bChart tA q5_0 (u5_0.getD 0 0) (u5_0.getD 1 0) (u5_0.getD 2 0) (u5_0.getD 3 0) (u5_0.getD 4 0) 0 0 z0F z0F z0F z0F z0F) ++ bShips tA q16_1 (u16_1.getD 0 0) (u16_1.getD 1 0) (u16_1.getD 2 0) (u16_1.getD 3 0) (u16_1.getD 4 0) 0 z0F z0F z0F z0F z0F)) := hD
  refine va_putF (D := D) (ci := 11) (v := .ref q16_1) (ty := (.object "HarborLights$Ships")) (C := RX9) (T := TX9) (N := 8) hx hb hts iX9 tyX9 tyX9_ok nmX9 hown hK hP hD hS 0 rfl rfl 1 (by decide) (hts (.fieldLink RX9 19 "HarborLights$State" "ships" "LHarborLights$Ships;") (by decide +kernel)) (fun _ h9 => h9) rfl hin rfl (by decide +kernel) rfl rfl (Nat.le_of_ble_eq_true rfl) dX9_init_23 (fun H locs hP hD hS => ?_)
  have hP : va_P D vwCl ((h, .inr (11, [.ref q5_0, .ref q16_1, .int (iI 0), .int (iI 0), .int (iI 0), .long (lI 0), .long (lI 0), .long (lI 0)])) :: ((bChart tA q5_0 (u5_0.getD 0 0) (u5_0.getD 1 0) (u5_0.getD 2 0) (u5_0.getD 3 0) (u5_0.getD 4 0) 0 0 z0F z0F z0F z0F z0F) ++ bShips tA q16_1 (u16_1.getD 0 0) (u16_1.getD 1 0) (u16_1.getD 2 0) (u16_1.getD 3 0) (u16_1.getD 4 0) 0 z0F z0F z0F z0F z0F)) H := hP
  have hD : va_D A ((h, .inr (11, [.ref q5_0, .ref q16_1, .int (iI 0), .int (iI 0), .int (iI 0), .long (lI 0), .long (lI 0), .long (lI 0)])) :: ((bChart tA q5_0 (u5_0.getD 0 0) (u5_0.getD 1 0) (u5_0.getD 2 0) (u5_0.getD 3 0) (u5_0.getD 4 0) 0 0 z0F z0F z0F z0F z0F) ++ bShips tA q16_1 (u16_1.getD 0 0) (u16_1.getD 1 0) (u16_1.getD 2 0) (u16_1.getD 3 0) (u16_1.getD 4 0) 0 z0F z0F z0F z0F z0F)) := hD
  refine W.widen (k := 12) (n := 143) (Nat.le_of_ble_eq_true rfl) (Nat.le_of_ble_eq_true rfl) ?_
  exact hret ([q5_0, (u5_0.getD 0 0), (u5_0.getD 1 0), (u5_0.getD 2 0), (u5_0.getD 3 0), (u5_0.getD 4 0), q16_1, (u16_1.getD 0 0), (u16_1.getD 1 0), (u16_1.getD 2 0), (u16_1.getD 3 0), (u16_1.getD 4 0)]) _ _ _ _ dX9_init_26 True.intro hP hD hS

set_option maxHeartbeats 4000000 in
set_option maxRecDepth 100000 in
theorem c_X5_init (l : Launch) (K : Nat → Nat) (D : va_G) (tA : Nat → ClassId) (h sz : Nat) : zNv l yX5_init wsX5_init ({ frames := 1, cells := 3, slots := 30, locals := 12 }) K D tA [.ref h] [(h, .inr (7, [.null, .null, .null]))] sz (fun (u : List Nat) => True) (fun (u : List Nat) => bRoutes tA h (u.getD 0 0) (u.getD 1 0) (u.getD 2 0) z0F z0F z0F) 3 30 := by
  refine zNv_of (cc := cX5_init) (maxL := 1) (by decide) rfl rfl (Nat.le_of_ble_eq_true rfl) ?_
  intro p e s m args below meth c A Q ls hx hb hml hts hown hin hK hP hD hA hCn hPo hret hl
  obtain ⟨H, hHe⟩ : ∃ H : Heap, H = s.heap := ⟨_, rfl⟩
  have hS : va_S A s.heap H [] := by rw [hHe]; exact va_S.rf
  rw [← hHe] at hP ⊢
  have hl : lv_has ls 1 [(0, .ref h)] := hl
  have iX5 : ∀ v ∈ wsX50, v ∈ wsX5_init := by decide +kernel
  refine lv_aload_n hx hb dX5_init_0 rfl (lv_at hl 0 rfl) ?_
  refine W.objInit hx hb hown (hts (.methodLink RX5 3 objectInit) (by decide +kernel)) (hts (.instanceMethod objectInit) (by decide +kernel)) (hts (.code objectInit ⟨#[0xb1]⟩ 1 none) (List.mem_of_getElem? (i := 3) rfl)) rfl (by rw [hml]; exact hl.1) rfl dX5_init_1 (Nat.le_of_ble_eq_true rfl) (Nat.le_of_ble_eq_true rfl) ?_
  refine W.eq (g2 := F0 m 4 ls []) rfl ?_
  refine lv_aload_n hx hb dX5_init_4 rfl (lv_at hl 0 rfl) ?_
  refine zz_bipush hx hb dX5_init_5 (by decide) ?_
  refine zn_arr (atype := .int) (ty := .int) 0 hx hb (hts (.arrayClass .int) (by decide +kernel)) rfl rfl hK hP hD hS hA (a0 := (10, .inl (zA z0F))) (N' := 10) (fun _ => rfl) (by decide) (by decide) (by decide) (Nat.le_of_ble_eq_true rfl) (Nat.le_of_ble_eq_true rfl) dX5_init_7 (fun q7 H hP hD hS => ?_)
  have hP : va_P D vwCl ((h, .inr (7, [.null, .null, .null])) :: [(q7, .inl (tA 0, 10, .inl (zA z0F)))]) H := hP
  have hD : va_D A ((h, .inr (7, [.null, .null, .null])) :: [(q7, .inl (tA 0, 10, .inl (zA z0F)))]) := hD
  refine va_putF (D := D) (ci := 7) (v := .ref q7) (ty := (.array .int)) (C := RX5) (T := TX5) (N := 3) hx hb hts iX5 tyX5 tyX5_ok nmX5 hown hK hP hD hS 0 rfl rfl 0 (by decide) (hts (.fieldLink RX5 9 "HarborLights$Routes" "shortest" "[I") (by decide +kernel)) (fun _ h9 => h9) rfl hin rfl (by decide +kernel) rfl rfl (Nat.le_of_ble_eq_true rfl) dX5_init_9 (fun H locs hP hD hS => ?_)
  have hP : va_P D vwCl ((h, .inr (7, [.ref q7, .null, .null])) :: [(q7, .inl (tA 0, 10, .inl (zA z0F)))]) H := hP
  have hD : va_D A ((h, .inr (7, [.ref q7, .null, .null])) :: [(q7, .inl (tA 0, 10, .inl (zA z0F)))]) := hD
  refine lv_aload_n hx hb dX5_init_12 rfl (lv_at hl 0 rfl) ?_
  refine zz_bipush hx hb dX5_init_13 (by decide) ?_
  refine zn_arr (atype := .int) (ty := .int) 0 hx hb (hts (.arrayClass .int) (by decide +kernel)) rfl rfl hK hP hD hS hA (a0 := (10, .inl (zA z0F))) (N' := 10) (fun _ => rfl) (by decide) (by decide) (by decide) (Nat.le_of_ble_eq_true rfl) (Nat.le_of_ble_eq_true rfl) dX5_init_15 (fun q15 H hP hD hS => ?_)
  have hP : va_P D vwCl ((h, .inr (7, [.ref q7, .null, .null])) :: ([(q7, .inl (tA 0, 10, .inl (zA z0F)))] ++ [(q15, .inl (tA 0, 10, .inl (zA z0F)))])) H := hP
  have hD : va_D A ((h, .inr (7, [.ref q7, .null, .null])) :: ([(q7, .inl (tA 0, 10, .inl (zA z0F)))] ++ [(q15, .inl (tA 0, 10, .inl (zA z0F)))])) := hD
  refine va_putF (D := D) (ci := 7) (v := .ref q15) (ty := (.array .int)) (C := RX5) (T := TX5) (N := 3) hx hb hts iX5 tyX5 tyX5_ok nmX5 hown hK hP hD hS 0 rfl rfl 1 (by decide) (hts (.fieldLink RX5 15 "HarborLights$Routes" "group" "[I") (by decide +kernel)) (fun _ h9 => h9) rfl hin rfl (by decide +kernel) rfl rfl (Nat.le_of_ble_eq_true rfl) dX5_init_17 (fun H locs hP hD hS => ?_)
  have hP : va_P D vwCl ((h, .inr (7, [.ref q7, .ref q15, .null])) :: ([(q7, .inl (tA 0, 10, .inl (zA z0F)))] ++ [(q15, .inl (tA 0, 10, .inl (zA z0F)))])) H := hP
  have hD : va_D A ((h, .inr (7, [.ref q7, .ref q15, .null])) :: ([(q7, .inl (tA 0, 10, .inl (zA z0F)))] ++ [(q15, .inl (tA 0, 10, .inl (zA z0F)))])) := hD
  refine lv_aload_n hx hb dX5_init_20 rfl (lv_at hl 0 rfl) ?_
  refine zz_bipush hx hb dX5_init_21 (by decide) ?_
  refine zn_arr (atype := .boolean) (ty := .boolean) 1 hx hb (hts (.arrayClass .boolean) (by decide +kernel)) rfl rfl hK hP hD hS hA (a0 := (10, .inl (zA z0F))) (N' := 10) (fun _ => rfl) (by decide) (by decide) (by decide) (Nat.le_of_ble_eq_true rfl) (Nat.le_of_ble_eq_true rfl) dX5_init_23 (fun q23 H hP hD hS => ?_)
  have hP : va_P D vwCl ((h, .inr (7, [.ref q7, .ref q15, .null])) :: (([(q7, .inl (tA 0, 10, .inl (zA z0F)))] ++ [(q15, .inl (tA 0, 10, .inl (zA z0F)))]) ++ [(q23, .inl (tA 1, 10, .inl (zA z0F)))])) H := hP
  have hD : va_D A ((h, .inr (7, [.ref q7, .ref q15, .null])) :: (([(q7, .inl (tA 0, 10, .inl (zA z0F)))] ++ [(q15, .inl (tA 0, 10, .inl (zA z0F)))]) ++ [(q23, .inl (tA 1, 10, .inl (zA z0F)))])) := hD
  refine va_putF (D := D) (ci := 7) (v := .ref q23) (ty := (.array .boolean)) (C := RX5) (T := TX5) (N := 3) hx hb hts iX5 tyX5 tyX5_ok nmX5 hown hK hP hD hS 0 rfl rfl 2 (by decide) (hts (.fieldLink RX5 18 "HarborLights$Routes" "seen" "[Z") (by decide +kernel)) (fun _ h9 => h9) rfl hin rfl (by decide +kernel) rfl rfl (Nat.le_of_ble_eq_true rfl) dX5_init_25 (fun H locs hP hD hS => ?_)
  have hP : va_P D vwCl ((h, .inr (7, [.ref q7, .ref q15, .ref q23])) :: (([(q7, .inl (tA 0, 10, .inl (zA z0F)))] ++ [(q15, .inl (tA 0, 10, .inl (zA z0F)))]) ++ [(q23, .inl (tA 1, 10, .inl (zA z0F)))])) H := hP
  have hD : va_D A ((h, .inr (7, [.ref q7, .ref q15, .ref q23])) :: (([(q7, .inl (tA 0, 10, .inl (zA z0F)))] ++ [(q15, .inl (tA 0, 10, .inl (zA z0F)))]) ++ [(q23, .inl (tA 1, 10, .inl (zA z0F)))])) := hD
  refine W.widen (k := 3) (n := 30) (Nat.le_of_ble_eq_true rfl) (Nat.le_of_ble_eq_true rfl) ?_
  exact hret ([q7, q15, q23]) _ _ _ _ dX5_init_28 True.intro hP hD hS

set_option maxHeartbeats 4000000 in
set_option maxRecDepth 100000 in
theorem c_X7_init (l : Launch) (K : Nat → Nat) (D : va_G) (tA : Nat → ClassId) (h sz : Nat) : zNv l yX7_init wsX7_init ({ frames := 1, cells := 4, slots := 24, locals := 12 }) K D tA [.ref h] [(h, .inr (9, [.null, .null, .null, .null, .int (iI 0)]))] sz (fun (u : List Nat) => True) (fun (u : List Nat) => bShares tA h (u.getD 0 0) (u.getD 1 0) (u.getD 2 0) (u.getD 3 0) z0F z0F z0F z0F 0) 4 24 := by
  refine zNv_of (cc := cX7_init) (maxL := 1) (by decide) rfl rfl (Nat.le_of_ble_eq_true rfl) ?_
  intro p e s m args below meth c A Q ls hx hb hml hts hown hin hK hP hD hA hCn hPo hret hl
  obtain ⟨H, hHe⟩ : ∃ H : Heap, H = s.heap := ⟨_, rfl⟩
  have hS : va_S A s.heap H [] := by rw [hHe]; exact va_S.rf
  rw [← hHe] at hP ⊢
  have hl : lv_has ls 1 [(0, .ref h)] := hl
  have iX7 : ∀ v ∈ wsX70, v ∈ wsX7_init := by decide +kernel
  refine lv_aload_n hx hb dX7_init_0 rfl (lv_at hl 0 rfl) ?_
  refine W.objInit hx hb hown (hts (.methodLink RX7 3 objectInit) (by decide +kernel)) (hts (.instanceMethod objectInit) (by decide +kernel)) (hts (.code objectInit ⟨#[0xb1]⟩ 1 none) (List.mem_of_getElem? (i := 3) rfl)) rfl (by rw [hml]; exact hl.1) rfl dX7_init_1 (Nat.le_of_ble_eq_true rfl) (Nat.le_of_ble_eq_true rfl) ?_
  refine W.eq (g2 := F0 m 4 ls []) rfl ?_
  refine lv_aload_n hx hb dX7_init_4 rfl (lv_at hl 0 rfl) ?_
  refine zz_bipush hx hb dX7_init_5 (by decide) ?_
  refine zn_arr (atype := .boolean) (ty := .boolean) 1 hx hb (hts (.arrayClass .boolean) (by decide +kernel)) rfl rfl hK hP hD hS hA (a0 := (6, .inl (zA z0F))) (N' := 6) (fun _ => rfl) (by decide) (by decide) (by decide) (Nat.le_of_ble_eq_true rfl) (Nat.le_of_ble_eq_true rfl) dX7_init_7 (fun q7 H hP hD hS => ?_)
  have hP : va_P D vwCl ((h, .inr (9, [.null, .null, .null, .null, .int (iI 0)])) :: [(q7, .inl (tA 1, 6, .inl (zA z0F)))]) H := hP
  have hD : va_D A ((h, .inr (9, [.null, .null, .null, .null, .int (iI 0)])) :: [(q7, .inl (tA 1, 6, .inl (zA z0F)))]) := hD
  refine va_putF (D := D) (ci := 9) (v := .ref q7) (ty := (.array .boolean)) (C := RX7) (T := TX7) (N := 5) hx hb hts iX7 tyX7 tyX7_ok nmX7 hown hK hP hD hS 0 rfl rfl 0 (by decide) (hts (.fieldLink RX7 9 "HarborLights$Shares" "takesPart" "[Z") (by decide +kernel)) (fun _ h9 => h9) rfl hin rfl (by decide +kernel) rfl rfl (Nat.le_of_ble_eq_true rfl) dX7_init_9 (fun H locs hP hD hS => ?_)
  have hP : va_P D vwCl ((h, .inr (9, [.ref q7, .null, .null, .null, .int (iI 0)])) :: [(q7, .inl (tA 1, 6, .inl (zA z0F)))]) H := hP
  have hD : va_D A ((h, .inr (9, [.ref q7, .null, .null, .null, .int (iI 0)])) :: [(q7, .inl (tA 1, 6, .inl (zA z0F)))]) := hD
  refine lv_aload_n hx hb dX7_init_12 rfl (lv_at hl 0 rfl) ?_
  refine zz_bipush hx hb dX7_init_13 (by decide) ?_
  refine zn_arr (atype := .int) (ty := .int) 0 hx hb (hts (.arrayClass .int) (by decide +kernel)) rfl rfl hK hP hD hS hA (a0 := (6, .inl (zA z0F))) (N' := 6) (fun _ => rfl) (by decide) (by decide) (by decide) (Nat.le_of_ble_eq_true rfl) (Nat.le_of_ble_eq_true rfl) dX7_init_15 (fun q15 H hP hD hS => ?_)
  have hP : va_P D vwCl ((h, .inr (9, [.ref q7, .null, .null, .null, .int (iI 0)])) :: ([(q7, .inl (tA 1, 6, .inl (zA z0F)))] ++ [(q15, .inl (tA 0, 6, .inl (zA z0F)))])) H := hP
  have hD : va_D A ((h, .inr (9, [.ref q7, .null, .null, .null, .int (iI 0)])) :: ([(q7, .inl (tA 1, 6, .inl (zA z0F)))] ++ [(q15, .inl (tA 0, 6, .inl (zA z0F)))])) := hD
  refine va_putF (D := D) (ci := 9) (v := .ref q15) (ty := (.array .int)) (C := RX7) (T := TX7) (N := 5) hx hb hts iX7 tyX7 tyX7_ok nmX7 hown hK hP hD hS 0 rfl rfl 1 (by decide) (hts (.fieldLink RX7 15 "HarborLights$Shares" "share" "[I") (by decide +kernel)) (fun _ h9 => h9) rfl hin rfl (by decide +kernel) rfl rfl (Nat.le_of_ble_eq_true rfl) dX7_init_17 (fun H locs hP hD hS => ?_)
  have hP : va_P D vwCl ((h, .inr (9, [.ref q7, .ref q15, .null, .null, .int (iI 0)])) :: ([(q7, .inl (tA 1, 6, .inl (zA z0F)))] ++ [(q15, .inl (tA 0, 6, .inl (zA z0F)))])) H := hP
  have hD : va_D A ((h, .inr (9, [.ref q7, .ref q15, .null, .null, .int (iI 0)])) :: ([(q7, .inl (tA 1, 6, .inl (zA z0F)))] ++ [(q15, .inl (tA 0, 6, .inl (zA z0F)))])) := hD
  refine lv_aload_n hx hb dX7_init_20 rfl (lv_at hl 0 rfl) ?_
  refine zz_bipush hx hb dX7_init_21 (by decide) ?_
  refine zn_arr (atype := .int) (ty := .int) 0 hx hb (hts (.arrayClass .int) (by decide +kernel)) rfl rfl hK hP hD hS hA (a0 := (6, .inl (zA z0F))) (N' := 6) (fun _ => rfl) (by decide) (by decide) (by decide) (Nat.le_of_ble_eq_true rfl) (Nat.le_of_ble_eq_true rfl) dX7_init_23 (fun q23 H hP hD hS => ?_)
  have hP : va_P D vwCl ((h, .inr (9, [.ref q7, .ref q15, .null, .null, .int (iI 0)])) :: (([(q7, .inl (tA 1, 6, .inl (zA z0F)))] ++ [(q15, .inl (tA 0, 6, .inl (zA z0F)))]) ++ [(q23, .inl (tA 0, 6, .inl (zA z0F)))])) H := hP
  have hD : va_D A ((h, .inr (9, [.ref q7, .ref q15, .null, .null, .int (iI 0)])) :: (([(q7, .inl (tA 1, 6, .inl (zA z0F)))] ++ [(q15, .inl (tA 0, 6, .inl (zA z0F)))]) ++ [(q23, .inl (tA 0, 6, .inl (zA z0F)))])) := hD
  refine va_putF (D := D) (ci := 9) (v := .ref q23) (ty := (.array .int)) (C := RX7) (T := TX7) (N := 5) hx hb hts iX7 tyX7 tyX7_ok nmX7 hown hK hP hD hS 0 rfl rfl 2 (by decide) (hts (.fieldLink RX7 19 "HarborLights$Shares" "need" "[I") (by decide +kernel)) (fun _ h9 => h9) rfl hin rfl (by decide +kernel) rfl rfl (Nat.le_of_ble_eq_true rfl) dX7_init_25 (fun H locs hP hD hS => ?_)
  have hP : va_P D vwCl ((h, .inr (9, [.ref q7, .ref q15, .ref q23, .null, .int (iI 0)])) :: (([(q7, .inl (tA 1, 6, .inl (zA z0F)))] ++ [(q15, .inl (tA 0, 6, .inl (zA z0F)))]) ++ [(q23, .inl (tA 0, 6, .inl (zA z0F)))])) H := hP
  have hD : va_D A ((h, .inr (9, [.ref q7, .ref q15, .ref q23, .null, .int (iI 0)])) :: (([(q7, .inl (tA 1, 6, .inl (zA z0F)))] ++ [(q15, .inl (tA 0, 6, .inl (zA z0F)))]) ++ [(q23, .inl (tA 0, 6, .inl (zA z0F)))])) := hD
  refine lv_aload_n hx hb dX7_init_28 rfl (lv_at hl 0 rfl) ?_
  refine zz_bipush hx hb dX7_init_29 (by decide) ?_
  refine zn_arr (atype := .int) (ty := .int) 0 hx hb (hts (.arrayClass .int) (by decide +kernel)) rfl rfl hK hP hD hS hA (a0 := (6, .inl (zA z0F))) (N' := 6) (fun _ => rfl) (by decide) (by decide) (by decide) (Nat.le_of_ble_eq_true rfl) (Nat.le_of_ble_eq_true rfl) dX7_init_31 (fun q31 H hP hD hS => ?_)
  have hP : va_P D vwCl ((h, .inr (9, [.ref q7, .ref q15, .ref q23, .null, .int (iI 0)])) :: ((([(q7, .inl (tA 1, 6, .inl (zA z0F)))] ++ [(q15, .inl (tA 0, 6, .inl (zA z0F)))]) ++ [(q23, .inl (tA 0, 6, .inl (zA z0F)))]) ++ [(q31, .inl (tA 0, 6, .inl (zA z0F)))])) H := hP
  have hD : va_D A ((h, .inr (9, [.ref q7, .ref q15, .ref q23, .null, .int (iI 0)])) :: ((([(q7, .inl (tA 1, 6, .inl (zA z0F)))] ++ [(q15, .inl (tA 0, 6, .inl (zA z0F)))]) ++ [(q23, .inl (tA 0, 6, .inl (zA z0F)))]) ++ [(q31, .inl (tA 0, 6, .inl (zA z0F)))])) := hD
  refine va_putF (D := D) (ci := 9) (v := .ref q31) (ty := (.array .int)) (C := RX7) (T := TX7) (N := 5) hx hb hts iX7 tyX7 tyX7_ok nmX7 hown hK hP hD hS 0 rfl rfl 3 (by decide) (hts (.fieldLink RX7 22 "HarborLights$Shares" "order" "[I") (by decide +kernel)) (fun _ h9 => h9) rfl hin rfl (by decide +kernel) rfl rfl (Nat.le_of_ble_eq_true rfl) dX7_init_33 (fun H locs hP hD hS => ?_)
  have hP : va_P D vwCl ((h, .inr (9, [.ref q7, .ref q15, .ref q23, .ref q31, .int (iI 0)])) :: ((([(q7, .inl (tA 1, 6, .inl (zA z0F)))] ++ [(q15, .inl (tA 0, 6, .inl (zA z0F)))]) ++ [(q23, .inl (tA 0, 6, .inl (zA z0F)))]) ++ [(q31, .inl (tA 0, 6, .inl (zA z0F)))])) H := hP
  have hD : va_D A ((h, .inr (9, [.ref q7, .ref q15, .ref q23, .ref q31, .int (iI 0)])) :: ((([(q7, .inl (tA 1, 6, .inl (zA z0F)))] ++ [(q15, .inl (tA 0, 6, .inl (zA z0F)))]) ++ [(q23, .inl (tA 0, 6, .inl (zA z0F)))]) ++ [(q31, .inl (tA 0, 6, .inl (zA z0F)))])) := hD
  refine W.widen (k := 4) (n := 24) (Nat.le_of_ble_eq_true rfl) (Nat.le_of_ble_eq_true rfl) ?_
  exact hret ([q7, q15, q23, q31]) _ _ _ _ dX7_init_36 True.intro hP hD hS

set_option maxHeartbeats 4000000 in
set_option maxRecDepth 100000 in
theorem c_X4_init (l : Launch) (K : Nat → Nat) (D : va_G) (tA : Nat → ClassId) (h sz : Nat) : zNv l yX4_init wsX4_init ({ frames := 3, cells := 22, slots := 213, locals := 52 }) K D tA [.ref h] [(h, .inr (6, [.null, .null, .null]))] sz (fun (u : List Nat) => True) (fun (u : List Nat) => bOffice tA h (u.getD 0 0) (u.getD 1 0) (u.getD 2 0) (u.getD 3 0) (u.getD 4 0) (u.getD 5 0) (u.getD 6 0) (u.getD 7 0) (u.getD 8 0) (u.getD 9 0) (u.getD 10 0) (u.getD 11 0) (u.getD 12 0) (u.getD 13 0) (u.getD 14 0) (u.getD 15 0) (u.getD 16 0) (u.getD 17 0) (u.getD 18 0) (u.getD 19 0) (u.getD 20 0) (u.getD 21 0) 0 0 z0F z0F z0F z0F z0F 0 z0F z0F z0F z0F z0F 0 0 0 0 0 0 z0F z0F z0F z0F z0F z0F z0F 0) 22 213 := by
  refine zNv_of (cc := cX4_init) (maxL := 1) (by decide) rfl rfl (Nat.le_of_ble_eq_true rfl) ?_
  intro p e s m args below meth c A Q ls hx hb hml hts hown hin hK hP hD hA hCn hPo hret hl
  obtain ⟨H, hHe⟩ : ∃ H : Heap, H = s.heap := ⟨_, rfl⟩
  have hS : va_S A s.heap H [] := by rw [hHe]; exact va_S.rf
  rw [← hHe] at hP ⊢
  have hl : lv_has ls 1 [(0, .ref h)] := hl
  have iX4 : ∀ v ∈ wsX40, v ∈ wsX4_init := by decide +kernel
  refine lv_aload_n hx hb dX4_init_0 rfl (lv_at hl 0 rfl) ?_
  refine W.objInit hx hb hown (hts (.methodLink RX4 3 objectInit) (by decide +kernel)) (hts (.instanceMethod objectInit) (by decide +kernel)) (hts (.code objectInit ⟨#[0xb1]⟩ 1 none) (List.mem_of_getElem? (i := 3) rfl)) rfl (by rw [hml]; exact hl.1) rfl dX4_init_1 (Nat.le_of_ble_eq_true rfl) (Nat.le_of_ble_eq_true rfl) ?_
  refine W.eq (g2 := F0 m 4 ls []) rfl ?_
  refine lv_aload_n hx hb dX4_init_4 rfl (lv_at hl 0 rfl) ?_
  refine zn_newN (ci := 11) (fs := [.null, .null, .int (iI 0), .int (iI 0), .int (iI 0), .long (lI 0), .long (lI 0), .long (lI 0)]) (C := RX9) (T := TX9) (N := 8) ⟨hx, hb, hml, hown, hts⟩ (by decide +kernel) tyX9 tyX9_ok (hts (.classLink RX4 9 RX9) (by decide +kernel)) (hts (.instantiable RX9 8) (by decide +kernel)) (hts (.initialized RX9) (by decide +kernel)) rfl (fun j hj => by rcases (show j = 0 ∨ j = 1 ∨ j = 2 ∨ j = 3 ∨ j = 4 ∨ j = 5 ∨ j = 6 ∨ j = 7 by omega) with rfl | rfl | rfl | rfl | rfl | rfl | rfl | rfl <;> rfl) (fun q sz => c_X9_init l K D tA q sz) ⟨va_cnB 0 hts gX4_init_X9_init_n11 rfl rfl rfl (hPo.2.2 (RX4, 11, yX9_init) (List.mem_of_getElem? (i := 2) rfl)) (hts (.initialized RX9) (by decide +kernel)) (by decide +kernel) ⟨Nat.le_of_ble_eq_true rfl, Nat.le_of_ble_eq_true rfl⟩, rfl, hts (.instanceMethod yX9_init) (by decide +kernel)⟩ hK hP hD hS hA hCn hPo hl.1 dX4_init_5 dX4_init_8 dX4_init_9 ⟨Nat.le_of_ble_eq_true rfl, Nat.le_of_ble_eq_true rfl⟩ (Nat.le_of_ble_eq_true rfl) (fun q5_0 u5_0 H locs hp9 hP hD hS => ?_)
  have hP : va_P D vwCl ((h, .inr (6, [.null, .null, .null])) :: (bState tA q5_0 (u5_0.getD 0 0) (u5_0.getD 1 0) (u5_0.getD 2 0) (u5_0.getD 3 0) (u5_0.getD 4 0) (u5_0.getD 5 0) (u5_0.getD 6 0) (u5_0.getD 7 0) (u5_0.getD 8 0) (u5_0.getD 9 0) (u5_0.getD 10 0) (u5_0.getD 11 0) 0 0 z0F z0F z0F z0F z0F 0 z0F z0F z0F z0F z0F 0 0 0 0 0 0)) H := hP
  have hD : va_D A ((h, .inr (6, [.null, .null, .null])) :: (bState tA q5_0 (u5_0.getD 0 0) (u5_0.getD 1 0) (u5_0.getD 2 0) (u5_0.getD 3 0) (u5_0.getD 4 0) (u5_0.getD 5 0) (u5_0.getD 6 0) (u5_0.getD 7 0) (u5_0.getD 8 0) (u5_0.getD 9 0) (u5_0.getD 10 0) (u5_0.getD 11 0) 0 0 z0F z0F z0F z0F z0F 0 z0F z0F z0F z0F z0F 0 0 0 0 0 0)) := hD
  refine va_putF (D := D) (ci := 6) (v := .ref q5_0) (ty := (.object "HarborLights$State")) (C := RX4) (T := TX4) (N := 3) hx hb hts iX4 tyX4 tyX4_ok nmX4 hown hK hP hD hS 0 rfl rfl 0 (by decide) (hts (.fieldLink RX4 12 "HarborLights$Office" "now" "LHarborLights$State;") (by decide +kernel)) (fun _ h9 => h9) rfl hin rfl (by decide +kernel) rfl rfl (Nat.le_of_ble_eq_true rfl) dX4_init_12 (fun H locs hP hD hS => ?_)
  have hP : va_P D vwCl ((h, .inr (6, [.ref q5_0, .null, .null])) :: (bState tA q5_0 (u5_0.getD 0 0) (u5_0.getD 1 0) (u5_0.getD 2 0) (u5_0.getD 3 0) (u5_0.getD 4 0) (u5_0.getD 5 0) (u5_0.getD 6 0) (u5_0.getD 7 0) (u5_0.getD 8 0) (u5_0.getD 9 0) (u5_0.getD 10 0) (u5_0.getD 11 0) 0 0 z0F z0F z0F z0F z0F 0 z0F z0F z0F z0F z0F 0 0 0 0 0 0)) H := hP
  have hD : va_D A ((h, .inr (6, [.ref q5_0, .null, .null])) :: (bState tA q5_0 (u5_0.getD 0 0) (u5_0.getD 1 0) (u5_0.getD 2 0) (u5_0.getD 3 0) (u5_0.getD 4 0) (u5_0.getD 5 0) (u5_0.getD 6 0) (u5_0.getD 7 0) (u5_0.getD 8 0) (u5_0.getD 9 0) (u5_0.getD 10 0) (u5_0.getD 11 0) 0 0 z0F z0F z0F z0F z0F 0 z0F z0F z0F z0F z0F 0 0 0 0 0 0)) := hD
  refine lv_aload_n hx hb dX4_init_15 rfl (lv_at hl 0 rfl) ?_
  refine zn_newN (ci := 7) (fs := [.null, .null, .null]) (C := RX5) (T := TX5) (N := 3) ⟨hx, hb, hml, hown, hts⟩ (by decide +kernel) tyX5 tyX5_ok (hts (.classLink RX4 18 RX5) (by decide +kernel)) (hts (.instantiable RX5 3) (by decide +kernel)) (hts (.initialized RX5) (by decide +kernel)) rfl (fun j hj => by rcases (show j = 0 ∨ j = 1 ∨ j = 2 by omega) with rfl | rfl | rfl <;> rfl) (fun q sz => c_X5_init l K D tA q sz) ⟨va_cnB 0 hts gX4_init_X5_init_n20 rfl rfl rfl (hPo.2.2 (RX4, 20, yX5_init) (List.mem_of_getElem? (i := 3) rfl)) (hts (.initialized RX5) (by decide +kernel)) (by decide +kernel) ⟨Nat.le_of_ble_eq_true rfl, Nat.le_of_ble_eq_true rfl⟩, rfl, hts (.instanceMethod yX5_init) (by decide +kernel)⟩ hK hP hD hS hA hCn hPo hl.1 dX4_init_16 dX4_init_19 dX4_init_20 ⟨Nat.le_of_ble_eq_true rfl, Nat.le_of_ble_eq_true rfl⟩ (Nat.le_of_ble_eq_true rfl) (fun q16_1 u16_1 H locs hp9 hP hD hS => ?_)
  have hP : va_P D vwCl ((h, .inr (6, [.ref q5_0, .null, .null])) :: ((bState tA q5_0 (u5_0.getD 0 0) (u5_0.getD 1 0) (u5_0.getD 2 0) (u5_0.getD 3 0) (u5_0.getD 4 0) (u5_0.getD 5 0) (u5_0.getD 6 0) (u5_0.getD 7 0) (u5_0.getD 8 0) (u5_0.getD 9 0) (u5_0.getD 10 0) (u5_0.getD 11 0) 0 0 z0F z0F z0F z0F z0F 0 z0F z0F z0F z0F z0F 0 0 0 0 0 0) ++ bRoutes tA q16_1 (u16_1.getD 0 0) (u16_1.getD 1 0) (u16_1.getD 2 0) z0F z0F z0F)) H := hP
  have hD : va_D A ((h, .inr (6, [.ref q5_0, .null, .null])) :: ((bState tA q5_0 (u5_0.getD 0 0) (u5_0.getD 1 0) (u5_0.getD 2 0) (u5_0.getD 3 0) (u5_0.getD 4 0) (u5_0.getD 5 0) (u5_0.getD 6 0) (u5_0.getD 7 0) (u5_0.getD 8 0) (u5_0.getD 9 0) (u5_0.getD 10 0) (u5_0.getD 11 0) 0 0 z0F z0F z0F z0F z0F 0 z0F z0F z0F z0F z0F 0 0 0 0 0 0) ++ bRoutes tA q16_1 (u16_1.getD 0 0) (u16_1.getD 1 0) (u16_1.getD 2 0) z0F z0F z0F)) := hD
  refine va_putF (D := D) (ci := 6) (v := .ref q16_1) (ty := (.object "HarborLights$Routes")) (C := RX4) (T := TX4) (N := 3) hx hb hts iX4 tyX4 tyX4_ok nmX4 hown hK hP hD hS 0 rfl rfl 1 (by decide) (hts (.fieldLink RX4 21 "HarborLights$Office" "routes" "LHarborLights$Routes;") (by decide +kernel)) (fun _ h9 => h9) rfl hin rfl (by decide +kernel) rfl rfl (Nat.le_of_ble_eq_true rfl) dX4_init_23 (fun H locs hP hD hS => ?_)
  have hP : va_P D vwCl ((h, .inr (6, [.ref q5_0, .ref q16_1, .null])) :: ((bState tA q5_0 (u5_0.getD 0 0) (u5_0.getD 1 0) (u5_0.getD 2 0) (u5_0.getD 3 0) (u5_0.getD 4 0) (u5_0.getD 5 0) (u5_0.getD 6 0) (u5_0.getD 7 0) (u5_0.getD 8 0) (u5_0.getD 9 0) (u5_0.getD 10 0) (u5_0.getD 11 0) 0 0 z0F z0F z0F z0F z0F 0 z0F z0F z0F z0F z0F 0 0 0 0 0 0) ++ bRoutes tA q16_1 (u16_1.getD 0 0) (u16_1.getD 1 0) (u16_1.getD 2 0) z0F z0F z0F)) H := hP
  have hD : va_D A ((h, .inr (6, [.ref q5_0, .ref q16_1, .null])) :: ((bState tA q5_0 (u5_0.getD 0 0) (u5_0.getD 1 0) (u5_0.getD 2 0) (u5_0.getD 3 0) (u5_0.getD 4 0) (u5_0.getD 5 0) (u5_0.getD 6 0) (u5_0.getD 7 0) (u5_0.getD 8 0) (u5_0.getD 9 0) (u5_0.getD 10 0) (u5_0.getD 11 0) 0 0 z0F z0F z0F z0F z0F 0 z0F z0F z0F z0F z0F 0 0 0 0 0 0) ++ bRoutes tA q16_1 (u16_1.getD 0 0) (u16_1.getD 1 0) (u16_1.getD 2 0) z0F z0F z0F)) := hD
  refine lv_aload_n hx hb dX4_init_26 rfl (lv_at hl 0 rfl) ?_
  refine zn_newN (ci := 9) (fs := [.null, .null, .null, .null, .int (iI 0)]) (C := RX7) (T := TX7) (N := 5) ⟨hx, hb, hml, hown, hts⟩ (by decide +kernel) tyX7 tyX7_ok (hts (.classLink RX4 25 RX7) (by decide +kernel)) (hts (.instantiable RX7 5) (by decide +kernel)) (hts (.initialized RX7) (by decide +kernel)) rfl (fun j hj => by rcases (show j = 0 ∨ j = 1 ∨ j = 2 ∨ j = 3 ∨ j = 4 by omega) with rfl | rfl | rfl | rfl | rfl <;> rfl) (fun q sz => c_X7_init l K D tA q sz) ⟨va_cnB 0 hts gX4_init_X7_init_n27 rfl rfl rfl (hPo.2.2 (RX4, 27, yX7_init) (List.mem_of_getElem? (i := 4) rfl)) (hts (.initialized RX7) (by decide +kernel)) (by decide +kernel) ⟨Nat.le_of_ble_eq_true rfl, Nat.le_of_ble_eq_true rfl⟩, rfl, hts (.instanceMethod yX7_init) (by decide +kernel)⟩ hK hP hD hS hA hCn hPo hl.1 dX4_init_27 dX4_init_30 dX4_init_31 ⟨Nat.le_of_ble_eq_true rfl, Nat.le_of_ble_eq_true rfl⟩ (Nat.le_of_ble_eq_true rfl) (fun q27_2 u27_2 H locs hp9 hP hD hS => ?_)
  have hP : va_P D vwCl ((h, .inr (6, [.ref q5_0, .ref q16_1, .null])) :: (((bState tA q5_0 (u5_0.getD 0 0) (u5_0.getD 1 0) (u5_0.getD 2 0) (u5_0.getD 3 0) (u5_0.getD 4 0) (u5_0.getD 5 0) (u5_0.getD 6 0) (u5_0.getD 7 0) (u5_0.getD 8 0) (u5_0.getD 9 0) (u5_0.getD 10 0) (u5_0.getD 11 0) 0 0 z0F z0F z0F z0F z0F 0 z0F z0F z0F z0F z0F 0 0 0 0 0 0) ++ bRoutes tA q16_1 (u16_1.getD 0 0) (u16_1.getD 1 0) (u16_1.getD 2 0) z0F z0F z0F) ++ bShares tA q27_2 (u27_2.getD 0 0) (u27_2.getD 1 0) (u27_2.getD 2 0) (u27_2.getD 3 0) z0F z0F z0F z0F 0)) H := hP
  have hD : va_D A ((h, .inr (6, [.ref q5_0, .ref q16_1, .null])) :: (((bState tA q5_0 (u5_0.getD 0 0) (u5_0.getD 1 0) (u5_0.getD 2 0) (u5_0.getD 3 0) (u5_0.getD 4 0) (u5_0.getD 5 0) (u5_0.getD 6 0) (u5_0.getD 7 0) (u5_0.getD 8 0) (u5_0.getD 9 0) (u5_0.getD 10 0) (u5_0.getD 11 0) 0 0 z0F z0F z0F z0F z0F 0 z0F z0F z0F z0F z0F 0 0 0 0 0 0) ++ bRoutes tA q16_1 (u16_1.getD 0 0) (u16_1.getD 1 0) (u16_1.getD 2 0) z0F z0F z0F) ++ bShares tA q27_2 (u27_2.getD 0 0) (u27_2.getD 1 0) (u27_2.getD 2 0) (u27_2.getD 3 0) z0F z0F z0F z0F 0)) := hD
  refine va_putF (D := D) (ci := 6) (v := .ref q27_2) (ty := (.object "HarborLights$Shares")) (C := RX4) (T := TX4) (N := 3) hx hb hts iX4 tyX4 tyX4_ok nmX4 hown hK hP hD hS 0 rfl rfl 2 (by decide) (hts (.fieldLink RX4 28 "HarborLights$Office" "shares" "LHarborLights$Shares;") (by decide +kernel)) (fun _ h9 => h9) rfl hin rfl (by decide +kernel) rfl rfl (Nat.le_of_ble_eq_true rfl) dX4_init_34 (fun H locs hP hD hS => ?_)
  have hP : va_P D vwCl ((h, .inr (6, [.ref q5_0, .ref q16_1, .ref q27_2])) :: (((bState tA q5_0 (u5_0.getD 0 0) (u5_0.getD 1 0) (u5_0.getD 2 0) (u5_0.getD 3 0) (u5_0.getD 4 0) (u5_0.getD 5 0) (u5_0.getD 6 0) (u5_0.getD 7 0) (u5_0.getD 8 0) (u5_0.getD 9 0) (u5_0.getD 10 0) (u5_0.getD 11 0) 0 0 z0F z0F z0F z0F z0F 0 z0F z0F z0F z0F z0F 0 0 0 0 0 0) ++ bRoutes tA q16_1 (u16_1.getD 0 0) (u16_1.getD 1 0) (u16_1.getD 2 0) z0F z0F z0F) ++ bShares tA q27_2 (u27_2.getD 0 0) (u27_2.getD 1 0) (u27_2.getD 2 0) (u27_2.getD 3 0) z0F z0F z0F z0F 0)) H := hP
  have hD : va_D A ((h, .inr (6, [.ref q5_0, .ref q16_1, .ref q27_2])) :: (((bState tA q5_0 (u5_0.getD 0 0) (u5_0.getD 1 0) (u5_0.getD 2 0) (u5_0.getD 3 0) (u5_0.getD 4 0) (u5_0.getD 5 0) (u5_0.getD 6 0) (u5_0.getD 7 0) (u5_0.getD 8 0) (u5_0.getD 9 0) (u5_0.getD 10 0) (u5_0.getD 11 0) 0 0 z0F z0F z0F z0F z0F 0 z0F z0F z0F z0F z0F 0 0 0 0 0 0) ++ bRoutes tA q16_1 (u16_1.getD 0 0) (u16_1.getD 1 0) (u16_1.getD 2 0) z0F z0F z0F) ++ bShares tA q27_2 (u27_2.getD 0 0) (u27_2.getD 1 0) (u27_2.getD 2 0) (u27_2.getD 3 0) z0F z0F z0F z0F 0)) := hD
  refine W.widen (k := 22) (n := 213) (Nat.le_of_ble_eq_true rfl) (Nat.le_of_ble_eq_true rfl) ?_
  exact hret ([q5_0, (u5_0.getD 0 0), (u5_0.getD 1 0), (u5_0.getD 2 0), (u5_0.getD 3 0), (u5_0.getD 4 0), (u5_0.getD 5 0), (u5_0.getD 6 0), (u5_0.getD 7 0), (u5_0.getD 8 0), (u5_0.getD 9 0), (u5_0.getD 10 0), (u5_0.getD 11 0), q16_1, (u16_1.getD 0 0), (u16_1.getD 1 0), (u16_1.getD 2 0), q27_2, (u27_2.getD 0 0), (u27_2.getD 1 0), (u27_2.getD 2 0), (u27_2.getD 3 0)]) _ _ _ _ dX4_init_37 True.intro hP hD hS

set_option maxHeartbeats 4000000 in
set_option maxRecDepth 100000 in
theorem c_X6_init (l : Launch) (K : Nat → Nat) (D : va_G) (tA : Nat → ClassId) (h sz : Nat) : zNv l yX6_init wsX6_init ({ frames := 1, cells := 2, slots := 64, locals := 12 }) K D tA [.ref h] [(h, .inr (8, [.int (iI 0), .null, .null, .null, .int (iI 0)]))] sz (fun (u : List Nat) => True) (fun (u : List Nat) => bScript tA K h (u.getD 0 0) (u.getD 1 0) 0 0 z0F z0F 0) 2 64 := by
  refine zNv_of (cc := cX6_init) (maxL := 1) (by decide) rfl rfl (Nat.le_of_ble_eq_true rfl) ?_
  intro p e s m args below meth c A Q ls hx hb hml hts hown hin hK hP hD hA hCn hPo hret hl
  obtain ⟨H, hHe⟩ : ∃ H : Heap, H = s.heap := ⟨_, rfl⟩
  have hS : va_S A s.heap H [] := by rw [hHe]; exact va_S.rf
  rw [← hHe] at hP ⊢
  have hl : lv_has ls 1 [(0, .ref h)] := hl
  have iX6 : ∀ v ∈ wsX60, v ∈ wsX6_init := by decide +kernel
  refine lv_aload_n hx hb dX6_init_0 rfl (lv_at hl 0 rfl) ?_
  refine W.objInit hx hb hown (hts (.methodLink RX6 3 objectInit) (by decide +kernel)) (hts (.instanceMethod objectInit) (by decide +kernel)) (hts (.code objectInit ⟨#[0xb1]⟩ 1 none) (List.mem_of_getElem? (i := 3) rfl)) rfl (by rw [hml]; exact hl.1) rfl dX6_init_1 (Nat.le_of_ble_eq_true rfl) (Nat.le_of_ble_eq_true rfl) ?_
  refine W.eq (g2 := F0 m 4 ls []) rfl ?_
  refine lv_aload_n hx hb dX6_init_4 rfl (lv_at hl 0 rfl) ?_
  refine va_gets hx hb hPo.1 hS hown (hts (.fieldLink RX6 9 "HarborLights$Command" "PORT" "LHarborLights$Command;") (by decide +kernel)) (fun _ h9 => h9) dX6_init_5 ?_
  refine va_put (D := D) (ci := 8) (v := .ref (K (Int.toNat 0))) (ty := (.object "HarborLights$Command")) (C := RX6) (T := TX6) (N := 5) hx hb hts iX6 tyX6 tyX6_ok nmX6 hown hK hP hD hS 0 rfl rfl 1 (by decide) (hts (.fieldLink RX6 15 "HarborLights$Script" "command" "LHarborLights$Command;") (by decide +kernel)) (fun _ h9 => h9) rfl (by decide +kernel) rfl rfl (Nat.le_of_ble_eq_true rfl) dX6_init_8 (fun H locs hP hD hS => ?_)
  have hP : va_P D vwCl ((h, .inr (8, [.int (iI 0), .ref (K (Int.toNat 0)), .null, .null, .int (iI 0)])) :: []) H := hP
  have hD : va_D A ((h, .inr (8, [.int (iI 0), .ref (K (Int.toNat 0)), .null, .null, .int (iI 0)])) :: []) := hD
  refine lv_aload_n hx hb dX6_init_11 rfl (lv_at hl 0 rfl) ?_
  refine zz_iconst hx hb dX6_init_12 ?_
  refine zn_arr (atype := .int) (ty := .int) 0 hx hb (hts (.arrayClass .int) (by decide +kernel)) rfl rfl hK hP hD hS hA (a0 := (4, .inl (zA z0F))) (N' := 4) (fun _ => rfl) (by decide) (by decide) (by decide) (Nat.le_of_ble_eq_true rfl) (Nat.le_of_ble_eq_true rfl) dX6_init_13 (fun q13 H hP hD hS => ?_)
  have hP : va_P D vwCl ((h, .inr (8, [.int (iI 0), .ref (K (Int.toNat 0)), .null, .null, .int (iI 0)])) :: [(q13, .inl (tA 0, 4, .inl (zA z0F)))]) H := hP
  have hD : va_D A ((h, .inr (8, [.int (iI 0), .ref (K (Int.toNat 0)), .null, .null, .int (iI 0)])) :: [(q13, .inl (tA 0, 4, .inl (zA z0F)))]) := hD
  refine va_putF (D := D) (ci := 8) (v := .ref q13) (ty := (.array .int)) (C := RX6) (T := TX6) (N := 5) hx hb hts iX6 tyX6 tyX6_ok nmX6 hown hK hP hD hS 0 rfl rfl 2 (by decide) (hts (.fieldLink RX6 20 "HarborLights$Script" "values" "[I") (by decide +kernel)) (fun _ h9 => h9) rfl hin rfl (by decide +kernel) rfl rfl (Nat.le_of_ble_eq_true rfl) dX6_init_15 (fun H locs hP hD hS => ?_)
  have hP : va_P D vwCl ((h, .inr (8, [.int (iI 0), .ref (K (Int.toNat 0)), .ref q13, .null, .int (iI 0)])) :: [(q13, .inl (tA 0, 4, .inl (zA z0F)))]) H := hP
  have hD : va_D A ((h, .inr (8, [.int (iI 0), .ref (K (Int.toNat 0)), .ref q13, .null, .int (iI 0)])) :: [(q13, .inl (tA 0, 4, .inl (zA z0F)))]) := hD
  refine lv_aload_n hx hb dX6_init_18 rfl (lv_at hl 0 rfl) ?_
  refine zz_bipush hx hb dX6_init_19 (by decide) ?_
  refine zn_arr (atype := .char) (ty := .char) 2 hx hb (hts (.arrayClass .char) (by decide +kernel)) rfl rfl hK hP hD hS hA (a0 := (60, .inl (zA z0F))) (N' := 60) (fun _ => rfl) (by decide) (by decide) (by decide) (Nat.le_of_ble_eq_true rfl) (Nat.le_of_ble_eq_true rfl) dX6_init_21 (fun q21 H hP hD hS => ?_)
  have hP : va_P D vwCl ((h, .inr (8, [.int (iI 0), .ref (K (Int.toNat 0)), .ref q13, .null, .int (iI 0)])) :: ([(q13, .inl (tA 0, 4, .inl (zA z0F)))] ++ [(q21, .inl (tA 2, 60, .inl (zA z0F)))])) H := hP
  have hD : va_D A ((h, .inr (8, [.int (iI 0), .ref (K (Int.toNat 0)), .ref q13, .null, .int (iI 0)])) :: ([(q13, .inl (tA 0, 4, .inl (zA z0F)))] ++ [(q21, .inl (tA 2, 60, .inl (zA z0F)))])) := hD
  refine va_putF (D := D) (ci := 8) (v := .ref q21) (ty := (.array .char)) (C := RX6) (T := TX6) (N := 5) hx hb hts iX6 tyX6 tyX6_ok nmX6 hown hK hP hD hS 0 rfl rfl 3 (by decide) (hts (.fieldLink RX6 24 "HarborLights$Script" "text" "[C") (by decide +kernel)) (fun _ h9 => h9) rfl hin rfl (by decide +kernel) rfl rfl (Nat.le_of_ble_eq_true rfl) dX6_init_23 (fun H locs hP hD hS => ?_)
  have hP : va_P D vwCl ((h, .inr (8, [.int (iI 0), .ref (K (Int.toNat 0)), .ref q13, .ref q21, .int (iI 0)])) :: ([(q13, .inl (tA 0, 4, .inl (zA z0F)))] ++ [(q21, .inl (tA 2, 60, .inl (zA z0F)))])) H := hP
  have hD : va_D A ((h, .inr (8, [.int (iI 0), .ref (K (Int.toNat 0)), .ref q13, .ref q21, .int (iI 0)])) :: ([(q13, .inl (tA 0, 4, .inl (zA z0F)))] ++ [(q21, .inl (tA 2, 60, .inl (zA z0F)))])) := hD
  refine W.widen (k := 2) (n := 64) (Nat.le_of_ble_eq_true rfl) (Nat.le_of_ble_eq_true rfl) ?_
  exact hret ([q13, q21]) _ _ _ _ dX6_init_26 True.intro hP hD hS

set_option maxHeartbeats 4000000 in
set_option maxRecDepth 100000 in
theorem c_J5_init_d00df (l : Launch) (K : Nat → Nat) (D : va_G) (tA : Nat → ClassId) (h sz : Nat) : zNv l yJ5_init_d00df wsJ5_init_d00df ({ frames := 1, cells := 1, slots := 16, locals := 12 }) K D tA [.ref h, .int (iI 16)] [(h, .inr (1, [.null, .int (iI 0), .int (iI 0), .int (iI 0)]))] sz (fun (u : List Nat) => True) (fun (u : List Nat) => bLine tA h (u.getD 0 0) z0F 0 0) 1 16 := by
  refine zNv_of (cc := cJ5_init_d00df) (maxL := 2) (by decide) rfl rfl (Nat.le_of_ble_eq_true rfl) ?_
  intro p e s m args below meth c A Q ls hx hb hml hts hown hin hK hP hD hA hCn hPo hret hl
  obtain ⟨H, hHe⟩ : ∃ H : Heap, H = s.heap := ⟨_, rfl⟩
  have hS : va_S A s.heap H [] := by rw [hHe]; exact va_S.rf
  rw [← hHe] at hP ⊢
  have hl : lv_has ls 2 [(0, .ref h), (1, .int (iI 16))] := hl
  have iJ4 : ∀ v ∈ wsJ40, v ∈ wsJ5_init_d00df := by decide +kernel
  refine lv_aload_n hx hb dJ5_init_d00df_0 rfl (lv_at hl 0 rfl) ?_
  refine W.objInit hx hb hown (hts (.methodLink RJ5 3 objectInit) (by decide +kernel)) (hts (.instanceMethod objectInit) (by decide +kernel)) (hts (.code objectInit ⟨#[0xb1]⟩ 1 none) (List.mem_of_getElem? (i := 3) rfl)) rfl (by rw [hml]; exact hl.1) rfl dJ5_init_d00df_1 (Nat.le_of_ble_eq_true rfl) (Nat.le_of_ble_eq_true rfl) ?_
  refine W.eq (g2 := F0 m 4 ls []) rfl ?_
  refine va_gets hx hb hCn.1.1.1 hS hown (hts (.fieldLink RJ5 18 "java/lang/String" "COMPACT_STRINGS" "Z") (by decide +kernel)) (fun _ h9 => h9) dJ5_init_d00df_4 ?_
  refine zz_if_eq (tgt := 25) hx hb dJ5_init_d00df_7 (by decide) (by decide) (fun c9 => absurd c9 (by decide)) (fun _ => ?_)
  refine lv_aload_n hx hb dJ5_init_d00df_10 rfl (lv_at hl 0 rfl) ?_
  refine lv_iload_n hx hb dJ5_init_d00df_11 rfl (lv_at hl 1 rfl) ?_
  refine zn_arr (atype := .byte) (ty := .byte) 3 hx hb (hts (.arrayClass .byte) (by decide +kernel)) rfl rfl hK hP hD hS hA (a0 := (16, .inl (zA z0F))) (N' := 16) (fun _ => rfl) (by decide) (by decide) (by decide) (Nat.le_of_ble_eq_true rfl) (Nat.le_of_ble_eq_true rfl) dJ5_init_d00df_12 (fun q12 H hP hD hS => ?_)
  have hP : va_P D vwCl ((h, .inr (1, [.null, .int (iI 0), .int (iI 0), .int (iI 0)])) :: [(q12, .inl (tA 3, 16, .inl (zA z0F)))]) H := hP
  have hD : va_D A ((h, .inr (1, [.null, .int (iI 0), .int (iI 0), .int (iI 0)])) :: [(q12, .inl (tA 3, 16, .inl (zA z0F)))]) := hD
  refine va_put (D := D) (ci := 1) (v := .ref q12) (ty := (.array .byte)) (C := RJ4) (T := TJ4) (N := 4) hx hb hts iJ4 tyJ4 tyJ4_ok nmJ4 hown hK hP hD hS 0 rfl rfl 0 (by decide) (hts (.fieldLink RJ5 15 "java/lang/AbstractStringBuilder" "value" "[B") (by decide +kernel)) (fun _ h9 => h9) rfl (by decide +kernel) rfl rfl (Nat.le_of_ble_eq_true rfl) dJ5_init_d00df_14 (fun H locs hP hD hS => ?_)
  have hP : va_P D vwCl ((h, .inr (1, [.ref q12, .int (iI 0), .int (iI 0), .int (iI 0)])) :: [(q12, .inl (tA 3, 16, .inl (zA z0F)))]) H := hP
  have hD : va_D A ((h, .inr (1, [.ref q12, .int (iI 0), .int (iI 0), .int (iI 0)])) :: [(q12, .inl (tA 3, 16, .inl (zA z0F)))]) := hD
  refine lv_aload_n hx hb dJ5_init_d00df_17 rfl (lv_at hl 0 rfl) ?_
  refine zz_iconst hx hb dJ5_init_d00df_18 ?_
  refine va_put (D := D) (ci := 1) (v := .int (iI 0)) (ty := .byte) (C := RJ4) (T := TJ4) (N := 4) hx hb hts iJ4 tyJ4 tyJ4_ok nmJ4 hown hK hP hD hS 0 rfl rfl 1 (by decide) (hts (.fieldLink RJ5 22 "java/lang/AbstractStringBuilder" "coder" "B") (by decide +kernel)) (fun _ h9 => h9) rfl (by decide +kernel) rfl rfl (Nat.le_of_ble_eq_true rfl) dJ5_init_d00df_19 (fun H locs hP hD hS => ?_)
  have hP : va_P D vwCl ((h, .inr (1, [.ref q12, .int (iI 0), .int (iI 0), .int (iI 0)])) :: [(q12, .inl (tA 3, 16, .inl (zA z0F)))]) H := hP
  have hD : va_D A ((h, .inr (1, [.ref q12, .int (iI 0), .int (iI 0), .int (iI 0)])) :: [(q12, .inl (tA 3, 16, .inl (zA z0F)))]) := hD
  refine lv_goto (tgt := 38) hx hb dJ5_init_d00df_22 (by decide) ?_
  refine W.widen (k := 1) (n := 16) (Nat.le_of_ble_eq_true rfl) (Nat.le_of_ble_eq_true rfl) ?_
  exact hret ([q12]) _ _ _ _ dJ5_init_d00df_38 True.intro hP hD hS

set_option maxHeartbeats 4000000 in
set_option maxRecDepth 100000 in
theorem c_J4_init_da8c8 (l : Launch) (K : Nat → Nat) (D : va_G) (tA : Nat → ClassId) (h sz : Nat) : zNv l yJ4_init_da8c8 wsJ4_init_da8c8 ({ frames := 2, cells := 1, slots := 16, locals := 33 }) K D tA [.ref h] [(h, .inr (1, [.null, .int (iI 0), .int (iI 0), .int (iI 0)]))] sz (fun (u : List Nat) => True) (fun (u : List Nat) => bLine tA h (u.getD 0 0) z0F 0 0) 1 16 := by
  refine zNv_of (cc := cJ4_init_da8c8) (maxL := 1) (by decide) rfl rfl (Nat.le_of_ble_eq_true rfl) ?_
  intro p e s m args below meth c A Q ls hx hb hml hts hown hin hK hP hD hA hCn hPo hret hl
  obtain ⟨H, hHe⟩ : ∃ H : Heap, H = s.heap := ⟨_, rfl⟩
  have hS : va_S A s.heap H [] := by rw [hHe]; exact va_S.rf
  rw [← hHe] at hP ⊢
  have hl : lv_has ls 1 [(0, .ref h)] := hl
  have iJ4 : ∀ v ∈ wsJ40, v ∈ wsJ4_init_da8c8 := by decide +kernel
  refine lv_aload_n hx hb dJ4_init_da8c8_0 rfl (lv_at hl 0 rfl) ?_
  refine zz_bipush hx hb dJ4_init_da8c8_1 (by decide) ?_
  refine zn_sup (As := [.int (iI 16)]) (rest := []) ⟨hx, hb, hml, hown, hts⟩ (c_J5_init_d00df l K D tA h H.size) (cwI 1 hts gJ4_init_da8c8_J5_init_d00df rfl rfl rfl (hts (.initialized RJ5) (by decide +kernel)) (hts (.methodLink RJ4 1 yJ5_init_d00df) (by decide +kernel)) (hts (.instanceMethod yJ5_init_d00df) (by decide +kernel)) rfl (by decide +kernel) ⟨Nat.le_of_ble_eq_true rfl, Nat.le_of_ble_eq_true rfl⟩) hK hP hD hS hA hCn hPo rfl rfl hl.1 dJ4_init_da8c8_3 ⟨Nat.le_of_ble_eq_true rfl, Nat.le_of_ble_eq_true rfl⟩ (Nat.le_of_ble_eq_true rfl) (fun u3 H locs hp9 hP hD hS => ?_)
  refine W.widen (k := 1) (n := 16) (Nat.le_of_ble_eq_true rfl) (Nat.le_of_ble_eq_true rfl) ?_
  exact hret (u3) _ _ _ _ dJ4_init_da8c8_6 True.intro hP hD hS
