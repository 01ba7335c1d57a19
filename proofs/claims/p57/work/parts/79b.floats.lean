/-! ===== mean and share ===== -/
set_option maxHeartbeats 4000000 in
set_option maxRecDepth 100000 in
theorem c_X10_meanMoney (l : Launch) (hst : l.stackTraces = false) (K : Nat → Nat) (D : va_G) (tA : Nat → ClassId) (a0 a1 a2 a3 a4 a5 a6 a7 a8 a9 a10 a11 a12 a13 a14 a15 a16 a17 a18 a19 a20 a21 a22 a23 a24 a25 a26 a27 a28 : Nat) (sz : Nat) (ports : Int) (legs : Int) (lower : Int → Int) (upper : Int → Int) (leng : Int → Int) (reach : Int → Int) (meter : Int → Int) (cnt : Int) (strt : Int → Int) (goal : Int → Int) (money : Int → Int) (litN : Int → Int) (darkN : Int → Int) (rng : Int) (nights : Int) (fog : Int) (fund : Int) (refd : Int) (brt : Int) (shrt : Int → Int) (grp : Int → Int) (seen : Int → Int) (tp : Int → Int) (shr : Int → Int) (need : Int → Int) (ordr : Int → Int) (size : Int) (hsv : Int) (mal : Int) (fai : Int) (hc : 0 ≤ cnt ∧ cnt ≤ 6) (hm : ∀ j, 0 ≤ j → j < cnt → (0 ≤ money j ∧ money j ≤ 1000000000)) : zXd l yX10_meanMoney wsX10_meanMoney ({ frames := 6, cells := 1, slots := 6, locals := 90 }) K D tA [.ref a0] (bHLo tA a0 a1 a2 a3 a4 a5 a6 a7 a8 a9 a10 a11 a12 a13 a14 a15 a16 a17 a18 a19 a20 a21 a22 a23 a24 a25 a26 a27 a28 ports legs lower upper leng reach meter cnt strt goal money litN darkN rng nights fog fund refd brt shrt grp seen tp shr need ordr size hsv mal fai) sz (fun (z : UInt64) (u : Unit) => (cnt ≠ 0 ∧ z = dQ (sm money cnt.toNat) cnt)) (fun (u : Unit) => bHLo tA a0 a1 a2 a3 a4 a5 a6 a7 a8 a9 a10 a11 a12 a13 a14 a15 a16 a17 a18 a19 a20 a21 a22 a23 a24 a25 a26 a27 a28 ports legs lower upper leng reach meter cnt strt goal money litN darkN rng nights fog fund refd brt shrt grp seen tp shr need ordr size hsv mal fai) (fun (E : String) (u : Int) => exC E u ∧ (u = 6 ∧ cnt = 0)) (fun (u : Int) => bHLo tA a0 a1 a2 a3 a4 a5 a6 a7 a8 a9 a10 a11 a12 a13 a14 a15 a16 a17 a18 a19 a20 a21 a22 a23 a24 a25 a26 a27 a28 ports legs lower upper leng reach meter cnt strt goal money litN darkN rng nights fog fund refd brt shrt grp seen tp shr need ordr size hsv mal fai) 1 6 := by
  refine zXd_of (cc := cX10_meanMoney) (maxL := 2) hst rfl ⟨by decide, by decide, by decide, by decide⟩ (by decide) rfl (Nat.le_of_ble_eq_true rfl) ?_
  intro p e s m args below meth c A Q ls hx hb hml hts hown hK hP hD hA hZ hret hthr hesc hl
  have hCn := hZ.2.2.2
  obtain ⟨H, hHe⟩ : ∃ H : Heap, H = s.heap := ⟨_, rfl⟩
  have hS : va_S A s.heap H [] := by rw [hHe]; exact va_S.rf
  rw [← hHe] at hP ⊢
  have hl : lv_has ls 2 [(0, .ref a0)] := hl
  have iX10 : ∀ v ∈ wsX100, v ∈ wsX10_meanMoney := by decide +kernel
  have iX4 : ∀ v ∈ wsX40, v ∈ wsX10_meanMoney := by decide +kernel
  have iX8 : ∀ v ∈ wsX80, v ∈ wsX10_meanMoney := by decide +kernel
  have iX9 : ∀ v ∈ wsX90, v ∈ wsX10_meanMoney := by decide +kernel
  have f_10 := hts (.fieldLink RX10 10 "HarborLights" "office" "LHarborLights$Office;") (by decide +kernel)
  have f_62 := hts (.fieldLink RX10 62 "HarborLights$Office" "now" "LHarborLights$State;") (by decide +kernel)
  have f_180 := hts (.fieldLink RX10 180 "HarborLights$State" "ships" "LHarborLights$Ships;") (by decide +kernel)
  have f_184 := hts (.fieldLink RX10 184 "HarborLights$Ships" "count" "I") (by decide +kernel)
  refine lv_aload_n hx hb dX10_meanMoney_0 rfl (lv_at hl 0 rfl) ?_
  refine va_get (D := D) (ci := 12) (v := .ref a1) (C := RX10) (T := TX10) (N := 9) hx hb hts iX10 hown hK hP 0 rfl rfl 0 (by decide) f_10 (fun _ h9 => h9) rfl dX10_meanMoney_1 ?_
  refine va_get (D := D) (ci := 6) (v := .ref a2) (C := RX4) (T := TX4) (N := 3) hx hb hts iX4 hown hK hP 1 rfl rfl 0 (by decide) f_62 (fun _ h9 => h9) rfl dX10_meanMoney_4 ?_
  refine va_get (D := D) (ci := 11) (v := .ref a9) (C := RX9) (T := TX9) (N := 8) hx hb hts iX9 hown hK hP 2 rfl rfl 1 (by decide) f_180 (fun _ h9 => h9) rfl dX10_meanMoney_7 ?_
  refine va_get (D := D) (ci := 10) (v := .int (iI cnt)) (C := RX8) (T := TX8) (N := 6) hx hb hts iX8 hown hK hP 9 rfl rfl 0 (by decide) f_184 (fun _ h9 => h9) rfl dX10_meanMoney_10 ?_
  refine lv_istore_n (lv' := [(1, .int (iI cnt)), (0, .ref a0)]) hx hb dX10_meanMoney_13 rfl hl (by decide) rfl (fun ls hl => ?_)
  refine lv_iload_n hx hb dX10_meanMoney_14 rfl (lv_at hl 0 rfl) ?_
  refine zz_if_ne (tgt := 29) hx hb dX10_meanMoney_15 (by decide) (by omega) (fun c_15 => ?_) (fun c_15 => ?_)
  · refine lv_aload_n hx hb dX10_meanMoney_29 rfl (lv_at hl 1 rfl) ?_
    refine va_get (D := D) (ci := 12) (v := .ref a1) (C := RX10) (T := TX10) (N := 9) hx hb hts iX10 hown hK hP 0 rfl rfl 0 (by decide) f_10 (fun _ h9 => h9) rfl dX10_meanMoney_30 ?_
    refine va_get (D := D) (ci := 6) (v := .ref a2) (C := RX4) (T := TX4) (N := 3) hx hb hts iX4 hown hK hP 1 rfl rfl 0 (by decide) f_62 (fun _ h9 => h9) rfl dX10_meanMoney_33 ?_
    refine va_get (D := D) (ci := 11) (v := .ref a9) (C := RX9) (T := TX9) (N := 8) hx hb hts iX9 hown hK hP 2 rfl rfl 1 (by decide) f_180 (fun _ h9 => h9) rfl dX10_meanMoney_36 ?_
    refine zz_callVl (As := []) (rest := []) (wf := fun u => bHLo tA a0 a1 a2 a3 a4 a5 a6 a7 a8 a9 a10 a11 a12 a13 a14 a15 a16 a17 a18 a19 a20 a21 a22 a23 a24 a25 a26 a27 a28 ports legs lower upper leng reach meter cnt strt goal money litN darkN rng nights fog fund refd brt shrt grp seen tp shr need ordr size hsv mal fai) ⟨hx, hb, hml, hown, hts⟩ (c_X8_totalMoney l D tA a9 a10 a11 a12 a13 a14 H.size cnt strt goal money litN darkN (by first | assumption | omega) (fun j j0 j1 => by have := hm j j0 j1; omega)) (cwV 0 hts gX10_meanMoney_X8_totalMoney rfl rfl rfl (by decide +kernel) ⟨Nat.le_of_ble_eq_true rfl, Nat.le_of_ble_eq_true rfl⟩) hK hP hD hS hA [9, 10, 11, 12, 13, 14] [0, 1, 2, 3, 4, 5, 6, 7, 8, 15, 16, 17, 18, 19, 20, 21, 22, 23] [0, 1, 2, 3, 4, 5, 6, 7, 8, 18, 19, 20, 21, 22, 23, 9, 10, 11, 12, 13, 14, 15, 16, 17] rfl rfl (by decide) (by decide) (by decide) (by decide) (fun _ => rfl) (ci := 10) (q0 := 0) rfl rfl rfl rfl rfl hl.1 (Nat.le_of_ble_eq_true rfl) dX10_meanMoney_39 ⟨Nat.le_of_ble_eq_true rfl, Nat.le_of_ble_eq_true rfl⟩ ?_
    intro z39_1 u H locs p39_2 hP hD hS
    have hP : va_P D vwCl (bHLo tA a0 a1 a2 a3 a4 a5 a6 a7 a8 a9 a10 a11 a12 a13 a14 a15 a16 a17 a18 a19 a20 a21 a22 a23 a24 a25 a26 a27 a28 ports legs lower upper leng reach meter cnt strt goal money litN darkN rng nights fog fund refd brt shrt grp seen tp shr need ordr size hsv mal fai) H := hP
    have hD : va_D A (bHLo tA a0 a1 a2 a3 a4 a5 a6 a7 a8 a9 a10 a11 a12 a13 a14 a15 a16 a17 a18 a19 a20 a21 a22 a23 a24 a25 a26 a27 a28 ports legs lower upper leng reach meter cnt strt goal money litN darkN rng nights fog fund refd brt shrt grp seen tp shr need ordr size hsv mal fai) := hD
    have q_39 : z39_1 = sm money cnt.toNat := p39_2
    have hsl := sm_le (f := money) (b := 1000000000) (n := cnt.toNat) (fun j j0 j1 => hm j j0 (by omega))
    rw [← q_39] at hsl
    refine zz_l2d hx hb dX10_meanMoney_42 (by omega) ?_
    refine lv_iload_n hx hb dX10_meanMoney_43 rfl (lv_at hl 0 rfl) ?_
    refine zz_i2d hx hb dX10_meanMoney_44 (by omega) ?_
    refine zz_ddiv hx hb dX10_meanMoney_45 ⟨by omega, by omega, by omega⟩ ?_
    exact hret (dQ z39_1 cnt) () _ _ _ _ _ _ (Nat.le_of_ble_eq_true rfl) (Nat.le_of_ble_eq_true rfl) dX10_meanMoney_46 (show cnt ≠ 0 ∧ (dQ z39_1 cnt) = dQ (sm money cnt.toNat) cnt from by exact ⟨by omega, by rw [← q_39]⟩) hP hD hS
  · exact hthr "java/lang/ArithmeticException" "no subscribers" 273 275 277 6 _ _ 18 _ _ _ [] (hl.1.trans hml.symm) (by decide) (by decide) (hts _ (by decide +kernel)) (hts _ (by decide +kernel)) (fun w9 hw9 => hts w9 ((by decide +kernel : ∀ w ∈ (vx_atS RX10 277 "java/lang/ArithmeticException" ["java/lang/RuntimeException", "java/lang/Exception"]).filter goodWord, w ∈ wsX10_meanMoney) w9 hw9)) (by decide +kernel) (by decide +kernel) dX10_meanMoney_18 dX10_meanMoney_21 dX10_meanMoney_22 dX10_meanMoney_25 dX10_meanMoney_28 (by decide) (Nat.le_of_ble_eq_true rfl) (Nat.le_of_ble_eq_true rfl) ⟨exC_6, show (6 : Int) = 6 ∧ cnt = 0 from by omega⟩ hP hD hS

set_option maxHeartbeats 4000000 in
set_option maxRecDepth 100000 in
theorem c_X10_litShare (l : Launch) (hst : l.stackTraces = false) (K : Nat → Nat) (D : va_G) (tA : Nat → ClassId) (a0 a1 a2 a3 a4 a5 a6 a7 a8 a9 a10 a11 a12 a13 a14 a15 a16 a17 a18 a19 a20 a21 a22 a23 a24 a25 a26 a27 a28 : Nat) (sz : Nat) (ports : Int) (legs : Int) (lower : Int → Int) (upper : Int → Int) (leng : Int → Int) (reach : Int → Int) (meter : Int → Int) (cnt : Int) (strt : Int → Int) (goal : Int → Int) (money : Int → Int) (litN : Int → Int) (darkN : Int → Int) (rng : Int) (nights : Int) (fog : Int) (fund : Int) (refd : Int) (brt : Int) (shrt : Int → Int) (grp : Int → Int) (seen : Int → Int) (tp : Int → Int) (shr : Int → Int) (need : Int → Int) (ordr : Int → Int) (size : Int) (hsv : Int) (mal : Int) (fai : Int) (hc : 0 ≤ cnt ∧ cnt ≤ 6) (hn9 : ∀ j, 0 ≤ j → j < cnt → (0 ≤ litN j ∧ litN j ≤ 1000000) ∧ (0 ≤ darkN j ∧ darkN j ≤ 1000000)) : zXf l yX10_litShare wsX10_litShare ({ frames := 6, cells := 1, slots := 6, locals := 90 }) K D tA [.ref a0] (bHLo tA a0 a1 a2 a3 a4 a5 a6 a7 a8 a9 a10 a11 a12 a13 a14 a15 a16 a17 a18 a19 a20 a21 a22 a23 a24 a25 a26 a27 a28 ports legs lower upper leng reach meter cnt strt goal money litN darkN rng nights fog fund refd brt shrt grp seen tp shr need ordr size hsv mal fai) sz (fun (z : UInt32) (u : Unit) => (sm litN cnt.toNat + sm darkN cnt.toNat ≠ 0 ∧ z = fQ (sm litN cnt.toNat) (sm litN cnt.toNat + sm darkN cnt.toNat))) (fun (u : Unit) => bHLo tA a0 a1 a2 a3 a4 a5 a6 a7 a8 a9 a10 a11 a12 a13 a14 a15 a16 a17 a18 a19 a20 a21 a22 a23 a24 a25 a26 a27 a28 ports legs lower upper leng reach meter cnt strt goal money litN darkN rng nights fog fund refd brt shrt grp seen tp shr need ordr size hsv mal fai) (fun (E : String) (u : Int) => exC E u ∧ (u = 6 ∧ sm litN cnt.toNat + sm darkN cnt.toNat = 0)) (fun (u : Int) => bHLo tA a0 a1 a2 a3 a4 a5 a6 a7 a8 a9 a10 a11 a12 a13 a14 a15 a16 a17 a18 a19 a20 a21 a22 a23 a24 a25 a26 a27 a28 ports legs lower upper leng reach meter cnt strt goal money litN darkN rng nights fog fund refd brt shrt grp seen tp shr need ordr size hsv mal fai) 1 6 := by
  refine zXf_of (cc := cX10_litShare) (maxL := 3) hst rfl ⟨by decide, by decide, by decide, by decide⟩ (by decide) rfl (Nat.le_of_ble_eq_true rfl) ?_
  intro p e s m args below meth c A Q ls hx hb hml hts hown hK hP hD hA hZ hret hthr hesc hl
  have hCn := hZ.2.2.2
  obtain ⟨H, hHe⟩ : ∃ H : Heap, H = s.heap := ⟨_, rfl⟩
  have hS : va_S A s.heap H [] := by rw [hHe]; exact va_S.rf
  rw [← hHe] at hP ⊢
  have hl : lv_has ls 3 [(0, .ref a0)] := hl
  have iX10 : ∀ v ∈ wsX100, v ∈ wsX10_litShare := by decide +kernel
  have iX4 : ∀ v ∈ wsX40, v ∈ wsX10_litShare := by decide +kernel
  have iX9 : ∀ v ∈ wsX90, v ∈ wsX10_litShare := by decide +kernel
  have f_10 := hts (.fieldLink RX10 10 "HarborLights" "office" "LHarborLights$Office;") (by decide +kernel)
  have f_62 := hts (.fieldLink RX10 62 "HarborLights$Office" "now" "LHarborLights$State;") (by decide +kernel)
  have f_180 := hts (.fieldLink RX10 180 "HarborLights$State" "ships" "LHarborLights$Ships;") (by decide +kernel)
  refine lv_aload_n hx hb dX10_litShare_0 rfl (lv_at hl 0 rfl) ?_
  refine va_get (D := D) (ci := 12) (v := .ref a1) (C := RX10) (T := TX10) (N := 9) hx hb hts iX10 hown hK hP 0 rfl rfl 0 (by decide) f_10 (fun _ h9 => h9) rfl dX10_litShare_1 ?_
  refine va_get (D := D) (ci := 6) (v := .ref a2) (C := RX4) (T := TX4) (N := 3) hx hb hts iX4 hown hK hP 1 rfl rfl 0 (by decide) f_62 (fun _ h9 => h9) rfl dX10_litShare_4 ?_
  refine va_get (D := D) (ci := 11) (v := .ref a9) (C := RX9) (T := TX9) (N := 8) hx hb hts iX9 hown hK hP 2 rfl rfl 1 (by decide) f_180 (fun _ h9 => h9) rfl dX10_litShare_7 ?_
  refine zz_callVi (As := []) (rest := []) (wf := fun u => bHLo tA a0 a1 a2 a3 a4 a5 a6 a7 a8 a9 a10 a11 a12 a13 a14 a15 a16 a17 a18 a19 a20 a21 a22 a23 a24 a25 a26 a27 a28 ports legs lower upper leng reach meter cnt strt goal money litN darkN rng nights fog fund refd brt shrt grp seen tp shr need ordr size hsv mal fai) ⟨hx, hb, hml, hown, hts⟩ (c_X8_totalLitNights l D tA a9 a10 a11 a12 a13 a14 H.size cnt strt goal money litN darkN (by first | assumption | omega)) (cwV 0 hts gX10_litShare_X8_totalLitNights rfl rfl rfl (by decide +kernel) ⟨Nat.le_of_ble_eq_true rfl, Nat.le_of_ble_eq_true rfl⟩) hK hP hD hS hA [9, 10, 11, 12, 13, 14] [0, 1, 2, 3, 4, 5, 6, 7, 8, 15, 16, 17, 18, 19, 20, 21, 22, 23] [0, 1, 2, 3, 4, 5, 6, 7, 8, 18, 19, 20, 21, 22, 23, 9, 10, 11, 12, 13, 14, 15, 16, 17] rfl rfl (by decide) (by decide) (by decide) (by decide) (fun _ => rfl) (ci := 10) (q0 := 0) rfl rfl rfl rfl rfl hl.1 (Nat.le_of_ble_eq_true rfl) dX10_litShare_10 ⟨Nat.le_of_ble_eq_true rfl, Nat.le_of_ble_eq_true rfl⟩ ?_
  intro z10_1 u H locs p10_2 hP hD hS
  have hP : va_P D vwCl (bHLo tA a0 a1 a2 a3 a4 a5 a6 a7 a8 a9 a10 a11 a12 a13 a14 a15 a16 a17 a18 a19 a20 a21 a22 a23 a24 a25 a26 a27 a28 ports legs lower upper leng reach meter cnt strt goal money litN darkN rng nights fog fund refd brt shrt grp seen tp shr need ordr size hsv mal fai) H := hP
  have hD : va_D A (bHLo tA a0 a1 a2 a3 a4 a5 a6 a7 a8 a9 a10 a11 a12 a13 a14 a15 a16 a17 a18 a19 a20 a21 a22 a23 a24 a25 a26 a27 a28 ports legs lower upper leng reach meter cnt strt goal money litN darkN rng nights fog fund refd brt shrt grp seen tp shr need ordr size hsv mal fai) := hD
  have q_10 : z10_1 = sm litN cnt.toNat := p10_2
  have hsl := sm_le (f := litN) (b := 1000000) (n := cnt.toNat) (fun j j0 j1 => (hn9 j j0 (by omega)).1)
  rw [← q_10] at hsl
  refine lv_istore_n (lv' := [(1, .int (iI z10_1)), (0, .ref a0)]) hx hb dX10_litShare_13 rfl hl (by decide) rfl (fun ls hl => ?_)
  refine lv_iload_n hx hb dX10_litShare_14 rfl (lv_at hl 0 rfl) ?_
  refine lv_aload_n hx hb dX10_litShare_15 rfl (lv_at hl 1 rfl) ?_
  refine va_get (D := D) (ci := 12) (v := .ref a1) (C := RX10) (T := TX10) (N := 9) hx hb hts iX10 hown hK hP 0 rfl rfl 0 (by decide) f_10 (fun _ h9 => h9) rfl dX10_litShare_16 ?_
  refine va_get (D := D) (ci := 6) (v := .ref a2) (C := RX4) (T := TX4) (N := 3) hx hb hts iX4 hown hK hP 1 rfl rfl 0 (by decide) f_62 (fun _ h9 => h9) rfl dX10_litShare_19 ?_
  refine va_get (D := D) (ci := 11) (v := .ref a9) (C := RX9) (T := TX9) (N := 8) hx hb hts iX9 hown hK hP 2 rfl rfl 1 (by decide) f_180 (fun _ h9 => h9) rfl dX10_litShare_22 ?_
  refine zz_callVi (As := []) (rest := [.int (iI z10_1)]) (wf := fun u => bHLo tA a0 a1 a2 a3 a4 a5 a6 a7 a8 a9 a10 a11 a12 a13 a14 a15 a16 a17 a18 a19 a20 a21 a22 a23 a24 a25 a26 a27 a28 ports legs lower upper leng reach meter cnt strt goal money litN darkN rng nights fog fund refd brt shrt grp seen tp shr need ordr size hsv mal fai) ⟨hx, hb, hml, hown, hts⟩ (c_X8_totalDarkNights l D tA a9 a10 a11 a12 a13 a14 H.size cnt strt goal money litN darkN (by first | assumption | omega)) (cwV 0 hts gX10_litShare_X8_totalDarkNights rfl rfl rfl (by decide +kernel) ⟨Nat.le_of_ble_eq_true rfl, Nat.le_of_ble_eq_true rfl⟩) hK hP hD hS hA [9, 10, 11, 12, 13, 14] [0, 1, 2, 3, 4, 5, 6, 7, 8, 15, 16, 17, 18, 19, 20, 21, 22, 23] [0, 1, 2, 3, 4, 5, 6, 7, 8, 18, 19, 20, 21, 22, 23, 9, 10, 11, 12, 13, 14, 15, 16, 17] rfl rfl (by decide) (by decide) (by decide) (by decide) (fun _ => rfl) (ci := 10) (q0 := 0) rfl rfl rfl rfl rfl hl.1 (Nat.le_of_ble_eq_true rfl) dX10_litShare_25 ⟨Nat.le_of_ble_eq_true rfl, Nat.le_of_ble_eq_true rfl⟩ ?_
  intro z25_3 u H locs p25_4 hP hD hS
  have hP : va_P D vwCl (bHLo tA a0 a1 a2 a3 a4 a5 a6 a7 a8 a9 a10 a11 a12 a13 a14 a15 a16 a17 a18 a19 a20 a21 a22 a23 a24 a25 a26 a27 a28 ports legs lower upper leng reach meter cnt strt goal money litN darkN rng nights fog fund refd brt shrt grp seen tp shr need ordr size hsv mal fai) H := hP
  have hD : va_D A (bHLo tA a0 a1 a2 a3 a4 a5 a6 a7 a8 a9 a10 a11 a12 a13 a14 a15 a16 a17 a18 a19 a20 a21 a22 a23 a24 a25 a26 a27 a28 ports legs lower upper leng reach meter cnt strt goal money litN darkN rng nights fog fund refd brt shrt grp seen tp shr need ordr size hsv mal fai) := hD
  have q_25 : z25_3 = sm darkN cnt.toNat := p25_4
  have hsd := sm_le (f := darkN) (b := 1000000) (n := cnt.toNat) (fun j j0 j1 => (hn9 j j0 (by omega)).2)
  rw [← q_25] at hsd
  refine zz_iadd hx hb dX10_litShare_28 ?_
  refine lv_istore_n (lv' := [(2, .int (iI (z10_1 + z25_3))), (1, .int (iI z10_1)), (0, .ref a0)]) hx hb dX10_litShare_29 rfl hl (by decide) rfl (fun ls hl => ?_)
  refine lv_iload_n hx hb dX10_litShare_30 rfl (lv_at hl 0 rfl) ?_
  refine zz_if_ne (tgt := 45) hx hb dX10_litShare_31 (by decide) (by omega) (fun c_31 => ?_) (fun c_31 => ?_)
  · refine lv_iload_n hx hb dX10_litShare_45 rfl (lv_at hl 1 rfl) ?_
    refine zz_i2f hx hb dX10_litShare_46 (by omega) ?_
    refine lv_iload_n hx hb dX10_litShare_47 rfl (lv_at hl 0 rfl) ?_
    refine zz_i2f hx hb dX10_litShare_48 (by omega) ?_
    refine zz_fdiv hx hb dX10_litShare_49 ⟨by omega, by omega, by omega⟩ ?_
    exact hret (fQ z10_1 (z10_1 + z25_3)) () _ _ _ _ _ _ (Nat.le_of_ble_eq_true rfl) (Nat.le_of_ble_eq_true rfl) dX10_litShare_50 (show sm litN cnt.toNat + sm darkN cnt.toNat ≠ 0 ∧ (fQ z10_1 (z10_1 + z25_3)) = fQ (sm litN cnt.toNat) (sm litN cnt.toNat + sm darkN cnt.toNat) from by rw [← q_10, ← q_25]; exact ⟨by omega, rfl⟩) hP hD hS
  · exact hthr "java/lang/ArithmeticException" "no nights" 273 288 277 6 _ _ 34 _ _ _ [] (hl.1.trans hml.symm) (by decide) (by decide) (hts _ (by decide +kernel)) (hts _ (by decide +kernel)) (fun w9 hw9 => hts w9 ((by decide +kernel : ∀ w ∈ (vx_atS RX10 277 "java/lang/ArithmeticException" ["java/lang/RuntimeException", "java/lang/Exception"]).filter goodWord, w ∈ wsX10_litShare) w9 hw9)) (by decide +kernel) (by decide +kernel) dX10_litShare_34 dX10_litShare_37 dX10_litShare_38 dX10_litShare_41 dX10_litShare_44 (by decide) (Nat.le_of_ble_eq_true rfl) (Nat.le_of_ble_eq_true rfl) ⟨exC_6, show (6 : Int) = 6 ∧ sm litN cnt.toNat + sm darkN cnt.toNat = 0 from by rw [← q_10, ← q_25]; omega⟩ hP hD hS
