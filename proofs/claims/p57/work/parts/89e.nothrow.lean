/-! ===== HarborLights: questions that cannot be refused ===== -/
set_option maxHeartbeats 4000000 in
set_option maxRecDepth 100000 in
theorem c_X10_found_n (l : Launch) (D : va_G) (tA : Nat → ClassId) (sz : Nat) (ans : Int) (r_ans : -2147483648 ≤ ans ∧ ans ≤ 2147483647) (hn : ans ≠ -1) : zMi l yX10_found wsX10_found ({ frames := 0, cells := 0, slots := 0, locals := 0 }) D tA [.int (iI ans)] ([]) sz (fun (z : Int) (u : Unit) => (z = ans)) (fun (u : Unit) => []) 0 0 := by
  refine zMi_of (cc := cX10_found) (maxL := 1) (by decide) rfl (fun z u h => rfl) (Nat.le_of_ble_eq_true rfl) ?_
  intro p e s m args below meth c A Q ls hx hb hml hts hown hK hP hD hA hret hl
  obtain ⟨H, hHe⟩ : ∃ H : Heap, H = s.heap := ⟨_, rfl⟩
  have hS : va_S A s.heap H [] := by rw [hHe]; exact va_S.rf
  rw [← hHe] at hP ⊢
  have hl : lv_has ls 1 [(0, .int (iI ans))] := hl
  refine lv_iload_n hx hb dX10_found_0 rfl (lv_at hl 0 rfl) ?_
  refine zz_iconst hx hb dX10_found_1 ?_
  refine zz_icmp_ne (tgt := 16) hx hb dX10_found_2 (by decide) (by omega) (by decide) (fun c_2 => ?_) (fun c_2 => ?_)
  · refine lv_iload_n hx hb dX10_found_16 rfl (lv_at hl 0 rfl) ?_
    exact hret ans () _ _ _ _ dX10_found_17 (show ans = ans from by rfl) hP hD hS
  · exact absurd c_2 (by omega)

set_option maxHeartbeats 4000000 in
set_option maxRecDepth 100000 in
theorem c_X10_checkPorts_n (l : Launch) (D : va_G) (tA : Nat → ClassId) (a0 a1 a2 a3 a4 a5 a6 a7 a8 a9 a10 a11 a12 a13 a14 a15 a16 a17 a18 a19 a20 a21 a22 a23 a24 a25 a26 a27 a28 : Nat) (sz : Nat) (ports : Int) (legs : Int) (lower : Int → Int) (upper : Int → Int) (leng : Int → Int) (reach : Int → Int) (meter : Int → Int) (cnt : Int) (strt : Int → Int) (goal : Int → Int) (money : Int → Int) (litN : Int → Int) (darkN : Int → Int) (rng : Int) (nights : Int) (fog : Int) (fund : Int) (refd : Int) (brt : Int) (shrt : Int → Int) (grp : Int → Int) (seen : Int → Int) (tp : Int → Int) (shr : Int → Int) (need : Int → Int) (ordr : Int → Int) (size : Int) (hsv : Int) (mal : Int) (fai : Int) (frm : Int) (too : Int) (r_frm : -2147483648 ≤ frm ∧ frm ≤ 2147483647) (r_too : -2147483648 ≤ too ∧ too ≤ 2147483647) (hp : 0 ≤ ports ∧ ports ≤ 10) (hin : inP ports frm too) : zMv l yX10_checkPorts wsX10_checkPorts ({ frames := 1, cells := 0, slots := 0, locals := 22 }) D tA [.ref a0, .int (iI frm), .int (iI too)] (bHLo tA a0 a1 a2 a3 a4 a5 a6 a7 a8 a9 a10 a11 a12 a13 a14 a15 a16 a17 a18 a19 a20 a21 a22 a23 a24 a25 a26 a27 a28 ports legs lower upper leng reach meter cnt strt goal money litN darkN rng nights fog fund refd brt shrt grp seen tp shr need ordr size hsv mal fai) sz (fun (u : Unit) => True) (fun (u : Unit) => bHLo tA a0 a1 a2 a3 a4 a5 a6 a7 a8 a9 a10 a11 a12 a13 a14 a15 a16 a17 a18 a19 a20 a21 a22 a23 a24 a25 a26 a27 a28 ports legs lower upper leng reach meter cnt strt goal money litN darkN rng nights fog fund refd brt shrt grp seen tp shr need ordr size hsv mal fai) 0 0 := by
  refine zMv_of (cc := cX10_checkPorts) (maxL := 3) (by decide) rfl (Nat.le_of_ble_eq_true rfl) ?_
  intro p e s m args below meth c A Q ls hx hb hml hts hown hK hP hD hA hret hl
  obtain ⟨H, hHe⟩ : ∃ H : Heap, H = s.heap := ⟨_, rfl⟩
  have hS : va_S A s.heap H [] := by rw [hHe]; exact va_S.rf
  rw [← hHe] at hP ⊢
  have hl : lv_has ls 3 [(0, .ref a0), (1, .int (iI frm)), (2, .int (iI too))] := hl
  have iX10 : ∀ v ∈ wsX100, v ∈ wsX10_checkPorts := by decide +kernel
  have iX4 : ∀ v ∈ wsX40, v ∈ wsX10_checkPorts := by decide +kernel
  have iX9 : ∀ v ∈ wsX90, v ∈ wsX10_checkPorts := by decide +kernel
  have f_10 := hts (.fieldLink RX10 10 "HarborLights" "office" "LHarborLights$Office;") (by decide +kernel)
  have f_62 := hts (.fieldLink RX10 62 "HarborLights$Office" "now" "LHarborLights$State;") (by decide +kernel)
  have f_86 := hts (.fieldLink RX10 86 "HarborLights$State" "chart" "LHarborLights$Chart;") (by decide +kernel)
  refine lv_aload_n hx hb dX10_checkPorts_0 rfl (lv_at hl 0 rfl) ?_
  refine va_get (D := D) (ci := 12) (v := .ref a1) (C := RX10) (T := TX10) (N := 9) hx hb hts iX10 hown hK hP 0 rfl rfl 0 (by decide) f_10 (fun _ h9 => h9) rfl dX10_checkPorts_1 ?_
  refine va_get (D := D) (ci := 6) (v := .ref a2) (C := RX4) (T := TX4) (N := 3) hx hb hts iX4 hown hK hP 1 rfl rfl 0 (by decide) f_62 (fun _ h9 => h9) rfl dX10_checkPorts_4 ?_
  refine va_get (D := D) (ci := 11) (v := .ref a3) (C := RX9) (T := TX9) (N := 8) hx hb hts iX9 hown hK hP 2 rfl rfl 0 (by decide) f_86 (fun _ h9 => h9) rfl dX10_checkPorts_7 ?_
  refine lv_iload_n hx hb dX10_checkPorts_10 rfl (lv_at hl 1 rfl) ?_
  refine lv_iload_n hx hb dX10_checkPorts_11 rfl (lv_at hl 2 rfl) ?_
  refine zz_callVi (As := [.int (iI frm), .int (iI too)]) (rest := []) (wf := fun u => bHLo tA a0 a1 a2 a3 a4 a5 a6 a7 a8 a9 a10 a11 a12 a13 a14 a15 a16 a17 a18 a19 a20 a21 a22 a23 a24 a25 a26 a27 a28 ports legs lower upper leng reach meter cnt strt goal money litN darkN rng nights fog fund refd brt shrt grp seen tp shr need ordr size hsv mal fai) ⟨hx, hb, hml, hown, hts⟩ (c_X1_hasPorts l D tA a3 a4 a5 a6 a7 a8 H.size ports legs lower upper leng reach meter frm too (by first | assumption | omega) (by first | assumption | omega) (by first | assumption | omega)) (cwV 2 hts gX10_checkPorts_X1_hasPorts rfl rfl rfl (by decide +kernel) ⟨Nat.le_of_ble_eq_true rfl, Nat.le_of_ble_eq_true rfl⟩) hK hP hD hS hA [3, 4, 5, 6, 7, 8] [0, 1, 2, 9, 10, 11, 12, 13, 14, 15, 16, 17, 18, 19, 20, 21, 22, 23] [0, 1, 2, 18, 19, 20, 21, 22, 23, 3, 4, 5, 6, 7, 8, 9, 10, 11, 12, 13, 14, 15, 16, 17] rfl rfl (by decide) (by decide) (by decide) (by decide) (fun _ => rfl) (ci := 4) (q0 := 0) rfl rfl rfl rfl rfl hl.1 (Nat.le_of_ble_eq_true rfl) dX10_checkPorts_12 ⟨Nat.le_of_ble_eq_true rfl, Nat.le_of_ble_eq_true rfl⟩ ?_
  intro z12_1 u H locs p12_2 hP hD hS
  have hP : va_P D vwCl (bHLo tA a0 a1 a2 a3 a4 a5 a6 a7 a8 a9 a10 a11 a12 a13 a14 a15 a16 a17 a18 a19 a20 a21 a22 a23 a24 a25 a26 a27 a28 ports legs lower upper leng reach meter cnt strt goal money litN darkN rng nights fog fund refd brt shrt grp seen tp shr need ordr size hsv mal fai) H := hP
  have hD : va_D A (bHLo tA a0 a1 a2 a3 a4 a5 a6 a7 a8 a9 a10 a11 a12 a13 a14 a15 a16 a17 a18 a19 a20 a21 a22 a23 a24 a25 a26 a27 a28 ports legs lower upper leng reach meter cnt strt goal money litN darkN rng nights fog fund refd brt shrt grp seen tp shr need ordr size hsv mal fai) := hD
  have q_12 : (z12_1 = 1 ∧ 0 ≤ frm ∧ frm < ports ∧ 0 ≤ too ∧ too < ports) ∨ (z12_1 = 0 ∧ ¬ (0 ≤ frm ∧ frm < ports ∧ 0 ≤ too ∧ too < ports)) := p12_2
  refine zz_if_ne (tgt := 29) hx hb dX10_checkPorts_15 (by decide) (by omega) (fun c_15 => ?_) (fun c_15 => ?_)
  · exact hret () _ _ _ _ dX10_checkPorts_29 True.intro hP hD hS
  · exact absurd c_15 (by obtain ⟨hi0, hi1, hi2, hi3⟩ := id hin; omega)

set_option maxHeartbeats 4000000 in
set_option maxRecDepth 100000 in
theorem c_X10_positionOfLeg_n (l : Launch) (D : va_G) (tA : Nat → ClassId) (a0 a1 a2 a3 a4 a5 a6 a7 a8 a9 a10 a11 a12 a13 a14 a15 a16 a17 a18 a19 a20 a21 a22 a23 a24 a25 a26 a27 a28 : Nat) (sz : Nat) (ports : Int) (legs : Int) (lower : Int → Int) (upper : Int → Int) (leng : Int → Int) (reach : Int → Int) (meter : Int → Int) (cnt : Int) (strt : Int → Int) (goal : Int → Int) (money : Int → Int) (litN : Int → Int) (darkN : Int → Int) (rng : Int) (nights : Int) (fog : Int) (fund : Int) (refd : Int) (brt : Int) (shrt : Int → Int) (grp : Int → Int) (seen : Int → Int) (tp : Int → Int) (shr : Int → Int) (need : Int → Int) (ordr : Int → Int) (size : Int) (hsv : Int) (mal : Int) (fai : Int) (frm : Int) (too : Int) (r_frm : -2147483648 ≤ frm ∧ frm ≤ 2147483647) (r_too : -2147483648 ≤ too ∧ too ≤ 2147483647) (hch : ChV ports legs lower upper leng reach) (hin : inP ports frm too) (hle : hasL legs lower upper frm too) : zMi l yX10_positionOfLeg wsX10_positionOfLeg ({ frames := 2, cells := 0, slots := 0, locals := 44 }) D tA [.ref a0, .int (iI frm), .int (iI too)] (bHLo tA a0 a1 a2 a3 a4 a5 a6 a7 a8 a9 a10 a11 a12 a13 a14 a15 a16 a17 a18 a19 a20 a21 a22 a23 a24 a25 a26 a27 a28 ports legs lower upper leng reach meter cnt strt goal money litN darkN rng nights fog fund refd brt shrt grp seen tp shr need ordr size hsv mal fai) sz (fun (z : Int) (u : Unit) => (0 ≤ z ∧ z < legs ∧ lower z = min frm too ∧ upper z = max frm too)) (fun (u : Unit) => bHLo tA a0 a1 a2 a3 a4 a5 a6 a7 a8 a9 a10 a11 a12 a13 a14 a15 a16 a17 a18 a19 a20 a21 a22 a23 a24 a25 a26 a27 a28 ports legs lower upper leng reach meter cnt strt goal money litN darkN rng nights fog fund refd brt shrt grp seen tp shr need ordr size hsv mal fai) 0 0 := by
  refine zMi_of (cc := cX10_positionOfLeg) (maxL := 3) (by decide) rfl (fun z u h => rfl) (Nat.le_of_ble_eq_true rfl) ?_
  intro p e s m args below meth c A Q ls hx hb hml hts hown hK hP hD hA hret hl
  obtain ⟨H, hHe⟩ : ∃ H : Heap, H = s.heap := ⟨_, rfl⟩
  have hS : va_S A s.heap H [] := by rw [hHe]; exact va_S.rf
  rw [← hHe] at hP ⊢
  have hl : lv_has ls 3 [(0, .ref a0), (1, .int (iI frm)), (2, .int (iI too))] := hl
  have iX10 : ∀ v ∈ wsX100, v ∈ wsX10_positionOfLeg := by decide +kernel
  have iX4 : ∀ v ∈ wsX40, v ∈ wsX10_positionOfLeg := by decide +kernel
  have iX9 : ∀ v ∈ wsX90, v ∈ wsX10_positionOfLeg := by decide +kernel
  have f_10 := hts (.fieldLink RX10 10 "HarborLights" "office" "LHarborLights$Office;") (by decide +kernel)
  have f_62 := hts (.fieldLink RX10 62 "HarborLights$Office" "now" "LHarborLights$State;") (by decide +kernel)
  have f_86 := hts (.fieldLink RX10 86 "HarborLights$State" "chart" "LHarborLights$Chart;") (by decide +kernel)
  obtain ⟨vp0, vp1, vl0, vl1, -, -⟩ := id hch
  have Rlow : zRn legs lower := fun j j0 j1 => by have := hch.2.2.2.2.1 j j0 j1; omega
  have Rup : zRn legs upper := fun j j0 j1 => by have := hch.2.2.2.2.1 j j0 j1; omega
  refine lv_aload_n hx hb dX10_positionOfLeg_0 rfl (lv_at hl 0 rfl) ?_
  refine lv_iload_n hx hb dX10_positionOfLeg_1 rfl (lv_at hl 1 rfl) ?_
  refine lv_iload_n hx hb dX10_positionOfLeg_2 rfl (lv_at hl 2 rfl) ?_
  refine zz_callVv (As := [.int (iI frm), .int (iI too)]) (rest := []) (wf := fun u => bHLo tA a0 a1 a2 a3 a4 a5 a6 a7 a8 a9 a10 a11 a12 a13 a14 a15 a16 a17 a18 a19 a20 a21 a22 a23 a24 a25 a26 a27 a28 ports legs lower upper leng reach meter cnt strt goal money litN darkN rng nights fog fund refd brt shrt grp seen tp shr need ordr size hsv mal fai) ⟨hx, hb, hml, hown, hts⟩ (c_X10_checkPorts_n l D tA a0 a1 a2 a3 a4 a5 a6 a7 a8 a9 a10 a11 a12 a13 a14 a15 a16 a17 a18 a19 a20 a21 a22 a23 a24 a25 a26 a27 a28 H.size ports legs lower upper leng reach meter cnt strt goal money litN darkN rng nights fog fund refd brt shrt grp seen tp shr need ordr size hsv mal fai frm too (by first | assumption | omega) (by first | assumption | omega) (by first | assumption | omega) (by first | assumption | omega)) (cwV 2 hts gX10_positionOfLeg_X10_checkPorts rfl rfl rfl (by decide +kernel) ⟨Nat.le_of_ble_eq_true rfl, Nat.le_of_ble_eq_true rfl⟩) hK hP hD hS hA [0, 1, 2, 3, 4, 5, 6, 7, 8, 9, 10, 11, 12, 13, 14, 15, 16, 17, 18, 19, 20, 21, 22, 23] [] [0, 1, 2, 3, 4, 5, 6, 7, 8, 9, 10, 11, 12, 13, 14, 15, 16, 17, 18, 19, 20, 21, 22, 23] rfl rfl (by decide) (by decide) (by decide) (by decide) (fun _ => rfl) (ci := 12) (q0 := 0) rfl rfl rfl rfl rfl hl.1 (Nat.le_of_ble_eq_true rfl) dX10_positionOfLeg_3 ⟨Nat.le_of_ble_eq_true rfl, Nat.le_of_ble_eq_true rfl⟩ ?_
  intro u H locs p3_1 hP hD hS
  have hP : va_P D vwCl (bHLo tA a0 a1 a2 a3 a4 a5 a6 a7 a8 a9 a10 a11 a12 a13 a14 a15 a16 a17 a18 a19 a20 a21 a22 a23 a24 a25 a26 a27 a28 ports legs lower upper leng reach meter cnt strt goal money litN darkN rng nights fog fund refd brt shrt grp seen tp shr need ordr size hsv mal fai) H := hP
  have hD : va_D A (bHLo tA a0 a1 a2 a3 a4 a5 a6 a7 a8 a9 a10 a11 a12 a13 a14 a15 a16 a17 a18 a19 a20 a21 a22 a23 a24 a25 a26 a27 a28 ports legs lower upper leng reach meter cnt strt goal money litN darkN rng nights fog fund refd brt shrt grp seen tp shr need ordr size hsv mal fai) := hD
  refine lv_aload_n hx hb dX10_positionOfLeg_6 rfl (lv_at hl 0 rfl) ?_
  refine va_get (D := D) (ci := 12) (v := .ref a1) (C := RX10) (T := TX10) (N := 9) hx hb hts iX10 hown hK hP 0 rfl rfl 0 (by decide) f_10 (fun _ h9 => h9) rfl dX10_positionOfLeg_7 ?_
  refine va_get (D := D) (ci := 6) (v := .ref a2) (C := RX4) (T := TX4) (N := 3) hx hb hts iX4 hown hK hP 1 rfl rfl 0 (by decide) f_62 (fun _ h9 => h9) rfl dX10_positionOfLeg_10 ?_
  refine va_get (D := D) (ci := 11) (v := .ref a3) (C := RX9) (T := TX9) (N := 8) hx hb hts iX9 hown hK hP 2 rfl rfl 0 (by decide) f_86 (fun _ h9 => h9) rfl dX10_positionOfLeg_13 ?_
  refine lv_iload_n hx hb dX10_positionOfLeg_16 rfl (lv_at hl 1 rfl) ?_
  refine lv_iload_n hx hb dX10_positionOfLeg_17 rfl (lv_at hl 2 rfl) ?_
  refine zz_callVi (As := [.int (iI frm), .int (iI too)]) (rest := []) (wf := fun u => bHLo tA a0 a1 a2 a3 a4 a5 a6 a7 a8 a9 a10 a11 a12 a13 a14 a15 a16 a17 a18 a19 a20 a21 a22 a23 a24 a25 a26 a27 a28 ports legs lower upper leng reach meter cnt strt goal money litN darkN rng nights fog fund refd brt shrt grp seen tp shr need ordr size hsv mal fai) ⟨hx, hb, hml, hown, hts⟩ (c_X1_find l D tA a3 a4 a5 a6 a7 a8 H.size ports legs lower upper leng reach meter frm too (by first | assumption | omega) (by first | assumption | omega) (by first | assumption | omega) (by first | assumption | omega) (by first | assumption | omega)) (cwV 2 hts gX10_positionOfLeg_X1_find rfl rfl rfl (by decide +kernel) ⟨Nat.le_of_ble_eq_true rfl, Nat.le_of_ble_eq_true rfl⟩) hK hP hD hS hA [3, 4, 5, 6, 7, 8] [0, 1, 2, 9, 10, 11, 12, 13, 14, 15, 16, 17, 18, 19, 20, 21, 22, 23] [0, 1, 2, 18, 19, 20, 21, 22, 23, 3, 4, 5, 6, 7, 8, 9, 10, 11, 12, 13, 14, 15, 16, 17] rfl rfl (by decide) (by decide) (by decide) (by decide) (fun _ => rfl) (ci := 4) (q0 := 0) rfl rfl rfl rfl rfl hl.1 (Nat.le_of_ble_eq_true rfl) dX10_positionOfLeg_18 ⟨Nat.le_of_ble_eq_true rfl, Nat.le_of_ble_eq_true rfl⟩ ?_
  intro z18_2 u H locs p18_3 hP hD hS
  have hP : va_P D vwCl (bHLo tA a0 a1 a2 a3 a4 a5 a6 a7 a8 a9 a10 a11 a12 a13 a14 a15 a16 a17 a18 a19 a20 a21 a22 a23 a24 a25 a26 a27 a28 ports legs lower upper leng reach meter cnt strt goal money litN darkN rng nights fog fund refd brt shrt grp seen tp shr need ordr size hsv mal fai) H := hP
  have hD : va_D A (bHLo tA a0 a1 a2 a3 a4 a5 a6 a7 a8 a9 a10 a11 a12 a13 a14 a15 a16 a17 a18 a19 a20 a21 a22 a23 a24 a25 a26 a27 a28 ports legs lower upper leng reach meter cnt strt goal money litN darkN rng nights fog fund refd brt shrt grp seen tp shr need ordr size hsv mal fai) := hD
  have q_18 : (z18_2 = -1 ∧ (∀ j, 0 ≤ j → j < legs → ¬ (lower j = min frm too ∧ upper j = max frm too))) ∨ (0 ≤ z18_2 ∧ z18_2 < legs ∧ lower z18_2 = min frm too ∧ upper z18_2 = max frm too) := p18_3
  refine zz_callSi (As := [.int (iI z18_2)]) (rest := []) (wf := fun u => bHLo tA a0 a1 a2 a3 a4 a5 a6 a7 a8 a9 a10 a11 a12 a13 a14 a15 a16 a17 a18 a19 a20 a21 a22 a23 a24 a25 a26 a27 a28 ports legs lower upper leng reach meter cnt strt goal money litN darkN rng nights fog fund refd brt shrt grp seen tp shr need ordr size hsv mal fai) ⟨hx, hb, hml, hown, hts⟩ (c_X10_found_n l D tA  H.size z18_2 (by first | assumption | omega) (q_18.elim (fun h => h.1 ▸ fun z => absurd (hle) (hasL_no h.2)) (fun h => by omega))) (va_cwS 1 hts gX10_positionOfLeg_X10_found rfl rfl rfl (by decide +kernel) ⟨Nat.le_of_ble_eq_true rfl, Nat.le_of_ble_eq_true rfl⟩) hK hP hD hS hA [] [0, 1, 2, 3, 4, 5, 6, 7, 8, 9, 10, 11, 12, 13, 14, 15, 16, 17, 18, 19, 20, 21, 22, 23] [0, 1, 2, 3, 4, 5, 6, 7, 8, 9, 10, 11, 12, 13, 14, 15, 16, 17, 18, 19, 20, 21, 22, 23] rfl rfl (by decide) (by decide) (by decide) (by decide) (fun _ => rfl) rfl rfl hl.1 (Nat.le_of_ble_eq_true rfl) dX10_positionOfLeg_21 ⟨Nat.le_of_ble_eq_true rfl, Nat.le_of_ble_eq_true rfl⟩ ?_
  intro z21_4 u H locs p21_5 hP hD hS
  have hP : va_P D vwCl (bHLo tA a0 a1 a2 a3 a4 a5 a6 a7 a8 a9 a10 a11 a12 a13 a14 a15 a16 a17 a18 a19 a20 a21 a22 a23 a24 a25 a26 a27 a28 ports legs lower upper leng reach meter cnt strt goal money litN darkN rng nights fog fund refd brt shrt grp seen tp shr need ordr size hsv mal fai) H := hP
  have hD : va_D A (bHLo tA a0 a1 a2 a3 a4 a5 a6 a7 a8 a9 a10 a11 a12 a13 a14 a15 a16 a17 a18 a19 a20 a21 a22 a23 a24 a25 a26 a27 a28 ports legs lower upper leng reach meter cnt strt goal money litN darkN rng nights fog fund refd brt shrt grp seen tp shr need ordr size hsv mal fai) := hD
  have q_21 : z21_4 = z18_2 := p21_5
  exact hret z21_4 () _ _ _ _ dX10_positionOfLeg_24 (show 0 ≤ z21_4 ∧ z21_4 < legs ∧ lower z21_4 = min frm too ∧ upper z21_4 = max frm too from by rw [q_21]; exact q_18.elim (fun h => absurd hle (hasL_no h.2)) (fun h => h)) hP hD hS

set_option maxHeartbeats 4000000 in
set_option maxRecDepth 100000 in
theorem c_X10_hasLeg_n (l : Launch) (D : va_G) (tA : Nat → ClassId) (a0 a1 a2 a3 a4 a5 a6 a7 a8 a9 a10 a11 a12 a13 a14 a15 a16 a17 a18 a19 a20 a21 a22 a23 a24 a25 a26 a27 a28 : Nat) (sz : Nat) (ports : Int) (legs : Int) (lower : Int → Int) (upper : Int → Int) (leng : Int → Int) (reach : Int → Int) (meter : Int → Int) (cnt : Int) (strt : Int → Int) (goal : Int → Int) (money : Int → Int) (litN : Int → Int) (darkN : Int → Int) (rng : Int) (nights : Int) (fog : Int) (fund : Int) (refd : Int) (brt : Int) (shrt : Int → Int) (grp : Int → Int) (seen : Int → Int) (tp : Int → Int) (shr : Int → Int) (need : Int → Int) (ordr : Int → Int) (size : Int) (hsv : Int) (mal : Int) (fai : Int) (frm : Int) (too : Int) (r_frm : -2147483648 ≤ frm ∧ frm ≤ 2147483647) (r_too : -2147483648 ≤ too ∧ too ≤ 2147483647) (hch : ChV ports legs lower upper leng reach) (hin : inP ports frm too) : zMi l yX10_hasLeg wsX10_hasLeg ({ frames := 2, cells := 0, slots := 0, locals := 44 }) D tA [.ref a0, .int (iI frm), .int (iI too)] (bHLo tA a0 a1 a2 a3 a4 a5 a6 a7 a8 a9 a10 a11 a12 a13 a14 a15 a16 a17 a18 a19 a20 a21 a22 a23 a24 a25 a26 a27 a28 ports legs lower upper leng reach meter cnt strt goal money litN darkN rng nights fog fund refd brt shrt grp seen tp shr need ordr size hsv mal fai) sz (fun (z : Int) (u : Unit) => ((z = 1 ∧ hasL legs lower upper frm too) ∨ (z = 0 ∧ ¬ hasL legs lower upper frm too))) (fun (u : Unit) => bHLo tA a0 a1 a2 a3 a4 a5 a6 a7 a8 a9 a10 a11 a12 a13 a14 a15 a16 a17 a18 a19 a20 a21 a22 a23 a24 a25 a26 a27 a28 ports legs lower upper leng reach meter cnt strt goal money litN darkN rng nights fog fund refd brt shrt grp seen tp shr need ordr size hsv mal fai) 0 0 := by
  refine zMi_of (cc := cX10_hasLeg) (maxL := 3) (by decide) rfl (fun z u h => zbool z (by omega)) (Nat.le_of_ble_eq_true rfl) ?_
  intro p e s m args below meth c A Q ls hx hb hml hts hown hK hP hD hA hret hl
  obtain ⟨H, hHe⟩ : ∃ H : Heap, H = s.heap := ⟨_, rfl⟩
  have hS : va_S A s.heap H [] := by rw [hHe]; exact va_S.rf
  rw [← hHe] at hP ⊢
  have hl : lv_has ls 3 [(0, .ref a0), (1, .int (iI frm)), (2, .int (iI too))] := hl
  have iX10 : ∀ v ∈ wsX100, v ∈ wsX10_hasLeg := by decide +kernel
  have iX4 : ∀ v ∈ wsX40, v ∈ wsX10_hasLeg := by decide +kernel
  have iX9 : ∀ v ∈ wsX90, v ∈ wsX10_hasLeg := by decide +kernel
  have f_10 := hts (.fieldLink RX10 10 "HarborLights" "office" "LHarborLights$Office;") (by decide +kernel)
  have f_62 := hts (.fieldLink RX10 62 "HarborLights$Office" "now" "LHarborLights$State;") (by decide +kernel)
  have f_86 := hts (.fieldLink RX10 86 "HarborLights$State" "chart" "LHarborLights$Chart;") (by decide +kernel)
  obtain ⟨vp0, vp1, vl0, vl1, -, -⟩ := id hch
  have Rlow : zRn legs lower := fun j j0 j1 => by have := hch.2.2.2.2.1 j j0 j1; omega
  have Rup : zRn legs upper := fun j j0 j1 => by have := hch.2.2.2.2.1 j j0 j1; omega
  refine lv_aload_n hx hb dX10_hasLeg_0 rfl (lv_at hl 0 rfl) ?_
  refine lv_iload_n hx hb dX10_hasLeg_1 rfl (lv_at hl 1 rfl) ?_
  refine lv_iload_n hx hb dX10_hasLeg_2 rfl (lv_at hl 2 rfl) ?_
  refine zz_callVv (As := [.int (iI frm), .int (iI too)]) (rest := []) (wf := fun u => bHLo tA a0 a1 a2 a3 a4 a5 a6 a7 a8 a9 a10 a11 a12 a13 a14 a15 a16 a17 a18 a19 a20 a21 a22 a23 a24 a25 a26 a27 a28 ports legs lower upper leng reach meter cnt strt goal money litN darkN rng nights fog fund refd brt shrt grp seen tp shr need ordr size hsv mal fai) ⟨hx, hb, hml, hown, hts⟩ (c_X10_checkPorts_n l D tA a0 a1 a2 a3 a4 a5 a6 a7 a8 a9 a10 a11 a12 a13 a14 a15 a16 a17 a18 a19 a20 a21 a22 a23 a24 a25 a26 a27 a28 H.size ports legs lower upper leng reach meter cnt strt goal money litN darkN rng nights fog fund refd brt shrt grp seen tp shr need ordr size hsv mal fai frm too (by first | assumption | omega) (by first | assumption | omega) (by first | assumption | omega) (by first | assumption | omega)) (cwV 2 hts gX10_hasLeg_X10_checkPorts rfl rfl rfl (by decide +kernel) ⟨Nat.le_of_ble_eq_true rfl, Nat.le_of_ble_eq_true rfl⟩) hK hP hD hS hA [0, 1, 2, 3, 4, 5, 6, 7, 8, 9, 10, 11, 12, 13, 14, 15, 16, 17, 18, 19, 20, 21, 22, 23] [] [0, 1, 2, 3, 4, 5, 6, 7, 8, 9, 10, 11, 12, 13, 14, 15, 16, 17, 18, 19, 20, 21, 22, 23] rfl rfl (by decide) (by decide) (by decide) (by decide) (fun _ => rfl) (ci := 12) (q0 := 0) rfl rfl rfl rfl rfl hl.1 (Nat.le_of_ble_eq_true rfl) dX10_hasLeg_3 ⟨Nat.le_of_ble_eq_true rfl, Nat.le_of_ble_eq_true rfl⟩ ?_
  intro u H locs p3_1 hP hD hS
  have hP : va_P D vwCl (bHLo tA a0 a1 a2 a3 a4 a5 a6 a7 a8 a9 a10 a11 a12 a13 a14 a15 a16 a17 a18 a19 a20 a21 a22 a23 a24 a25 a26 a27 a28 ports legs lower upper leng reach meter cnt strt goal money litN darkN rng nights fog fund refd brt shrt grp seen tp shr need ordr size hsv mal fai) H := hP
  have hD : va_D A (bHLo tA a0 a1 a2 a3 a4 a5 a6 a7 a8 a9 a10 a11 a12 a13 a14 a15 a16 a17 a18 a19 a20 a21 a22 a23 a24 a25 a26 a27 a28 ports legs lower upper leng reach meter cnt strt goal money litN darkN rng nights fog fund refd brt shrt grp seen tp shr need ordr size hsv mal fai) := hD
  refine lv_aload_n hx hb dX10_hasLeg_6 rfl (lv_at hl 0 rfl) ?_
  refine va_get (D := D) (ci := 12) (v := .ref a1) (C := RX10) (T := TX10) (N := 9) hx hb hts iX10 hown hK hP 0 rfl rfl 0 (by decide) f_10 (fun _ h9 => h9) rfl dX10_hasLeg_7 ?_
  refine va_get (D := D) (ci := 6) (v := .ref a2) (C := RX4) (T := TX4) (N := 3) hx hb hts iX4 hown hK hP 1 rfl rfl 0 (by decide) f_62 (fun _ h9 => h9) rfl dX10_hasLeg_10 ?_
  refine va_get (D := D) (ci := 11) (v := .ref a3) (C := RX9) (T := TX9) (N := 8) hx hb hts iX9 hown hK hP 2 rfl rfl 0 (by decide) f_86 (fun _ h9 => h9) rfl dX10_hasLeg_13 ?_
  refine lv_iload_n hx hb dX10_hasLeg_16 rfl (lv_at hl 1 rfl) ?_
  refine lv_iload_n hx hb dX10_hasLeg_17 rfl (lv_at hl 2 rfl) ?_
  refine zz_callVi (As := [.int (iI frm), .int (iI too)]) (rest := []) (wf := fun u => bHLo tA a0 a1 a2 a3 a4 a5 a6 a7 a8 a9 a10 a11 a12 a13 a14 a15 a16 a17 a18 a19 a20 a21 a22 a23 a24 a25 a26 a27 a28 ports legs lower upper leng reach meter cnt strt goal money litN darkN rng nights fog fund refd brt shrt grp seen tp shr need ordr size hsv mal fai) ⟨hx, hb, hml, hown, hts⟩ (c_X1_find l D tA a3 a4 a5 a6 a7 a8 H.size ports legs lower upper leng reach meter frm too (by first | assumption | omega) (by first | assumption | omega) (by first | assumption | omega) (by first | assumption | omega) (by first | assumption | omega)) (cwV 2 hts gX10_hasLeg_X1_find rfl rfl rfl (by decide +kernel) ⟨Nat.le_of_ble_eq_true rfl, Nat.le_of_ble_eq_true rfl⟩) hK hP hD hS hA [3, 4, 5, 6, 7, 8] [0, 1, 2, 9, 10, 11, 12, 13, 14, 15, 16, 17, 18, 19, 20, 21, 22, 23] [0, 1, 2, 18, 19, 20, 21, 22, 23, 3, 4, 5, 6, 7, 8, 9, 10, 11, 12, 13, 14, 15, 16, 17] rfl rfl (by decide) (by decide) (by decide) (by decide) (fun _ => rfl) (ci := 4) (q0 := 0) rfl rfl rfl rfl rfl hl.1 (Nat.le_of_ble_eq_true rfl) dX10_hasLeg_18 ⟨Nat.le_of_ble_eq_true rfl, Nat.le_of_ble_eq_true rfl⟩ ?_
  intro z18_2 u H locs p18_3 hP hD hS
  have hP : va_P D vwCl (bHLo tA a0 a1 a2 a3 a4 a5 a6 a7 a8 a9 a10 a11 a12 a13 a14 a15 a16 a17 a18 a19 a20 a21 a22 a23 a24 a25 a26 a27 a28 ports legs lower upper leng reach meter cnt strt goal money litN darkN rng nights fog fund refd brt shrt grp seen tp shr need ordr size hsv mal fai) H := hP
  have hD : va_D A (bHLo tA a0 a1 a2 a3 a4 a5 a6 a7 a8 a9 a10 a11 a12 a13 a14 a15 a16 a17 a18 a19 a20 a21 a22 a23 a24 a25 a26 a27 a28 ports legs lower upper leng reach meter cnt strt goal money litN darkN rng nights fog fund refd brt shrt grp seen tp shr need ordr size hsv mal fai) := hD
  have q_18 : (z18_2 = -1 ∧ (∀ j, 0 ≤ j → j < legs → ¬ (lower j = min frm too ∧ upper j = max frm too))) ∨ (0 ≤ z18_2 ∧ z18_2 < legs ∧ lower z18_2 = min frm too ∧ upper z18_2 = max frm too) := p18_3
  refine zz_iconst hx hb dX10_hasLeg_21 ?_
  refine zz_icmp_eq (tgt := 29) hx hb dX10_hasLeg_22 (by decide) (by omega) (by decide) (fun c_22 => ?_) (fun c_22 => ?_)
  · refine zz_iconst hx hb dX10_hasLeg_29 ?_
    exact hret 0 () _ _ _ _ dX10_hasLeg_30 (show ((0 : Int) = 1 ∧ hasL legs lower upper frm too) ∨ ((0 : Int) = 0 ∧ ¬ hasL legs lower upper frm too) from by first | exact Or.inr ⟨rfl, hasL_no (q_18.elim (fun h => h.2) (fun h => absurd h.1 (by omega)))⟩ | exact Or.inl ⟨rfl, q_18.elim (fun h => absurd h.1 (by omega)) (fun h => ⟨_, h.1, h.2.1, h.2.2.1, h.2.2.2⟩)⟩) hP hD hS
  · refine zz_iconst hx hb dX10_hasLeg_25 ?_
    refine lv_goto (tgt := 30) hx hb dX10_hasLeg_26 (by decide) ?_
    exact hret 1 () _ _ _ _ dX10_hasLeg_30 (show ((1 : Int) = 1 ∧ hasL legs lower upper frm too) ∨ ((1 : Int) = 0 ∧ ¬ hasL legs lower upper frm too) from by first | exact Or.inr ⟨rfl, hasL_no (q_18.elim (fun h => h.2) (fun h => absurd h.1 (by omega)))⟩ | exact Or.inl ⟨rfl, q_18.elim (fun h => absurd h.1 (by omega)) (fun h => ⟨_, h.1, h.2.1, h.2.2.1, h.2.2.2⟩)⟩) hP hD hS

set_option maxHeartbeats 4000000 in
set_option maxRecDepth 100000 in
theorem c_X10_lengthOf_n (l : Launch) (D : va_G) (tA : Nat → ClassId) (a0 a1 a2 a3 a4 a5 a6 a7 a8 a9 a10 a11 a12 a13 a14 a15 a16 a17 a18 a19 a20 a21 a22 a23 a24 a25 a26 a27 a28 : Nat) (sz : Nat) (ports : Int) (legs : Int) (lower : Int → Int) (upper : Int → Int) (leng : Int → Int) (reach : Int → Int) (meter : Int → Int) (cnt : Int) (strt : Int → Int) (goal : Int → Int) (money : Int → Int) (litN : Int → Int) (darkN : Int → Int) (rng : Int) (nights : Int) (fog : Int) (fund : Int) (refd : Int) (brt : Int) (shrt : Int → Int) (grp : Int → Int) (seen : Int → Int) (tp : Int → Int) (shr : Int → Int) (need : Int → Int) (ordr : Int → Int) (size : Int) (hsv : Int) (mal : Int) (fai : Int) (frm : Int) (too : Int) (r_frm : -2147483648 ≤ frm ∧ frm ≤ 2147483647) (r_too : -2147483648 ≤ too ∧ too ≤ 2147483647) (hch : ChV ports legs lower upper leng reach) (hin : inP ports frm too) (hle : hasL legs lower upper frm too) : zMi l yX10_lengthOf wsX10_lengthOf ({ frames := 3, cells := 0, slots := 0, locals := 66 }) D tA [.ref a0, .int (iI frm), .int (iI too)] (bHLo tA a0 a1 a2 a3 a4 a5 a6 a7 a8 a9 a10 a11 a12 a13 a14 a15 a16 a17 a18 a19 a20 a21 a22 a23 a24 a25 a26 a27 a28 ports legs lower upper leng reach meter cnt strt goal money litN darkN rng nights fog fund refd brt shrt grp seen tp shr need ordr size hsv mal fai) sz (fun (z : Int) (u : Unit) => (∃ p, 0 ≤ p ∧ p < legs ∧ lower p = min frm too ∧ upper p = max frm too ∧ z = leng p)) (fun (u : Unit) => bHLo tA a0 a1 a2 a3 a4 a5 a6 a7 a8 a9 a10 a11 a12 a13 a14 a15 a16 a17 a18 a19 a20 a21 a22 a23 a24 a25 a26 a27 a28 ports legs lower upper leng reach meter cnt strt goal money litN darkN rng nights fog fund refd brt shrt grp seen tp shr need ordr size hsv mal fai) 0 0 := by
  refine zMi_of (cc := cX10_lengthOf) (maxL := 3) (by decide) rfl (fun z u h => rfl) (Nat.le_of_ble_eq_true rfl) ?_
  intro p e s m args below meth c A Q ls hx hb hml hts hown hK hP hD hA hret hl
  obtain ⟨H, hHe⟩ : ∃ H : Heap, H = s.heap := ⟨_, rfl⟩
  have hS : va_S A s.heap H [] := by rw [hHe]; exact va_S.rf
  rw [← hHe] at hP ⊢
  have hl : lv_has ls 3 [(0, .ref a0), (1, .int (iI frm)), (2, .int (iI too))] := hl
  have iX1 : ∀ v ∈ wsX10, v ∈ wsX10_lengthOf := by decide +kernel
  have iX10 : ∀ v ∈ wsX100, v ∈ wsX10_lengthOf := by decide +kernel
  have iX4 : ∀ v ∈ wsX40, v ∈ wsX10_lengthOf := by decide +kernel
  have iX9 : ∀ v ∈ wsX90, v ∈ wsX10_lengthOf := by decide +kernel
  have f_10 := hts (.fieldLink RX10 10 "HarborLights" "office" "LHarborLights$Office;") (by decide +kernel)
  have f_62 := hts (.fieldLink RX10 62 "HarborLights$Office" "now" "LHarborLights$State;") (by decide +kernel)
  have f_86 := hts (.fieldLink RX10 86 "HarborLights$State" "chart" "LHarborLights$Chart;") (by decide +kernel)
  have f_105 := hts (.fieldLink RX10 105 "HarborLights$Chart" "length" "[I") (by decide +kernel)
  obtain ⟨vp0, vp1, vl0, vl1, -, -⟩ := id hch
  refine lv_aload_n hx hb dX10_lengthOf_0 rfl (lv_at hl 0 rfl) ?_
  refine va_get (D := D) (ci := 12) (v := .ref a1) (C := RX10) (T := TX10) (N := 9) hx hb hts iX10 hown hK hP 0 rfl rfl 0 (by decide) f_10 (fun _ h9 => h9) rfl dX10_lengthOf_1 ?_
  refine va_get (D := D) (ci := 6) (v := .ref a2) (C := RX4) (T := TX4) (N := 3) hx hb hts iX4 hown hK hP 1 rfl rfl 0 (by decide) f_62 (fun _ h9 => h9) rfl dX10_lengthOf_4 ?_
  refine va_get (D := D) (ci := 11) (v := .ref a3) (C := RX9) (T := TX9) (N := 8) hx hb hts iX9 hown hK hP 2 rfl rfl 0 (by decide) f_86 (fun _ h9 => h9) rfl dX10_lengthOf_7 ?_
  refine va_get (D := D) (ci := 4) (v := .ref a6) (C := RX1) (T := TX1) (N := 7) hx hb hts iX1 hown hK hP 3 rfl rfl 4 (by decide) f_105 (fun _ h9 => h9) rfl dX10_lengthOf_10 ?_
  refine lv_aload_n hx hb dX10_lengthOf_13 rfl (lv_at hl 0 rfl) ?_
  refine lv_iload_n hx hb dX10_lengthOf_14 rfl (lv_at hl 1 rfl) ?_
  refine lv_iload_n hx hb dX10_lengthOf_15 rfl (lv_at hl 2 rfl) ?_
  refine zz_callVi (As := [.int (iI frm), .int (iI too)]) (rest := [.ref a6]) (wf := fun u => bHLo tA a0 a1 a2 a3 a4 a5 a6 a7 a8 a9 a10 a11 a12 a13 a14 a15 a16 a17 a18 a19 a20 a21 a22 a23 a24 a25 a26 a27 a28 ports legs lower upper leng reach meter cnt strt goal money litN darkN rng nights fog fund refd brt shrt grp seen tp shr need ordr size hsv mal fai) ⟨hx, hb, hml, hown, hts⟩ (c_X10_positionOfLeg_n l D tA a0 a1 a2 a3 a4 a5 a6 a7 a8 a9 a10 a11 a12 a13 a14 a15 a16 a17 a18 a19 a20 a21 a22 a23 a24 a25 a26 a27 a28 H.size ports legs lower upper leng reach meter cnt strt goal money litN darkN rng nights fog fund refd brt shrt grp seen tp shr need ordr size hsv mal fai frm too (by first | assumption | omega) (by first | assumption | omega) (by first | assumption | omega) (by first | assumption | omega) (by first | assumption | omega)) (cwV 2 hts gX10_lengthOf_X10_positionOfLeg rfl rfl rfl (by decide +kernel) ⟨Nat.le_of_ble_eq_true rfl, Nat.le_of_ble_eq_true rfl⟩) hK hP hD hS hA [0, 1, 2, 3, 4, 5, 6, 7, 8, 9, 10, 11, 12, 13, 14, 15, 16, 17, 18, 19, 20, 21, 22, 23] [] [0, 1, 2, 3, 4, 5, 6, 7, 8, 9, 10, 11, 12, 13, 14, 15, 16, 17, 18, 19, 20, 21, 22, 23] rfl rfl (by decide) (by decide) (by decide) (by decide) (fun _ => rfl) (ci := 12) (q0 := 0) rfl rfl rfl rfl rfl hl.1 (Nat.le_of_ble_eq_true rfl) dX10_lengthOf_16 ⟨Nat.le_of_ble_eq_true rfl, Nat.le_of_ble_eq_true rfl⟩ ?_
  intro z16_1 u H locs p16_2 hP hD hS
  have hP : va_P D vwCl (bHLo tA a0 a1 a2 a3 a4 a5 a6 a7 a8 a9 a10 a11 a12 a13 a14 a15 a16 a17 a18 a19 a20 a21 a22 a23 a24 a25 a26 a27 a28 ports legs lower upper leng reach meter cnt strt goal money litN darkN rng nights fog fund refd brt shrt grp seen tp shr need ordr size hsv mal fai) H := hP
  have hD : va_D A (bHLo tA a0 a1 a2 a3 a4 a5 a6 a7 a8 a9 a10 a11 a12 a13 a14 a15 a16 a17 a18 a19 a20 a21 a22 a23 a24 a25 a26 a27 a28 ports legs lower upper leng reach meter cnt strt goal money litN darkN rng nights fog fund refd brt shrt grp seen tp shr need ordr size hsv mal fai) := hD
  have q_16 : 0 ≤ z16_1 ∧ z16_1 < legs ∧ lower z16_1 = min frm too ∧ upper z16_1 = max frm too := p16_2
  refine zz_iald hx hb hK hP 6 rfl (by decide) (by omega) dX10_lengthOf_19 ?_
  have r_19 := hch.2.2.2.2.1 z16_1 (by omega) (by omega)
  exact hret (leng z16_1) () _ _ _ _ dX10_lengthOf_20 (show ∃ p, 0 ≤ p ∧ p < legs ∧ lower p = min frm too ∧ upper p = max frm too ∧ (leng z16_1) = leng p from by exact ⟨_, q_16.1, q_16.2.1, q_16.2.2.1, q_16.2.2.2, rfl⟩) hP hD hS

set_option maxHeartbeats 4000000 in
set_option maxRecDepth 100000 in
theorem c_X10_reachOf_n (l : Launch) (D : va_G) (tA : Nat → ClassId) (a0 a1 a2 a3 a4 a5 a6 a7 a8 a9 a10 a11 a12 a13 a14 a15 a16 a17 a18 a19 a20 a21 a22 a23 a24 a25 a26 a27 a28 : Nat) (sz : Nat) (ports : Int) (legs : Int) (lower : Int → Int) (upper : Int → Int) (leng : Int → Int) (reach : Int → Int) (meter : Int → Int) (cnt : Int) (strt : Int → Int) (goal : Int → Int) (money : Int → Int) (litN : Int → Int) (darkN : Int → Int) (rng : Int) (nights : Int) (fog : Int) (fund : Int) (refd : Int) (brt : Int) (shrt : Int → Int) (grp : Int → Int) (seen : Int → Int) (tp : Int → Int) (shr : Int → Int) (need : Int → Int) (ordr : Int → Int) (size : Int) (hsv : Int) (mal : Int) (fai : Int) (frm : Int) (too : Int) (r_frm : -2147483648 ≤ frm ∧ frm ≤ 2147483647) (r_too : -2147483648 ≤ too ∧ too ≤ 2147483647) (hch : ChV ports legs lower upper leng reach) (hin : inP ports frm too) (hle : hasL legs lower upper frm too) : zMi l yX10_reachOf wsX10_reachOf ({ frames := 3, cells := 0, slots := 0, locals := 66 }) D tA [.ref a0, .int (iI frm), .int (iI too)] (bHLo tA a0 a1 a2 a3 a4 a5 a6 a7 a8 a9 a10 a11 a12 a13 a14 a15 a16 a17 a18 a19 a20 a21 a22 a23 a24 a25 a26 a27 a28 ports legs lower upper leng reach meter cnt strt goal money litN darkN rng nights fog fund refd brt shrt grp seen tp shr need ordr size hsv mal fai) sz (fun (z : Int) (u : Unit) => (∃ p, 0 ≤ p ∧ p < legs ∧ lower p = min frm too ∧ upper p = max frm too ∧ z = reach p)) (fun (u : Unit) => bHLo tA a0 a1 a2 a3 a4 a5 a6 a7 a8 a9 a10 a11 a12 a13 a14 a15 a16 a17 a18 a19 a20 a21 a22 a23 a24 a25 a26 a27 a28 ports legs lower upper leng reach meter cnt strt goal money litN darkN rng nights fog fund refd brt shrt grp seen tp shr need ordr size hsv mal fai) 0 0 := by
  refine zMi_of (cc := cX10_reachOf) (maxL := 3) (by decide) rfl (fun z u h => rfl) (Nat.le_of_ble_eq_true rfl) ?_
  intro p e s m args below meth c A Q ls hx hb hml hts hown hK hP hD hA hret hl
  obtain ⟨H, hHe⟩ : ∃ H : Heap, H = s.heap := ⟨_, rfl⟩
  have hS : va_S A s.heap H [] := by rw [hHe]; exact va_S.rf
  rw [← hHe] at hP ⊢
  have hl : lv_has ls 3 [(0, .ref a0), (1, .int (iI frm)), (2, .int (iI too))] := hl
  have iX1 : ∀ v ∈ wsX10, v ∈ wsX10_reachOf := by decide +kernel
  have iX10 : ∀ v ∈ wsX100, v ∈ wsX10_reachOf := by decide +kernel
  have iX4 : ∀ v ∈ wsX40, v ∈ wsX10_reachOf := by decide +kernel
  have iX9 : ∀ v ∈ wsX90, v ∈ wsX10_reachOf := by decide +kernel
  have f_10 := hts (.fieldLink RX10 10 "HarborLights" "office" "LHarborLights$Office;") (by decide +kernel)
  have f_62 := hts (.fieldLink RX10 62 "HarborLights$Office" "now" "LHarborLights$State;") (by decide +kernel)
  have f_86 := hts (.fieldLink RX10 86 "HarborLights$State" "chart" "LHarborLights$Chart;") (by decide +kernel)
  have f_112 := hts (.fieldLink RX10 112 "HarborLights$Chart" "reach" "[I") (by decide +kernel)
  obtain ⟨vp0, vp1, vl0, vl1, -, -⟩ := id hch
  refine lv_aload_n hx hb dX10_reachOf_0 rfl (lv_at hl 0 rfl) ?_
  refine va_get (D := D) (ci := 12) (v := .ref a1) (C := RX10) (T := TX10) (N := 9) hx hb hts iX10 hown hK hP 0 rfl rfl 0 (by decide) f_10 (fun _ h9 => h9) rfl dX10_reachOf_1 ?_
  refine va_get (D := D) (ci := 6) (v := .ref a2) (C := RX4) (T := TX4) (N := 3) hx hb hts iX4 hown hK hP 1 rfl rfl 0 (by decide) f_62 (fun _ h9 => h9) rfl dX10_reachOf_4 ?_
  refine va_get (D := D) (ci := 11) (v := .ref a3) (C := RX9) (T := TX9) (N := 8) hx hb hts iX9 hown hK hP 2 rfl rfl 0 (by decide) f_86 (fun _ h9 => h9) rfl dX10_reachOf_7 ?_
  refine va_get (D := D) (ci := 4) (v := .ref a7) (C := RX1) (T := TX1) (N := 7) hx hb hts iX1 hown hK hP 3 rfl rfl 5 (by decide) f_112 (fun _ h9 => h9) rfl dX10_reachOf_10 ?_
  refine lv_aload_n hx hb dX10_reachOf_13 rfl (lv_at hl 0 rfl) ?_
  refine lv_iload_n hx hb dX10_reachOf_14 rfl (lv_at hl 1 rfl) ?_
  refine lv_iload_n hx hb dX10_reachOf_15 rfl (lv_at hl 2 rfl) ?_
  refine zz_callVi (As := [.int (iI frm), .int (iI too)]) (rest := [.ref a7]) (wf := fun u => bHLo tA a0 a1 a2 a3 a4 a5 a6 a7 a8 a9 a10 a11 a12 a13 a14 a15 a16 a17 a18 a19 a20 a21 a22 a23 a24 a25 a26 a27 a28 ports legs lower upper leng reach meter cnt strt goal money litN darkN rng nights fog fund refd brt shrt grp seen tp shr need ordr size hsv mal fai) ⟨hx, hb, hml, hown, hts⟩ (c_X10_positionOfLeg_n l D tA a0 a1 a2 a3 a4 a5 a6 a7 a8 a9 a10 a11 a12 a13 a14 a15 a16 a17 a18 a19 a20 a21 a22 a23 a24 a25 a26 a27 a28 H.size ports legs lower upper leng reach meter cnt strt goal money litN darkN rng nights fog fund refd brt shrt grp seen tp shr need ordr size hsv mal fai frm too (by first | assumption | omega) (by first | assumption | omega) (by first | assumption | omega) (by first | assumption | omega) (by first | assumption | omega)) (cwV 2 hts gX10_reachOf_X10_positionOfLeg rfl rfl rfl (by decide +kernel) ⟨Nat.le_of_ble_eq_true rfl, Nat.le_of_ble_eq_true rfl⟩) hK hP hD hS hA [0, 1, 2, 3, 4, 5, 6, 7, 8, 9, 10, 11, 12, 13, 14, 15, 16, 17, 18, 19, 20, 21, 22, 23] [] [0, 1, 2, 3, 4, 5, 6, 7, 8, 9, 10, 11, 12, 13, 14, 15, 16, 17, 18, 19, 20, 21, 22, 23] rfl rfl (by decide) (by decide) (by decide) (by decide) (fun _ => rfl) (ci := 12) (q0 := 0) rfl rfl rfl rfl rfl hl.1 (Nat.le_of_ble_eq_true rfl) dX10_reachOf_16 ⟨Nat.le_of_ble_eq_true rfl, Nat.le_of_ble_eq_true rfl⟩ ?_
  intro z16_1 u H locs p16_2 hP hD hS
  have hP : va_P D vwCl (bHLo tA a0 a1 a2 a3 a4 a5 a6 a7 a8 a9 a10 a11 a12 a13 a14 a15 a16 a17 a18 a19 a20 a21 a22 a23 a24 a25 a26 a27 a28 ports legs lower upper leng reach meter cnt strt goal money litN darkN rng nights fog fund refd brt shrt grp seen tp shr need ordr size hsv mal fai) H := hP
  have hD : va_D A (bHLo tA a0 a1 a2 a3 a4 a5 a6 a7 a8 a9 a10 a11 a12 a13 a14 a15 a16 a17 a18 a19 a20 a21 a22 a23 a24 a25 a26 a27 a28 ports legs lower upper leng reach meter cnt strt goal money litN darkN rng nights fog fund refd brt shrt grp seen tp shr need ordr size hsv mal fai) := hD
  have q_16 : 0 ≤ z16_1 ∧ z16_1 < legs ∧ lower z16_1 = min frm too ∧ upper z16_1 = max frm too := p16_2
  refine zz_iald hx hb hK hP 7 rfl (by decide) (by omega) dX10_reachOf_19 ?_
  have r_19 := hch.2.2.2.2.1 z16_1 (by omega) (by omega)
  exact hret (reach z16_1) () _ _ _ _ dX10_reachOf_20 (show ∃ p, 0 ≤ p ∧ p < legs ∧ lower p = min frm too ∧ upper p = max frm too ∧ (reach z16_1) = reach p from by exact ⟨_, q_16.1, q_16.2.1, q_16.2.2.1, q_16.2.2.2, rfl⟩) hP hD hS
