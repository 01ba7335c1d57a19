/-! ===== HarborLights.Office ===== -/
set_option maxHeartbeats 4000000 in
set_option maxRecDepth 100000 in
theorem c_X4_portFault (l : Launch) (D : va_G) (tA : Nat → ClassId) (a0 a1 a2 a3 a4 a5 a6 a7 a8 a9 a10 a11 a12 a13 a14 a15 a16 a17 a18 a19 a20 a21 a22 : Nat) (sz : Nat) (ports : Int) (legs : Int) (lower : Int → Int) (upper : Int → Int) (leng : Int → Int) (reach : Int → Int) (meter : Int → Int) (cnt : Int) (strt : Int → Int) (goal : Int → Int) (money : Int → Int) (litN : Int → Int) (darkN : Int → Int) (rng : Int) (nights : Int) (fog : Int) (fund : Int) (refd : Int) (brt : Int) (shrt : Int → Int) (grp : Int → Int) (seen : Int → Int) (tp : Int → Int) (shr : Int → Int) (need : Int → Int) (ordr : Int → Int) (size : Int) (hp : 0 ≤ ports ∧ ports ≤ 10) : zMi l yX4_portFault wsX4_portFault ({ frames := 0, cells := 0, slots := 0, locals := 0 }) D tA [.ref a0] (bOffice tA a0 a1 a2 a3 a4 a5 a6 a7 a8 a9 a10 a11 a12 a13 a14 a15 a16 a17 a18 a19 a20 a21 a22 ports legs lower upper leng reach meter cnt strt goal money litN darkN rng nights fog fund refd brt shrt grp seen tp shr need ordr size) sz (fun (z : Int) (u : Unit) => ((z = 3 ∧ 10 ≤ ports) ∨ (z = 0 ∧ ports < 10))) (fun (u : Unit) => bOffice tA a0 a1 a2 a3 a4 a5 a6 a7 a8 a9 a10 a11 a12 a13 a14 a15 a16 a17 a18 a19 a20 a21 a22 ports legs lower upper leng reach meter cnt strt goal money litN darkN rng nights fog fund refd brt shrt grp seen tp shr need ordr size) 0 0 := by
  refine zMi_of (cc := cX4_portFault) (maxL := 1) (by decide) rfl (fun z u h => rfl) (Nat.le_of_ble_eq_true rfl) ?_
  intro p e s m args below meth c A Q ls hx hb hml hts hown hK hP hD hA hret hl
  obtain ⟨H, hHe⟩ : ∃ H : Heap, H = s.heap := ⟨_, rfl⟩
  have hS : va_S A s.heap H [] := by rw [hHe]; exact va_S.rf
  rw [← hHe] at hP ⊢
  have hl : lv_has ls 1 [(0, .ref a0)] := hl
  have iX1 : ∀ v ∈ wsX10, v ∈ wsX4_portFault := by decide +kernel
  have iX4 : ∀ v ∈ wsX40, v ∈ wsX4_portFault := by decide +kernel
  have iX9 : ∀ v ∈ wsX90, v ∈ wsX4_portFault := by decide +kernel
  have f_12 := hts (.fieldLink RX4 12 "HarborLights$Office" "now" "LHarborLights$State;") (by decide +kernel)
  have f_32 := hts (.fieldLink RX4 32 "HarborLights$State" "chart" "LHarborLights$Chart;") (by decide +kernel)
  have f_36 := hts (.fieldLink RX4 36 "HarborLights$Chart" "ports" "I") (by decide +kernel)
  refine lv_aload_n hx hb dX4_portFault_0 rfl (lv_at hl 0 rfl) ?_
  refine va_get (D := D) (ci := 6) (v := .ref a1) (C := RX4) (T := TX4) (N := 3) hx hb hts iX4 hown hK hP 0 rfl rfl 0 (by decide) f_12 (fun _ h9 => h9) rfl dX4_portFault_1 ?_
  refine va_get (D := D) (ci := 11) (v := .ref a2) (C := RX9) (T := TX9) (N := 8) hx hb hts iX9 hown hK hP 1 rfl rfl 0 (by decide) f_32 (fun _ h9 => h9) rfl dX4_portFault_4 ?_
  refine va_get (D := D) (ci := 4) (v := .int (iI ports)) (C := RX1) (T := TX1) (N := 7) hx hb hts iX1 hown hK hP 2 rfl rfl 0 (by decide) f_36 (fun _ h9 => h9) rfl dX4_portFault_7 ?_
  refine zz_bipush hx hb dX4_portFault_10 (by decide) ?_
  refine zz_icmp_lt (tgt := 19) hx hb dX4_portFault_12 (by decide) (by omega) (by decide) (fun c_12 => ?_) (fun c_12 => ?_)
  · refine zz_iconst hx hb dX4_portFault_19 ?_
    exact hret 0 () _ _ _ _ dX4_portFault_20 (show ((0 : Int) = 3 ∧ 10 ≤ ports) ∨ ((0 : Int) = 0 ∧ ports < 10) from by omega) hP hD hS
  · refine zz_iconst hx hb dX4_portFault_15 ?_
    refine lv_goto (tgt := 20) hx hb dX4_portFault_16 (by decide) ?_
    exact hret 3 () _ _ _ _ dX4_portFault_20 (show ((3 : Int) = 3 ∧ 10 ≤ ports) ∨ ((3 : Int) = 0 ∧ ports < 10) from by omega) hP hD hS

set_option maxHeartbeats 4000000 in
set_option maxRecDepth 100000 in
theorem c_X4_putPort (l : Launch) (D : va_G) (tA : Nat → ClassId) (a0 a1 a2 a3 a4 a5 a6 a7 a8 a9 a10 a11 a12 a13 a14 a15 a16 a17 a18 a19 a20 a21 a22 : Nat) (sz : Nat) (ports : Int) (legs : Int) (lower : Int → Int) (upper : Int → Int) (leng : Int → Int) (reach : Int → Int) (meter : Int → Int) (cnt : Int) (strt : Int → Int) (goal : Int → Int) (money : Int → Int) (litN : Int → Int) (darkN : Int → Int) (rng : Int) (nights : Int) (fog : Int) (fund : Int) (refd : Int) (brt : Int) (shrt : Int → Int) (grp : Int → Int) (seen : Int → Int) (tp : Int → Int) (shr : Int → Int) (need : Int → Int) (ordr : Int → Int) (size : Int) (hp : 0 ≤ ports ∧ ports < 10) : zMi l yX4_putPort wsX4_putPort ({ frames := 0, cells := 0, slots := 0, locals := 0 }) D tA [.ref a0] (bOffice tA a0 a1 a2 a3 a4 a5 a6 a7 a8 a9 a10 a11 a12 a13 a14 a15 a16 a17 a18 a19 a20 a21 a22 ports legs lower upper leng reach meter cnt strt goal money litN darkN rng nights fog fund refd brt shrt grp seen tp shr need ordr size) sz (fun (z : Int) (u : Unit) => (z = ports)) (fun (u : Unit) => bOffice tA a0 a1 a2 a3 a4 a5 a6 a7 a8 a9 a10 a11 a12 a13 a14 a15 a16 a17 a18 a19 a20 a21 a22 (ports + 1) legs lower upper leng reach meter cnt strt goal money litN darkN rng nights fog fund refd brt shrt grp seen tp shr need ordr size) 0 0 := by
  refine zMi_of (cc := cX4_putPort) (maxL := 2) (by decide) rfl (fun z u h => rfl) (Nat.le_of_ble_eq_true rfl) ?_
  intro p e s m args below meth c A Q ls hx hb hml hts hown hK hP hD hA hret hl
  obtain ⟨H, hHe⟩ : ∃ H : Heap, H = s.heap := ⟨_, rfl⟩
  have hS : va_S A s.heap H [] := by rw [hHe]; exact va_S.rf
  rw [← hHe] at hP ⊢
  have hl : lv_has ls 2 [(0, .ref a0)] := hl
  have iX1 : ∀ v ∈ wsX10, v ∈ wsX4_putPort := by decide +kernel
  have iX4 : ∀ v ∈ wsX40, v ∈ wsX4_putPort := by decide +kernel
  have iX9 : ∀ v ∈ wsX90, v ∈ wsX4_putPort := by decide +kernel
  have f_12 := hts (.fieldLink RX4 12 "HarborLights$Office" "now" "LHarborLights$State;") (by decide +kernel)
  have f_32 := hts (.fieldLink RX4 32 "HarborLights$State" "chart" "LHarborLights$Chart;") (by decide +kernel)
  have f_36 := hts (.fieldLink RX4 36 "HarborLights$Chart" "ports" "I") (by decide +kernel)
  refine lv_aload_n hx hb dX4_putPort_0 rfl (lv_at hl 0 rfl) ?_
  refine va_get (D := D) (ci := 6) (v := .ref a1) (C := RX4) (T := TX4) (N := 3) hx hb hts iX4 hown hK hP 0 rfl rfl 0 (by decide) f_12 (fun _ h9 => h9) rfl dX4_putPort_1 ?_
  refine va_get (D := D) (ci := 11) (v := .ref a2) (C := RX9) (T := TX9) (N := 8) hx hb hts iX9 hown hK hP 1 rfl rfl 0 (by decide) f_32 (fun _ h9 => h9) rfl dX4_putPort_4 ?_
  refine va_get (D := D) (ci := 4) (v := .int (iI ports)) (C := RX1) (T := TX1) (N := 7) hx hb hts iX1 hown hK hP 2 rfl rfl 0 (by decide) f_36 (fun _ h9 => h9) rfl dX4_putPort_7 ?_
  refine lv_istore_n (lv' := [(1, .int (iI ports)), (0, .ref a0)]) hx hb dX4_putPort_10 rfl hl (by decide) rfl (fun ls hl => ?_)
  refine lv_aload_n hx hb dX4_putPort_11 rfl (lv_at hl 1 rfl) ?_
  refine va_get (D := D) (ci := 6) (v := .ref a1) (C := RX4) (T := TX4) (N := 3) hx hb hts iX4 hown hK hP 0 rfl rfl 0 (by decide) f_12 (fun _ h9 => h9) rfl dX4_putPort_12 ?_
  refine va_get (D := D) (ci := 11) (v := .ref a2) (C := RX9) (T := TX9) (N := 8) hx hb hts iX9 hown hK hP 1 rfl rfl 0 (by decide) f_32 (fun _ h9 => h9) rfl dX4_putPort_15 ?_
  refine lv_iload_n hx hb dX4_putPort_18 rfl (lv_at hl 0 rfl) ?_
  refine zz_iconst hx hb dX4_putPort_19 ?_
  refine zz_iadd hx hb dX4_putPort_20 ?_
  refine va_put (D := D) (ci := 4) (v := .int (iI (ports + 1))) (ty := .int) (C := RX1) (T := TX1) (N := 7) hx hb hts iX1 tyX1 tyX1_ok nmX1 hown hK hP hD hS 2 rfl rfl 0 (by decide) f_36 (fun _ h9 => h9) rfl (by decide +kernel) rfl rfl (Nat.le_of_ble_eq_true rfl) dX4_putPort_21 (fun H locs hP hD hS => ?_)
  have hP : va_P D vwCl (bOffice tA a0 a1 a2 a3 a4 a5 a6 a7 a8 a9 a10 a11 a12 a13 a14 a15 a16 a17 a18 a19 a20 a21 a22 (ports + 1) legs lower upper leng reach meter cnt strt goal money litN darkN rng nights fog fund refd brt shrt grp seen tp shr need ordr size) H := hP
  have hD : va_D A (bOffice tA a0 a1 a2 a3 a4 a5 a6 a7 a8 a9 a10 a11 a12 a13 a14 a15 a16 a17 a18 a19 a20 a21 a22 (ports + 1) legs lower upper leng reach meter cnt strt goal money litN darkN rng nights fog fund refd brt shrt grp seen tp shr need ordr size) := hD
  refine lv_iload_n hx hb dX4_putPort_24 rfl (lv_at hl 0 rfl) ?_
  exact hret ports () _ _ _ _ dX4_putPort_25 (show ports = ports from by omega) hP hD hS

set_option maxHeartbeats 4000000 in
set_option maxRecDepth 100000 in
theorem c_X4_legFault (l : Launch) (D : va_G) (tA : Nat → ClassId) (a0 a1 a2 a3 a4 a5 a6 a7 a8 a9 a10 a11 a12 a13 a14 a15 a16 a17 a18 a19 a20 a21 a22 : Nat) (sz : Nat) (ports : Int) (legs : Int) (lower : Int → Int) (upper : Int → Int) (leng : Int → Int) (reach : Int → Int) (meter : Int → Int) (cnt : Int) (strt : Int → Int) (goal : Int → Int) (money : Int → Int) (litN : Int → Int) (darkN : Int → Int) (rng : Int) (nights : Int) (fog : Int) (fund : Int) (refd : Int) (brt : Int) (shrt : Int → Int) (grp : Int → Int) (seen : Int → Int) (tp : Int → Int) (shr : Int → Int) (need : Int → Int) (ordr : Int → Int) (size : Int) (frm : Int) (too : Int) (w : Int) (r : Int) (r_frm : -2147483648 ≤ frm ∧ frm ≤ 2147483647) (r_too : -2147483648 ≤ too ∧ too ≤ 2147483647) (r_w : -2147483648 ≤ w ∧ w ≤ 2147483647) (r_r : -2147483648 ≤ r ∧ r ≤ 2147483647) (hch : ChV ports legs lower upper leng reach) : zMi l yX4_legFault wsX4_legFault ({ frames := 2, cells := 0, slots := 0, locals := 44 }) D tA [.ref a0, .int (iI frm), .int (iI too), .int (iI w), .int (iI r)] (bOffice tA a0 a1 a2 a3 a4 a5 a6 a7 a8 a9 a10 a11 a12 a13 a14 a15 a16 a17 a18 a19 a20 a21 a22 ports legs lower upper leng reach meter cnt strt goal money litN darkN rng nights fog fund refd brt shrt grp seen tp shr need ordr size) sz (fun (z : Int) (u : Unit) => (legF ports legs lower upper frm too w r z)) (fun (u : Unit) => bOffice tA a0 a1 a2 a3 a4 a5 a6 a7 a8 a9 a10 a11 a12 a13 a14 a15 a16 a17 a18 a19 a20 a21 a22 ports legs lower upper leng reach meter cnt strt goal money litN darkN rng nights fog fund refd brt shrt grp seen tp shr need ordr size) 0 0 := by
  refine zMi_of (cc := cX4_legFault) (maxL := 6) (by decide) rfl (fun z u h => rfl) (Nat.le_of_ble_eq_true rfl) ?_
  intro p e s m args below meth c A Q ls hx hb hml hts hown hK hP hD hA hret hl
  obtain ⟨H, hHe⟩ : ∃ H : Heap, H = s.heap := ⟨_, rfl⟩
  have hS : va_S A s.heap H [] := by rw [hHe]; exact va_S.rf
  rw [← hHe] at hP ⊢
  have hl : lv_has ls 6 [(0, .ref a0), (1, .int (iI frm)), (2, .int (iI too)), (3, .int (iI w)), (4, .int (iI r))] := hl
  have iX1 : ∀ v ∈ wsX10, v ∈ wsX4_legFault := by decide +kernel
  have iX4 : ∀ v ∈ wsX40, v ∈ wsX4_legFault := by decide +kernel
  have iX9 : ∀ v ∈ wsX90, v ∈ wsX4_legFault := by decide +kernel
  have f_12 := hts (.fieldLink RX4 12 "HarborLights$Office" "now" "LHarborLights$State;") (by decide +kernel)
  have f_32 := hts (.fieldLink RX4 32 "HarborLights$State" "chart" "LHarborLights$Chart;") (by decide +kernel)
  have f_46 := hts (.fieldLink RX4 46 "HarborLights$Chart" "legs" "I") (by decide +kernel)
  obtain ⟨vp0, vp1, vl0, vl1, -, -⟩ := id hch
  have Rlow : zRn legs lower := fun j j0 j1 => by have := hch.2.2.2.2.1 j j0 j1; omega
  have Rup : zRn legs upper := fun j j0 j1 => by have := hch.2.2.2.2.1 j j0 j1; omega
  refine lv_aload_n hx hb dX4_legFault_0 rfl (lv_at hl 0 rfl) ?_
  refine va_get (D := D) (ci := 6) (v := .ref a1) (C := RX4) (T := TX4) (N := 3) hx hb hts iX4 hown hK hP 0 rfl rfl 0 (by decide) f_12 (fun _ h9 => h9) rfl dX4_legFault_1 ?_
  refine va_get (D := D) (ci := 11) (v := .ref a2) (C := RX9) (T := TX9) (N := 8) hx hb hts iX9 hown hK hP 1 rfl rfl 0 (by decide) f_32 (fun _ h9 => h9) rfl dX4_legFault_4 ?_
  refine lv_iload_n hx hb dX4_legFault_7 rfl (lv_at hl 1 rfl) ?_
  refine lv_iload_n hx hb dX4_legFault_8 rfl (lv_at hl 2 rfl) ?_
  refine zz_callVi (As := [.int (iI frm), .int (iI too)]) (rest := []) (wf := fun u => bOffice tA a0 a1 a2 a3 a4 a5 a6 a7 a8 a9 a10 a11 a12 a13 a14 a15 a16 a17 a18 a19 a20 a21 a22 ports legs lower upper leng reach meter cnt strt goal money litN darkN rng nights fog fund refd brt shrt grp seen tp shr need ordr size) ⟨hx, hb, hml, hown, hts⟩ (c_X1_hasPorts l D tA a2 a3 a4 a5 a6 a7 H.size ports legs lower upper leng reach meter frm too (by first | assumption | omega) (by first | assumption | omega) (by first | assumption | omega)) (cwV 2 hts gX4_legFault_X1_hasPorts rfl rfl rfl (by decide +kernel) ⟨Nat.le_of_ble_eq_true rfl, Nat.le_of_ble_eq_true rfl⟩) hK hP hD hS hA [2, 3, 4, 5, 6, 7] [0, 1, 8, 9, 10, 11, 12, 13, 14, 15, 16, 17, 18, 19, 20, 21, 22] [0, 1, 17, 18, 19, 20, 21, 22, 2, 3, 4, 5, 6, 7, 8, 9, 10, 11, 12, 13, 14, 15, 16] rfl rfl (by decide) (by decide) (by decide) (by decide) (fun _ => rfl) (ci := 4) (q0 := 0) rfl rfl rfl rfl rfl hl.1 (Nat.le_of_ble_eq_true rfl) dX4_legFault_9 ⟨Nat.le_of_ble_eq_true rfl, Nat.le_of_ble_eq_true rfl⟩ ?_
  intro z9_1 u H locs p9_2 hP hD hS
  have hP : va_P D vwCl (bOffice tA a0 a1 a2 a3 a4 a5 a6 a7 a8 a9 a10 a11 a12 a13 a14 a15 a16 a17 a18 a19 a20 a21 a22 ports legs lower upper leng reach meter cnt strt goal money litN darkN rng nights fog fund refd brt shrt grp seen tp shr need ordr size) H := hP
  have hD : va_D A (bOffice tA a0 a1 a2 a3 a4 a5 a6 a7 a8 a9 a10 a11 a12 a13 a14 a15 a16 a17 a18 a19 a20 a21 a22 ports legs lower upper leng reach meter cnt strt goal money litN darkN rng nights fog fund refd brt shrt grp seen tp shr need ordr size) := hD
  have q_9 : (z9_1 = 1 ∧ 0 ≤ frm ∧ frm < ports ∧ 0 ≤ too ∧ too < ports) ∨ (z9_1 = 0 ∧ ¬ (0 ≤ frm ∧ frm < ports ∧ 0 ≤ too ∧ too < ports)) := p9_2
  refine zz_if_ne (tgt := 17) hx hb dX4_legFault_12 (by decide) (by omega) (fun c_12 => ?_) (fun c_12 => ?_)
  · refine lv_iload_n hx hb dX4_legFault_17 rfl (lv_at hl 3 rfl) ?_
    refine zz_iconst hx hb dX4_legFault_18 ?_
    refine zz_icmp_lt (tgt := 45) hx hb dX4_legFault_19 (by decide) (by omega) (by decide) (fun c_19 => ?_) (fun c_19 => ?_)
    · refine zz_iconst hx hb dX4_legFault_45 ?_
      refine lv_istore (lv' := [(5, .int (iI 0)), (0, .ref a0), (1, .int (iI frm)), (2, .int (iI too)), (3, .int (iI w)), (4, .int (iI r))]) hx hb dX4_legFault_46 hl (by decide) rfl (fun ls hl => ?_)
      refine lv_iload_n hx hb dX4_legFault_48 rfl (lv_at hl 2 rfl) ?_
      refine lv_iload_n hx hb dX4_legFault_49 rfl (lv_at hl 3 rfl) ?_
      refine zz_icmp_eq (tgt := 58) hx hb dX4_legFault_50 (by decide) (by omega) (by omega) (fun c_50 => ?_) (fun c_50 => ?_)
      · refine zz_iconst hx hb dX4_legFault_58 ?_
        exact hret 2 () _ _ _ _ dX4_legFault_59 (show legF ports legs lower upper frm too w r (2 : Int) from by exact Or.inr ⟨by unfold inP; omega, Or.inl ⟨rfl, by omega⟩⟩) hP hD hS
      · refine lv_iload hx hb dX4_legFault_53 (lv_at hl 0 rfl) ?_
        refine zz_if_ne (tgt := 60) hx hb dX4_legFault_55 (by decide) (by decide) (fun c_55 => ?_) (fun c_55 => ?_)
        · exact absurd c_55 (by decide)
        · refine zz_iconst hx hb dX4_legFault_58 ?_
          exact hret 2 () _ _ _ _ dX4_legFault_59 (show legF ports legs lower upper frm too w r (2 : Int) from by exact Or.inr ⟨by unfold inP; omega, Or.inl ⟨rfl, by omega⟩⟩) hP hD hS
    · refine lv_iload_n hx hb dX4_legFault_22 rfl (lv_at hl 3 rfl) ?_
      refine zz_bipush hx hb dX4_legFault_23 (by decide) ?_
      refine zz_icmp_gt (tgt := 45) hx hb dX4_legFault_25 (by decide) (by omega) (by decide) (fun c_25 => ?_) (fun c_25 => ?_)
      · refine zz_iconst hx hb dX4_legFault_45 ?_
        refine lv_istore (lv' := [(5, .int (iI 0)), (0, .ref a0), (1, .int (iI frm)), (2, .int (iI too)), (3, .int (iI w)), (4, .int (iI r))]) hx hb dX4_legFault_46 hl (by decide) rfl (fun ls hl => ?_)
        refine lv_iload_n hx hb dX4_legFault_48 rfl (lv_at hl 2 rfl) ?_
        refine lv_iload_n hx hb dX4_legFault_49 rfl (lv_at hl 3 rfl) ?_
        refine zz_icmp_eq (tgt := 58) hx hb dX4_legFault_50 (by decide) (by omega) (by omega) (fun c_50 => ?_) (fun c_50 => ?_)
        · refine zz_iconst hx hb dX4_legFault_58 ?_
          exact hret 2 () _ _ _ _ dX4_legFault_59 (show legF ports legs lower upper frm too w r (2 : Int) from by exact Or.inr ⟨by unfold inP; omega, Or.inl ⟨rfl, by omega⟩⟩) hP hD hS
        · refine lv_iload hx hb dX4_legFault_53 (lv_at hl 0 rfl) ?_
          refine zz_if_ne (tgt := 60) hx hb dX4_legFault_55 (by decide) (by decide) (fun c_55 => ?_) (fun c_55 => ?_)
          · exact absurd c_55 (by decide)
          · refine zz_iconst hx hb dX4_legFault_58 ?_
            exact hret 2 () _ _ _ _ dX4_legFault_59 (show legF ports legs lower upper frm too w r (2 : Int) from by exact Or.inr ⟨by unfold inP; omega, Or.inl ⟨rfl, by omega⟩⟩) hP hD hS
      · refine lv_iload hx hb dX4_legFault_28 (lv_at hl 4 rfl) ?_
        refine zz_iconst hx hb dX4_legFault_30 ?_
        refine zz_icmp_lt (tgt := 45) hx hb dX4_legFault_31 (by decide) (by omega) (by decide) (fun c_31 => ?_) (fun c_31 => ?_)
        · refine zz_iconst hx hb dX4_legFault_45 ?_
          refine lv_istore (lv' := [(5, .int (iI 0)), (0, .ref a0), (1, .int (iI frm)), (2, .int (iI too)), (3, .int (iI w)), (4, .int (iI r))]) hx hb dX4_legFault_46 hl (by decide) rfl (fun ls hl => ?_)
          refine lv_iload_n hx hb dX4_legFault_48 rfl (lv_at hl 2 rfl) ?_
          refine lv_iload_n hx hb dX4_legFault_49 rfl (lv_at hl 3 rfl) ?_
          refine zz_icmp_eq (tgt := 58) hx hb dX4_legFault_50 (by decide) (by omega) (by omega) (fun c_50 => ?_) (fun c_50 => ?_)
          · refine zz_iconst hx hb dX4_legFault_58 ?_
            exact hret 2 () _ _ _ _ dX4_legFault_59 (show legF ports legs lower upper frm too w r (2 : Int) from by exact Or.inr ⟨by unfold inP; omega, Or.inl ⟨rfl, by omega⟩⟩) hP hD hS
          · refine lv_iload hx hb dX4_legFault_53 (lv_at hl 0 rfl) ?_
            refine zz_if_ne (tgt := 60) hx hb dX4_legFault_55 (by decide) (by decide) (fun c_55 => ?_) (fun c_55 => ?_)
            · exact absurd c_55 (by decide)
            · refine zz_iconst hx hb dX4_legFault_58 ?_
              exact hret 2 () _ _ _ _ dX4_legFault_59 (show legF ports legs lower upper frm too w r (2 : Int) from by exact Or.inr ⟨by unfold inP; omega, Or.inl ⟨rfl, by omega⟩⟩) hP hD hS
        · refine lv_iload hx hb dX4_legFault_34 (lv_at hl 4 rfl) ?_
          refine zz_bipush hx hb dX4_legFault_36 (by decide) ?_
          refine zz_icmp_gt (tgt := 45) hx hb dX4_legFault_38 (by decide) (by omega) (by decide) (fun c_38 => ?_) (fun c_38 => ?_)
          · refine zz_iconst hx hb dX4_legFault_45 ?_
            refine lv_istore (lv' := [(5, .int (iI 0)), (0, .ref a0), (1, .int (iI frm)), (2, .int (iI too)), (3, .int (iI w)), (4, .int (iI r))]) hx hb dX4_legFault_46 hl (by decide) rfl (fun ls hl => ?_)
            refine lv_iload_n hx hb dX4_legFault_48 rfl (lv_at hl 2 rfl) ?_
            refine lv_iload_n hx hb dX4_legFault_49 rfl (lv_at hl 3 rfl) ?_
            refine zz_icmp_eq (tgt := 58) hx hb dX4_legFault_50 (by decide) (by omega) (by omega) (fun c_50 => ?_) (fun c_50 => ?_)
            · refine zz_iconst hx hb dX4_legFault_58 ?_
              exact hret 2 () _ _ _ _ dX4_legFault_59 (show legF ports legs lower upper frm too w r (2 : Int) from by exact Or.inr ⟨by unfold inP; omega, Or.inl ⟨rfl, by omega⟩⟩) hP hD hS
            · refine lv_iload hx hb dX4_legFault_53 (lv_at hl 0 rfl) ?_
              refine zz_if_ne (tgt := 60) hx hb dX4_legFault_55 (by decide) (by decide) (fun c_55 => ?_) (fun c_55 => ?_)
              · exact absurd c_55 (by decide)
              · refine zz_iconst hx hb dX4_legFault_58 ?_
                exact hret 2 () _ _ _ _ dX4_legFault_59 (show legF ports legs lower upper frm too w r (2 : Int) from by exact Or.inr ⟨by unfold inP; omega, Or.inl ⟨rfl, by omega⟩⟩) hP hD hS
          · refine zz_iconst hx hb dX4_legFault_41 ?_
            refine lv_goto (tgt := 46) hx hb dX4_legFault_42 (by decide) ?_
            refine lv_istore (lv' := [(5, .int (iI 1)), (0, .ref a0), (1, .int (iI frm)), (2, .int (iI too)), (3, .int (iI w)), (4, .int (iI r))]) hx hb dX4_legFault_46 hl (by decide) rfl (fun ls hl => ?_)
            refine lv_iload_n hx hb dX4_legFault_48 rfl (lv_at hl 2 rfl) ?_
            refine lv_iload_n hx hb dX4_legFault_49 rfl (lv_at hl 3 rfl) ?_
            refine zz_icmp_eq (tgt := 58) hx hb dX4_legFault_50 (by decide) (by omega) (by omega) (fun c_50 => ?_) (fun c_50 => ?_)
            · refine zz_iconst hx hb dX4_legFault_58 ?_
              exact hret 2 () _ _ _ _ dX4_legFault_59 (show legF ports legs lower upper frm too w r (2 : Int) from by exact Or.inr ⟨by unfold inP; omega, Or.inl ⟨rfl, by omega⟩⟩) hP hD hS
            · refine lv_iload hx hb dX4_legFault_53 (lv_at hl 0 rfl) ?_
              refine zz_if_ne (tgt := 60) hx hb dX4_legFault_55 (by decide) (by decide) (fun c_55 => ?_) (fun c_55 => ?_)
              · refine lv_aload_n hx hb dX4_legFault_60 rfl (lv_at hl 1 rfl) ?_
                refine va_get (D := D) (ci := 6) (v := .ref a1) (C := RX4) (T := TX4) (N := 3) hx hb hts iX4 hown hK hP 0 rfl rfl 0 (by decide) f_12 (fun _ h9 => h9) rfl dX4_legFault_61 ?_
                refine va_get (D := D) (ci := 11) (v := .ref a2) (C := RX9) (T := TX9) (N := 8) hx hb hts iX9 hown hK hP 1 rfl rfl 0 (by decide) f_32 (fun _ h9 => h9) rfl dX4_legFault_64 ?_
                refine va_get (D := D) (ci := 4) (v := .int (iI legs)) (C := RX1) (T := TX1) (N := 7) hx hb hts iX1 hown hK hP 2 rfl rfl 1 (by decide) f_46 (fun _ h9 => h9) rfl dX4_legFault_67 ?_
                refine zz_bipush hx hb dX4_legFault_70 (by decide) ?_
                refine zz_icmp_ge (tgt := 91) hx hb dX4_legFault_72 (by decide) (by omega) (by decide) (fun c_72 => ?_) (fun c_72 => ?_)
                · refine zz_iconst hx hb dX4_legFault_91 ?_
                  exact hret 3 () _ _ _ _ dX4_legFault_92 (show legF ports legs lower upper frm too w r (3 : Int) from by exact Or.inr ⟨by unfold inP; omega, Or.inr ⟨by omega, Or.inl ⟨rfl, by first | exact Or.inl (by omega) | exact Or.inr (q_84.elim (fun h => absurd h.1 c_88) (fun h => ⟨_, h.1, h.2.1, h.2.2.1, h.2.2.2⟩))⟩⟩⟩) hP hD hS
                · refine lv_aload_n hx hb dX4_legFault_75 rfl (lv_at hl 1 rfl) ?_
                  refine va_get (D := D) (ci := 6) (v := .ref a1) (C := RX4) (T := TX4) (N := 3) hx hb hts iX4 hown hK hP 0 rfl rfl 0 (by decide) f_12 (fun _ h9 => h9) rfl dX4_legFault_76 ?_
                  refine va_get (D := D) (ci := 11) (v := .ref a2) (C := RX9) (T := TX9) (N := 8) hx hb hts iX9 hown hK hP 1 rfl rfl 0 (by decide) f_32 (fun _ h9 => h9) rfl dX4_legFault_79 ?_
                  refine lv_iload_n hx hb dX4_legFault_82 rfl (lv_at hl 2 rfl) ?_
                  refine lv_iload_n hx hb dX4_legFault_83 rfl (lv_at hl 3 rfl) ?_
                  refine zz_callVi (As := [.int (iI frm), .int (iI too)]) (rest := []) (wf := fun u => bOffice tA a0 a1 a2 a3 a4 a5 a6 a7 a8 a9 a10 a11 a12 a13 a14 a15 a16 a17 a18 a19 a20 a21 a22 ports legs lower upper leng reach meter cnt strt goal money litN darkN rng nights fog fund refd brt shrt grp seen tp shr need ordr size) ⟨hx, hb, hml, hown, hts⟩ (c_X1_find l D tA a2 a3 a4 a5 a6 a7 H.size ports legs lower upper leng reach meter frm too (by first | assumption | omega) (by first | assumption | omega) (by first | assumption | omega) (by first | assumption | omega) (by first | assumption | omega)) (cwV 2 hts gX4_legFault_X1_find rfl rfl rfl (by decide +kernel) ⟨Nat.le_of_ble_eq_true rfl, Nat.le_of_ble_eq_true rfl⟩) hK hP hD hS hA [2, 3, 4, 5, 6, 7] [0, 1, 8, 9, 10, 11, 12, 13, 14, 15, 16, 17, 18, 19, 20, 21, 22] [0, 1, 17, 18, 19, 20, 21, 22, 2, 3, 4, 5, 6, 7, 8, 9, 10, 11, 12, 13, 14, 15, 16] rfl rfl (by decide) (by decide) (by decide) (by decide) (fun _ => rfl) (ci := 4) (q0 := 0) rfl rfl rfl rfl rfl hl.1 (Nat.le_of_ble_eq_true rfl) dX4_legFault_84 ⟨Nat.le_of_ble_eq_true rfl, Nat.le_of_ble_eq_true rfl⟩ ?_
                  intro z84_3 u H locs p84_4 hP hD hS
                  have hP : va_P D vwCl (bOffice tA a0 a1 a2 a3 a4 a5 a6 a7 a8 a9 a10 a11 a12 a13 a14 a15 a16 a17 a18 a19 a20 a21 a22 ports legs lower upper leng reach meter cnt strt goal money litN darkN rng nights fog fund refd brt shrt grp seen tp shr need ordr size) H := hP
                  have hD : va_D A (bOffice tA a0 a1 a2 a3 a4 a5 a6 a7 a8 a9 a10 a11 a12 a13 a14 a15 a16 a17 a18 a19 a20 a21 a22 ports legs lower upper leng reach meter cnt strt goal money litN darkN rng nights fog fund refd brt shrt grp seen tp shr need ordr size) := hD
                  have q_84 : (z84_3 = -1 ∧ (∀ j, 0 ≤ j → j < legs → ¬ (lower j = min frm too ∧ upper j = max frm too))) ∨ (0 ≤ z84_3 ∧ z84_3 < legs ∧ lower z84_3 = min frm too ∧ upper z84_3 = max frm too) := p84_4
                  refine zz_iconst hx hb dX4_legFault_87 ?_
                  refine zz_icmp_eq (tgt := 93) hx hb dX4_legFault_88 (by decide) (by omega) (by decide) (fun c_88 => ?_) (fun c_88 => ?_)
                  · refine zz_iconst hx hb dX4_legFault_93 ?_
                    exact hret 0 () _ _ _ _ dX4_legFault_94 (show legF ports legs lower upper frm too w r (0 : Int) from by exact Or.inr ⟨by unfold inP; omega, Or.inr ⟨by omega, Or.inr ⟨rfl, by omega, hasL_no (q_84.elim (fun h => h.2) (fun h => absurd h.1 (by omega)))⟩⟩⟩) hP hD hS
                  · refine zz_iconst hx hb dX4_legFault_91 ?_
                    exact hret 3 () _ _ _ _ dX4_legFault_92 (show legF ports legs lower upper frm too w r (3 : Int) from by exact Or.inr ⟨by unfold inP; omega, Or.inr ⟨by omega, Or.inl ⟨rfl, by first | exact Or.inl (by omega) | exact Or.inr (q_84.elim (fun h => absurd h.1 c_88) (fun h => ⟨_, h.1, h.2.1, h.2.2.1, h.2.2.2⟩))⟩⟩⟩) hP hD hS
              · exact absurd c_55 (by decide)
  · refine zz_iconst hx hb dX4_legFault_15 ?_
    exact hret 1 () _ _ _ _ dX4_legFault_16 (show legF ports legs lower upper frm too w r (1 : Int) from by exact Or.inl ⟨rfl, by unfold inP; omega⟩) hP hD hS

set_option maxHeartbeats 4000000 in
set_option maxRecDepth 100000 in
theorem c_X4_putLeg (l : Launch) (D : va_G) (tA : Nat → ClassId) (a0 a1 a2 a3 a4 a5 a6 a7 a8 a9 a10 a11 a12 a13 a14 a15 a16 a17 a18 a19 a20 a21 a22 : Nat) (sz : Nat) (ports : Int) (legs : Int) (lower : Int → Int) (upper : Int → Int) (leng : Int → Int) (reach : Int → Int) (meter : Int → Int) (cnt : Int) (strt : Int → Int) (goal : Int → Int) (money : Int → Int) (litN : Int → Int) (darkN : Int → Int) (rng : Int) (nights : Int) (fog : Int) (fund : Int) (refd : Int) (brt : Int) (shrt : Int → Int) (grp : Int → Int) (seen : Int → Int) (tp : Int → Int) (shr : Int → Int) (need : Int → Int) (ordr : Int → Int) (size : Int) (frm : Int) (too : Int) (w : Int) (r : Int) (r_frm : -2147483648 ≤ frm ∧ frm ≤ 2147483647) (r_too : -2147483648 ≤ too ∧ too ≤ 2147483647) (r_w : -2147483648 ≤ w ∧ w ≤ 2147483647) (r_r : -2147483648 ≤ r ∧ r ≤ 2147483647) (hch : ChV ports legs lower upper leng reach) (hl : legs < 20) : zMi l yX4_putLeg wsX4_putLeg ({ frames := 2, cells := 0, slots := 0, locals := 53 }) D tA [.ref a0, .int (iI frm), .int (iI too), .int (iI w), .int (iI r)] (bOffice tA a0 a1 a2 a3 a4 a5 a6 a7 a8 a9 a10 a11 a12 a13 a14 a15 a16 a17 a18 a19 a20 a21 a22 ports legs lower upper leng reach meter cnt strt goal money litN darkN rng nights fog fund refd brt shrt grp seen tp shr need ordr size) sz (fun (z : Int) (u : (Int)) => (0 ≤ u ∧ u ≤ legs) ∧ (∀ j, 0 ≤ j → j < u → legLt (reach j) (leng j) (lower j) (upper j) r w (min frm too) (max frm too)) ∧ (u = legs ∨ ¬ legLt (reach u) (leng u) (lower u) (upper u) r w (min frm too) (max frm too)) ∧ (z = legs + 1)) (fun (u : (Int)) => bOffice tA a0 a1 a2 a3 a4 a5 a6 a7 a8 a9 a10 a11 a12 a13 a14 a15 a16 a17 a18 a19 a20 a21 a22 ports (legs + 1) (zU (shf lower u legs) u (min frm too)) (zU (shf upper u legs) u (max frm too)) (zU (shf leng u legs) u w) (zU (shf reach u legs) u r) (zU (shf meter u legs) u 0) cnt strt goal money litN darkN rng nights fog fund refd brt shrt grp seen tp shr need ordr size) 0 0 := by
  refine zMi_of (cc := cX4_putLeg) (maxL := 5) (by decide) rfl (fun z u h => rfl) (Nat.le_of_ble_eq_true rfl) ?_
  intro p e s m args below meth c A Q ls hx hb hml hts hown hK hP hD hA hret hl
  obtain ⟨H, hHe⟩ : ∃ H : Heap, H = s.heap := ⟨_, rfl⟩
  have hS : va_S A s.heap H [] := by rw [hHe]; exact va_S.rf
  rw [← hHe] at hP ⊢
  have hl : lv_has ls 5 [(0, .ref a0), (1, .int (iI frm)), (2, .int (iI too)), (3, .int (iI w)), (4, .int (iI r))] := hl
  have iX1 : ∀ v ∈ wsX10, v ∈ wsX4_putLeg := by decide +kernel
  have iX4 : ∀ v ∈ wsX40, v ∈ wsX4_putLeg := by decide +kernel
  have iX9 : ∀ v ∈ wsX90, v ∈ wsX4_putLeg := by decide +kernel
  have f_12 := hts (.fieldLink RX4 12 "HarborLights$Office" "now" "LHarborLights$State;") (by decide +kernel)
  have f_32 := hts (.fieldLink RX4 32 "HarborLights$State" "chart" "LHarborLights$Chart;") (by decide +kernel)
  have f_46 := hts (.fieldLink RX4 46 "HarborLights$Chart" "legs" "I") (by decide +kernel)
  obtain ⟨vp0, vp1, vl0, vl1, -, -⟩ := id hch
  have Rlow : zRn legs lower := fun j j0 j1 => by have := hch.2.2.2.2.1 j j0 j1; omega
  have Rup : zRn legs upper := fun j j0 j1 => by have := hch.2.2.2.2.1 j j0 j1; omega
  have Rlen : zRn legs leng := fun j j0 j1 => by have := hch.2.2.2.2.1 j j0 j1; omega
  have Rrea : zRn legs reach := fun j j0 j1 => by have := hch.2.2.2.2.1 j j0 j1; omega
  refine lv_aload_n hx hb dX4_putLeg_0 rfl (lv_at hl 0 rfl) ?_
  refine va_get (D := D) (ci := 6) (v := .ref a1) (C := RX4) (T := TX4) (N := 3) hx hb hts iX4 hown hK hP 0 rfl rfl 0 (by decide) f_12 (fun _ h9 => h9) rfl dX4_putLeg_1 ?_
  refine va_get (D := D) (ci := 11) (v := .ref a2) (C := RX9) (T := TX9) (N := 8) hx hb hts iX9 hown hK hP 1 rfl rfl 0 (by decide) f_32 (fun _ h9 => h9) rfl dX4_putLeg_4 ?_
  refine lv_iload_n hx hb dX4_putLeg_7 rfl (lv_at hl 1 rfl) ?_
  refine lv_iload_n hx hb dX4_putLeg_8 rfl (lv_at hl 2 rfl) ?_
  refine lv_iload_n hx hb dX4_putLeg_9 rfl (lv_at hl 3 rfl) ?_
  refine lv_iload hx hb dX4_putLeg_10 (lv_at hl 4 rfl) ?_
  refine zz_callVv (As := [.int (iI frm), .int (iI too), .int (iI w), .int (iI r)]) (rest := []) (wf := fun u => bOffice tA a0 a1 a2 a3 a4 a5 a6 a7 a8 a9 a10 a11 a12 a13 a14 a15 a16 a17 a18 a19 a20 a21 a22 ports (legs + 1) (zU (shf lower u legs) u (min frm too)) (zU (shf upper u legs) u (max frm too)) (zU (shf leng u legs) u w) (zU (shf reach u legs) u r) (zU (shf meter u legs) u 0) cnt strt goal money litN darkN rng nights fog fund refd brt shrt grp seen tp shr need ordr size) ⟨hx, hb, hml, hown, hts⟩ (c_X1_insert l D tA a2 a3 a4 a5 a6 a7 H.size ports legs lower upper leng reach meter frm too w r (by first | assumption | omega) (by first | assumption | omega) (by first | assumption | omega) (by first | assumption | omega) (by first | assumption | omega) (by first | assumption | omega) (by first | assumption | omega) (by first | assumption | omega) (by first | assumption | omega)) (cwV 4 hts gX4_putLeg_X1_insert rfl rfl rfl (by decide +kernel) ⟨Nat.le_of_ble_eq_true rfl, Nat.le_of_ble_eq_true rfl⟩) hK hP hD hS hA [2, 3, 4, 5, 6, 7] [0, 1, 8, 9, 10, 11, 12, 13, 14, 15, 16, 17, 18, 19, 20, 21, 22] [0, 1, 17, 18, 19, 20, 21, 22, 2, 3, 4, 5, 6, 7, 8, 9, 10, 11, 12, 13, 14, 15, 16] rfl rfl (by decide) (by decide) (by decide) (by decide) (fun _ => rfl) (ci := 4) (q0 := 0) rfl rfl rfl rfl rfl hl.1 (Nat.le_of_ble_eq_true rfl) dX4_putLeg_12 ⟨Nat.le_of_ble_eq_true rfl, Nat.le_of_ble_eq_true rfl⟩ ?_
  intro u H locs p12_2 hP hD hS
  obtain ⟨p_1, rfl⟩ : ∃ q, q = u := ⟨_, rfl⟩
  have hP : va_P D vwCl (bOffice tA a0 a1 a2 a3 a4 a5 a6 a7 a8 a9 a10 a11 a12 a13 a14 a15 a16 a17 a18 a19 a20 a21 a22 ports (legs + 1) (zU (shf lower p_1 legs) p_1 (min frm too)) (zU (shf upper p_1 legs) p_1 (max frm too)) (zU (shf leng p_1 legs) p_1 w) (zU (shf reach p_1 legs) p_1 r) (zU (shf meter p_1 legs) p_1 0) cnt strt goal money litN darkN rng nights fog fund refd brt shrt grp seen tp shr need ordr size) H := hP
  have hD : va_D A (bOffice tA a0 a1 a2 a3 a4 a5 a6 a7 a8 a9 a10 a11 a12 a13 a14 a15 a16 a17 a18 a19 a20 a21 a22 ports (legs + 1) (zU (shf lower p_1 legs) p_1 (min frm too)) (zU (shf upper p_1 legs) p_1 (max frm too)) (zU (shf leng p_1 legs) p_1 w) (zU (shf reach p_1 legs) p_1 r) (zU (shf meter p_1 legs) p_1 0) cnt strt goal money litN darkN rng nights fog fund refd brt shrt grp seen tp shr need ordr size) := hD
  have q0_12 : 0 ≤ p_1 ∧ p_1 ≤ legs := p12_2.1
  have q1_12 : ∀ j, 0 ≤ j → j < p_1 → legLt (reach j) (leng j) (lower j) (upper j) r w (min frm too) (max frm too) := p12_2.2.1
  have q2_12 : p_1 = legs ∨ ¬ legLt (reach p_1) (leng p_1) (lower p_1) (upper p_1) r w (min frm too) (max frm too) := p12_2.2.2
  refine lv_aload_n hx hb dX4_putLeg_15 rfl (lv_at hl 0 rfl) ?_
  refine va_get (D := D) (ci := 6) (v := .ref a1) (C := RX4) (T := TX4) (N := 3) hx hb hts iX4 hown hK hP 0 rfl rfl 0 (by decide) f_12 (fun _ h9 => h9) rfl dX4_putLeg_16 ?_
  refine va_get (D := D) (ci := 11) (v := .ref a2) (C := RX9) (T := TX9) (N := 8) hx hb hts iX9 hown hK hP 1 rfl rfl 0 (by decide) f_32 (fun _ h9 => h9) rfl dX4_putLeg_19 ?_
  refine va_get (D := D) (ci := 4) (v := .int (iI (legs + 1))) (C := RX1) (T := TX1) (N := 7) hx hb hts iX1 hown hK hP 2 rfl rfl 1 (by decide) f_46 (fun _ h9 => h9) rfl dX4_putLeg_22 ?_
  exact hret (legs + 1) p_1 _ _ _ _ dX4_putLeg_25 ⟨(show 0 ≤ p_1 ∧ p_1 ≤ legs from by omega), (show ∀ j, 0 ≤ j → j < p_1 → legLt (reach j) (leng j) (lower j) (upper j) r w (min frm too) (max frm too) from by assumption), (show p_1 = legs ∨ ¬ legLt (reach p_1) (leng p_1) (lower p_1) (upper p_1) r w (min frm too) (max frm too) from by assumption), (show (legs + 1) = legs + 1 from by omega)⟩ hP hD hS

set_option maxHeartbeats 4000000 in
set_option maxRecDepth 100000 in
theorem c_X4_cutFault (l : Launch) (D : va_G) (tA : Nat → ClassId) (a0 a1 a2 a3 a4 a5 a6 a7 a8 a9 a10 a11 a12 a13 a14 a15 a16 a17 a18 a19 a20 a21 a22 : Nat) (sz : Nat) (ports : Int) (legs : Int) (lower : Int → Int) (upper : Int → Int) (leng : Int → Int) (reach : Int → Int) (meter : Int → Int) (cnt : Int) (strt : Int → Int) (goal : Int → Int) (money : Int → Int) (litN : Int → Int) (darkN : Int → Int) (rng : Int) (nights : Int) (fog : Int) (fund : Int) (refd : Int) (brt : Int) (shrt : Int → Int) (grp : Int → Int) (seen : Int → Int) (tp : Int → Int) (shr : Int → Int) (need : Int → Int) (ordr : Int → Int) (size : Int) (frm : Int) (too : Int) (r_frm : -2147483648 ≤ frm ∧ frm ≤ 2147483647) (r_too : -2147483648 ≤ too ∧ too ≤ 2147483647) (hch : ChV ports legs lower upper leng reach) : zMi l yX4_cutFault wsX4_cutFault ({ frames := 2, cells := 0, slots := 0, locals := 44 }) D tA [.ref a0, .int (iI frm), .int (iI too)] (bOffice tA a0 a1 a2 a3 a4 a5 a6 a7 a8 a9 a10 a11 a12 a13 a14 a15 a16 a17 a18 a19 a20 a21 a22 ports legs lower upper leng reach meter cnt strt goal money litN darkN rng nights fog fund refd brt shrt grp seen tp shr need ordr size) sz (fun (z : Int) (u : Unit) => (cutF ports legs lower upper frm too z)) (fun (u : Unit) => bOffice tA a0 a1 a2 a3 a4 a5 a6 a7 a8 a9 a10 a11 a12 a13 a14 a15 a16 a17 a18 a19 a20 a21 a22 ports legs lower upper leng reach meter cnt strt goal money litN darkN rng nights fog fund refd brt shrt grp seen tp shr need ordr size) 0 0 := by
  refine zMi_of (cc := cX4_cutFault) (maxL := 3) (by decide) rfl (fun z u h => rfl) (Nat.le_of_ble_eq_true rfl) ?_
  intro p e s m args below meth c A Q ls hx hb hml hts hown hK hP hD hA hret hl
  obtain ⟨H, hHe⟩ : ∃ H : Heap, H = s.heap := ⟨_, rfl⟩
  have hS : va_S A s.heap H [] := by rw [hHe]; exact va_S.rf
  rw [← hHe] at hP ⊢
  have hl : lv_has ls 3 [(0, .ref a0), (1, .int (iI frm)), (2, .int (iI too))] := hl
  have iX4 : ∀ v ∈ wsX40, v ∈ wsX4_cutFault := by decide +kernel
  have iX9 : ∀ v ∈ wsX90, v ∈ wsX4_cutFault := by decide +kernel
  have f_12 := hts (.fieldLink RX4 12 "HarborLights$Office" "now" "LHarborLights$State;") (by decide +kernel)
  have f_32 := hts (.fieldLink RX4 32 "HarborLights$State" "chart" "LHarborLights$Chart;") (by decide +kernel)
  obtain ⟨vp0, vp1, vl0, vl1, -, -⟩ := id hch
  have Rlow : zRn legs lower := fun j j0 j1 => by have := hch.2.2.2.2.1 j j0 j1; omega
  have Rup : zRn legs upper := fun j j0 j1 => by have := hch.2.2.2.2.1 j j0 j1; omega
  refine lv_aload_n hx hb dX4_cutFault_0 rfl (lv_at hl 0 rfl) ?_
  refine va_get (D := D) (ci := 6) (v := .ref a1) (C := RX4) (T := TX4) (N := 3) hx hb hts iX4 hown hK hP 0 rfl rfl 0 (by decide) f_12 (fun _ h9 => h9) rfl dX4_cutFault_1 ?_
  refine va_get (D := D) (ci := 11) (v := .ref a2) (C := RX9) (T := TX9) (N := 8) hx hb hts iX9 hown hK hP 1 rfl rfl 0 (by decide) f_32 (fun _ h9 => h9) rfl dX4_cutFault_4 ?_
  refine lv_iload_n hx hb dX4_cutFault_7 rfl (lv_at hl 1 rfl) ?_
  refine lv_iload_n hx hb dX4_cutFault_8 rfl (lv_at hl 2 rfl) ?_
  refine zz_callVi (As := [.int (iI frm), .int (iI too)]) (rest := []) (wf := fun u => bOffice tA a0 a1 a2 a3 a4 a5 a6 a7 a8 a9 a10 a11 a12 a13 a14 a15 a16 a17 a18 a19 a20 a21 a22 ports legs lower upper leng reach meter cnt strt goal money litN darkN rng nights fog fund refd brt shrt grp seen tp shr need ordr size) ⟨hx, hb, hml, hown, hts⟩ (c_X1_hasPorts l D tA a2 a3 a4 a5 a6 a7 H.size ports legs lower upper leng reach meter frm too (by first | assumption | omega) (by first | assumption | omega) (by first | assumption | omega)) (cwV 2 hts gX4_cutFault_X1_hasPorts rfl rfl rfl (by decide +kernel) ⟨Nat.le_of_ble_eq_true rfl, Nat.le_of_ble_eq_true rfl⟩) hK hP hD hS hA [2, 3, 4, 5, 6, 7] [0, 1, 8, 9, 10, 11, 12, 13, 14, 15, 16, 17, 18, 19, 20, 21, 22] [0, 1, 17, 18, 19, 20, 21, 22, 2, 3, 4, 5, 6, 7, 8, 9, 10, 11, 12, 13, 14, 15, 16] rfl rfl (by decide) (by decide) (by decide) (by decide) (fun _ => rfl) (ci := 4) (q0 := 0) rfl rfl rfl rfl rfl hl.1 (Nat.le_of_ble_eq_true rfl) dX4_cutFault_9 ⟨Nat.le_of_ble_eq_true rfl, Nat.le_of_ble_eq_true rfl⟩ ?_
  intro z9_1 u H locs p9_2 hP hD hS
  have hP : va_P D vwCl (bOffice tA a0 a1 a2 a3 a4 a5 a6 a7 a8 a9 a10 a11 a12 a13 a14 a15 a16 a17 a18 a19 a20 a21 a22 ports legs lower upper leng reach meter cnt strt goal money litN darkN rng nights fog fund refd brt shrt grp seen tp shr need ordr size) H := hP
  have hD : va_D A (bOffice tA a0 a1 a2 a3 a4 a5 a6 a7 a8 a9 a10 a11 a12 a13 a14 a15 a16 a17 a18 a19 a20 a21 a22 ports legs lower upper leng reach meter cnt strt goal money litN darkN rng nights fog fund refd brt shrt grp seen tp shr need ordr size) := hD
  have q_9 : (z9_1 = 1 ∧ 0 ≤ frm ∧ frm < ports ∧ 0 ≤ too ∧ too < ports) ∨ (z9_1 = 0 ∧ ¬ (0 ≤ frm ∧ frm < ports ∧ 0 ≤ too ∧ too < ports)) := p9_2
  refine zz_if_ne (tgt := 17) hx hb dX4_cutFault_12 (by decide) (by omega) (fun c_12 => ?_) (fun c_12 => ?_)
  · refine lv_aload_n hx hb dX4_cutFault_17 rfl (lv_at hl 0 rfl) ?_
    refine va_get (D := D) (ci := 6) (v := .ref a1) (C := RX4) (T := TX4) (N := 3) hx hb hts iX4 hown hK hP 0 rfl rfl 0 (by decide) f_12 (fun _ h9 => h9) rfl dX4_cutFault_18 ?_
    refine va_get (D := D) (ci := 11) (v := .ref a2) (C := RX9) (T := TX9) (N := 8) hx hb hts iX9 hown hK hP 1 rfl rfl 0 (by decide) f_32 (fun _ h9 => h9) rfl dX4_cutFault_21 ?_
    refine lv_iload_n hx hb dX4_cutFault_24 rfl (lv_at hl 1 rfl) ?_
    refine lv_iload_n hx hb dX4_cutFault_25 rfl (lv_at hl 2 rfl) ?_
    refine zz_callVi (As := [.int (iI frm), .int (iI too)]) (rest := []) (wf := fun u => bOffice tA a0 a1 a2 a3 a4 a5 a6 a7 a8 a9 a10 a11 a12 a13 a14 a15 a16 a17 a18 a19 a20 a21 a22 ports legs lower upper leng reach meter cnt strt goal money litN darkN rng nights fog fund refd brt shrt grp seen tp shr need ordr size) ⟨hx, hb, hml, hown, hts⟩ (c_X1_find l D tA a2 a3 a4 a5 a6 a7 H.size ports legs lower upper leng reach meter frm too (by first | assumption | omega) (by first | assumption | omega) (by first | assumption | omega) (by first | assumption | omega) (by first | assumption | omega)) (cwV 2 hts gX4_cutFault_X1_find rfl rfl rfl (by decide +kernel) ⟨Nat.le_of_ble_eq_true rfl, Nat.le_of_ble_eq_true rfl⟩) hK hP hD hS hA [2, 3, 4, 5, 6, 7] [0, 1, 8, 9, 10, 11, 12, 13, 14, 15, 16, 17, 18, 19, 20, 21, 22] [0, 1, 17, 18, 19, 20, 21, 22, 2, 3, 4, 5, 6, 7, 8, 9, 10, 11, 12, 13, 14, 15, 16] rfl rfl (by decide) (by decide) (by decide) (by decide) (fun _ => rfl) (ci := 4) (q0 := 0) rfl rfl rfl rfl rfl hl.1 (Nat.le_of_ble_eq_true rfl) dX4_cutFault_26 ⟨Nat.le_of_ble_eq_true rfl, Nat.le_of_ble_eq_true rfl⟩ ?_
    intro z26_3 u H locs p26_4 hP hD hS
    have hP : va_P D vwCl (bOffice tA a0 a1 a2 a3 a4 a5 a6 a7 a8 a9 a10 a11 a12 a13 a14 a15 a16 a17 a18 a19 a20 a21 a22 ports legs lower upper leng reach meter cnt strt goal money litN darkN rng nights fog fund refd brt shrt grp seen tp shr need ordr size) H := hP
    have hD : va_D A (bOffice tA a0 a1 a2 a3 a4 a5 a6 a7 a8 a9 a10 a11 a12 a13 a14 a15 a16 a17 a18 a19 a20 a21 a22 ports legs lower upper leng reach meter cnt strt goal money litN darkN rng nights fog fund refd brt shrt grp seen tp shr need ordr size) := hD
    have q_26 : (z26_3 = -1 ∧ (∀ j, 0 ≤ j → j < legs → ¬ (lower j = min frm too ∧ upper j = max frm too))) ∨ (0 ≤ z26_3 ∧ z26_3 < legs ∧ lower z26_3 = min frm too ∧ upper z26_3 = max frm too) := p26_4
    refine zz_iconst hx hb dX4_cutFault_29 ?_
    refine zz_icmp_ne (tgt := 37) hx hb dX4_cutFault_30 (by decide) (by omega) (by decide) (fun c_30 => ?_) (fun c_30 => ?_)
    · refine zz_iconst hx hb dX4_cutFault_37 ?_
      exact hret 0 () _ _ _ _ dX4_cutFault_38 (show cutF ports legs lower upper frm too (0 : Int) from by exact Or.inr ⟨by unfold inP; omega, by first | exact Or.inl ⟨rfl, hasL_no (q_26.elim (fun h => h.2) (fun h => absurd h.1 (by omega)))⟩ | exact Or.inr ⟨rfl, q_26.elim (fun h => absurd h.1 c_30) (fun h => ⟨_, h.1, h.2.1, h.2.2.1, h.2.2.2⟩)⟩⟩) hP hD hS
    · refine zz_iconst hx hb dX4_cutFault_33 ?_
      refine lv_goto (tgt := 38) hx hb dX4_cutFault_34 (by decide) ?_
      exact hret 4 () _ _ _ _ dX4_cutFault_38 (show cutF ports legs lower upper frm too (4 : Int) from by exact Or.inr ⟨by unfold inP; omega, by first | exact Or.inl ⟨rfl, hasL_no (q_26.elim (fun h => h.2) (fun h => absurd h.1 (by omega)))⟩ | exact Or.inr ⟨rfl, q_26.elim (fun h => absurd h.1 c_30) (fun h => ⟨_, h.1, h.2.1, h.2.2.1, h.2.2.2⟩)⟩⟩) hP hD hS
  · refine zz_iconst hx hb dX4_cutFault_15 ?_
    exact hret 1 () _ _ _ _ dX4_cutFault_16 (show cutF ports legs lower upper frm too (1 : Int) from by exact Or.inl ⟨rfl, by unfold inP; omega⟩) hP hD hS

set_option maxHeartbeats 4000000 in
set_option maxRecDepth 100000 in
theorem c_X4_cutLeg (l : Launch) (D : va_G) (tA : Nat → ClassId) (a0 a1 a2 a3 a4 a5 a6 a7 a8 a9 a10 a11 a12 a13 a14 a15 a16 a17 a18 a19 a20 a21 a22 : Nat) (sz : Nat) (ports : Int) (legs : Int) (lower : Int → Int) (upper : Int → Int) (leng : Int → Int) (reach : Int → Int) (meter : Int → Int) (cnt : Int) (strt : Int → Int) (goal : Int → Int) (money : Int → Int) (litN : Int → Int) (darkN : Int → Int) (rng : Int) (nights : Int) (fog : Int) (fund : Int) (refd : Int) (brt : Int) (shrt : Int → Int) (grp : Int → Int) (seen : Int → Int) (tp : Int → Int) (shr : Int → Int) (need : Int → Int) (ordr : Int → Int) (size : Int) (frm : Int) (too : Int) (r_frm : -2147483648 ≤ frm ∧ frm ≤ 2147483647) (r_too : -2147483648 ≤ too ∧ too ≤ 2147483647) (hch : ChV ports legs lower upper leng reach) (hex : hasL legs lower upper frm too) : zMi l yX4_cutLeg wsX4_cutLeg ({ frames := 2, cells := 0, slots := 0, locals := 44 }) D tA [.ref a0, .int (iI frm), .int (iI too)] (bOffice tA a0 a1 a2 a3 a4 a5 a6 a7 a8 a9 a10 a11 a12 a13 a14 a15 a16 a17 a18 a19 a20 a21 a22 ports legs lower upper leng reach meter cnt strt goal money litN darkN rng nights fog fund refd brt shrt grp seen tp shr need ordr size) sz (fun (z : Int) (u : (Int)) => (0 ≤ u ∧ u < legs ∧ lower u = min frm too ∧ upper u = max frm too) ∧ (z = leng u)) (fun (u : (Int)) => bOffice tA a0 a1 a2 a3 a4 a5 a6 a7 a8 a9 a10 a11 a12 a13 a14 a15 a16 a17 a18 a19 a20 a21 a22 ports (legs - 1) (dlf lower u legs) (dlf upper u legs) (dlf leng u legs) (dlf reach u legs) (dlf meter u legs) cnt strt goal money litN darkN rng nights fog fund refd brt shrt grp seen tp shr need ordr size) 0 0 := by
  refine zMi_of (cc := cX4_cutLeg) (maxL := 5) (by decide) rfl (fun z u h => rfl) (Nat.le_of_ble_eq_true rfl) ?_
  intro p e s m args below meth c A Q ls hx hb hml hts hown hK hP hD hA hret hl
  obtain ⟨H, hHe⟩ : ∃ H : Heap, H = s.heap := ⟨_, rfl⟩
  have hS : va_S A s.heap H [] := by rw [hHe]; exact va_S.rf
  rw [← hHe] at hP ⊢
  have hl : lv_has ls 5 [(0, .ref a0), (1, .int (iI frm)), (2, .int (iI too))] := hl
  have iX1 : ∀ v ∈ wsX10, v ∈ wsX4_cutLeg := by decide +kernel
  have iX4 : ∀ v ∈ wsX40, v ∈ wsX4_cutLeg := by decide +kernel
  have iX9 : ∀ v ∈ wsX90, v ∈ wsX4_cutLeg := by decide +kernel
  have f_12 := hts (.fieldLink RX4 12 "HarborLights$Office" "now" "LHarborLights$State;") (by decide +kernel)
  have f_32 := hts (.fieldLink RX4 32 "HarborLights$State" "chart" "LHarborLights$Chart;") (by decide +kernel)
  have f_57 := hts (.fieldLink RX4 57 "HarborLights$Chart" "length" "[I") (by decide +kernel)
  obtain ⟨vp0, vp1, vl0, vl1, -, -⟩ := id hch
  have Rlow : zRn legs lower := fun j j0 j1 => by have := hch.2.2.2.2.1 j j0 j1; omega
  have Rup : zRn legs upper := fun j j0 j1 => by have := hch.2.2.2.2.1 j j0 j1; omega
  refine lv_aload_n hx hb dX4_cutLeg_0 rfl (lv_at hl 0 rfl) ?_
  refine va_get (D := D) (ci := 6) (v := .ref a1) (C := RX4) (T := TX4) (N := 3) hx hb hts iX4 hown hK hP 0 rfl rfl 0 (by decide) f_12 (fun _ h9 => h9) rfl dX4_cutLeg_1 ?_
  refine va_get (D := D) (ci := 11) (v := .ref a2) (C := RX9) (T := TX9) (N := 8) hx hb hts iX9 hown hK hP 1 rfl rfl 0 (by decide) f_32 (fun _ h9 => h9) rfl dX4_cutLeg_4 ?_
  refine lv_iload_n hx hb dX4_cutLeg_7 rfl (lv_at hl 1 rfl) ?_
  refine lv_iload_n hx hb dX4_cutLeg_8 rfl (lv_at hl 2 rfl) ?_
  refine zz_callVi (As := [.int (iI frm), .int (iI too)]) (rest := []) (wf := fun u => bOffice tA a0 a1 a2 a3 a4 a5 a6 a7 a8 a9 a10 a11 a12 a13 a14 a15 a16 a17 a18 a19 a20 a21 a22 ports legs lower upper leng reach meter cnt strt goal money litN darkN rng nights fog fund refd brt shrt grp seen tp shr need ordr size) ⟨hx, hb, hml, hown, hts⟩ (c_X1_find l D tA a2 a3 a4 a5 a6 a7 H.size ports legs lower upper leng reach meter frm too (by first | assumption | omega) (by first | assumption | omega) (by first | assumption | omega) (by first | assumption | omega) (by first | assumption | omega)) (cwV 2 hts gX4_cutLeg_X1_find rfl rfl rfl (by decide +kernel) ⟨Nat.le_of_ble_eq_true rfl, Nat.le_of_ble_eq_true rfl⟩) hK hP hD hS hA [2, 3, 4, 5, 6, 7] [0, 1, 8, 9, 10, 11, 12, 13, 14, 15, 16, 17, 18, 19, 20, 21, 22] [0, 1, 17, 18, 19, 20, 21, 22, 2, 3, 4, 5, 6, 7, 8, 9, 10, 11, 12, 13, 14, 15, 16] rfl rfl (by decide) (by decide) (by decide) (by decide) (fun _ => rfl) (ci := 4) (q0 := 0) rfl rfl rfl rfl rfl hl.1 (Nat.le_of_ble_eq_true rfl) dX4_cutLeg_9 ⟨Nat.le_of_ble_eq_true rfl, Nat.le_of_ble_eq_true rfl⟩ ?_
  intro z9_1 u H locs p9_2 hP hD hS
  have hP : va_P D vwCl (bOffice tA a0 a1 a2 a3 a4 a5 a6 a7 a8 a9 a10 a11 a12 a13 a14 a15 a16 a17 a18 a19 a20 a21 a22 ports legs lower upper leng reach meter cnt strt goal money litN darkN rng nights fog fund refd brt shrt grp seen tp shr need ordr size) H := hP
  have hD : va_D A (bOffice tA a0 a1 a2 a3 a4 a5 a6 a7 a8 a9 a10 a11 a12 a13 a14 a15 a16 a17 a18 a19 a20 a21 a22 ports legs lower upper leng reach meter cnt strt goal money litN darkN rng nights fog fund refd brt shrt grp seen tp shr need ordr size) := hD
  have q_9 : (z9_1 = -1 ∧ (∀ j, 0 ≤ j → j < legs → ¬ (lower j = min frm too ∧ upper j = max frm too))) ∨ (0 ≤ z9_1 ∧ z9_1 < legs ∧ lower z9_1 = min frm too ∧ upper z9_1 = max frm too) := p9_2
  have hpl : 0 ≤ z9_1 ∧ z9_1 < legs ∧ lower z9_1 = min frm too ∧ upper z9_1 = max frm too := q_9.elim (fun h => absurd hex (hasL_no h.2)) (fun h => h)
  have hpz := hpl.1
  refine lv_istore_n (lv' := [(3, .int (iI z9_1)), (0, .ref a0), (1, .int (iI frm)), (2, .int (iI too))]) hx hb dX4_cutLeg_12 rfl hl (by decide) rfl (fun ls hl => ?_)
  refine lv_iload_n hx hb dX4_cutLeg_13 rfl (lv_at hl 0 rfl) ?_
  refine zz_iconst hx hb dX4_cutLeg_14 ?_
  refine zz_icmp_ne (tgt := 20) hx hb dX4_cutLeg_15 (by decide) (by omega) (by decide) (fun c_15 => ?_) (fun c_15 => ?_)
  · refine lv_aload_n hx hb dX4_cutLeg_20 rfl (lv_at hl 1 rfl) ?_
    refine va_get (D := D) (ci := 6) (v := .ref a1) (C := RX4) (T := TX4) (N := 3) hx hb hts iX4 hown hK hP 0 rfl rfl 0 (by decide) f_12 (fun _ h9 => h9) rfl dX4_cutLeg_21 ?_
    refine va_get (D := D) (ci := 11) (v := .ref a2) (C := RX9) (T := TX9) (N := 8) hx hb hts iX9 hown hK hP 1 rfl rfl 0 (by decide) f_32 (fun _ h9 => h9) rfl dX4_cutLeg_24 ?_
    refine va_get (D := D) (ci := 4) (v := .ref a5) (C := RX1) (T := TX1) (N := 7) hx hb hts iX1 hown hK hP 2 rfl rfl 4 (by decide) f_57 (fun _ h9 => h9) rfl dX4_cutLeg_27 ?_
    refine lv_iload_n hx hb dX4_cutLeg_30 rfl (lv_at hl 0 rfl) ?_
    refine zz_iald hx hb hK hP 5 rfl (by decide) (by omega) dX4_cutLeg_31 ?_
    have r_31 := hch.2.2.2.2.1 z9_1 (by omega) (by omega)
    refine lv_istore (lv' := [(4, .int (iI (leng z9_1))), (3, .int (iI z9_1)), (0, .ref a0), (1, .int (iI frm)), (2, .int (iI too))]) hx hb dX4_cutLeg_32 hl (by decide) rfl (fun ls hl => ?_)
    refine lv_aload_n hx hb dX4_cutLeg_34 rfl (lv_at hl 2 rfl) ?_
    refine va_get (D := D) (ci := 6) (v := .ref a1) (C := RX4) (T := TX4) (N := 3) hx hb hts iX4 hown hK hP 0 rfl rfl 0 (by decide) f_12 (fun _ h9 => h9) rfl dX4_cutLeg_35 ?_
    refine va_get (D := D) (ci := 11) (v := .ref a2) (C := RX9) (T := TX9) (N := 8) hx hb hts iX9 hown hK hP 1 rfl rfl 0 (by decide) f_32 (fun _ h9 => h9) rfl dX4_cutLeg_38 ?_
    refine lv_iload_n hx hb dX4_cutLeg_41 rfl (lv_at hl 1 rfl) ?_
    refine zz_callVv (As := [.int (iI z9_1)]) (rest := []) (wf := fun u => bOffice tA a0 a1 a2 a3 a4 a5 a6 a7 a8 a9 a10 a11 a12 a13 a14 a15 a16 a17 a18 a19 a20 a21 a22 ports (legs - 1) (dlf lower z9_1 legs) (dlf upper z9_1 legs) (dlf leng z9_1 legs) (dlf reach z9_1 legs) (dlf meter z9_1 legs) cnt strt goal money litN darkN rng nights fog fund refd brt shrt grp seen tp shr need ordr size) ⟨hx, hb, hml, hown, hts⟩ (c_X1_delete l D tA a2 a3 a4 a5 a6 a7 H.size ports legs lower upper leng reach meter z9_1 (by first | assumption | omega) (by first | assumption | omega) (by first | assumption | omega)) (cwV 1 hts gX4_cutLeg_X1_delete rfl rfl rfl (by decide +kernel) ⟨Nat.le_of_ble_eq_true rfl, Nat.le_of_ble_eq_true rfl⟩) hK hP hD hS hA [2, 3, 4, 5, 6, 7] [0, 1, 8, 9, 10, 11, 12, 13, 14, 15, 16, 17, 18, 19, 20, 21, 22] [0, 1, 17, 18, 19, 20, 21, 22, 2, 3, 4, 5, 6, 7, 8, 9, 10, 11, 12, 13, 14, 15, 16] rfl rfl (by decide) (by decide) (by decide) (by decide) (fun _ => rfl) (ci := 4) (q0 := 0) rfl rfl rfl rfl rfl hl.1 (Nat.le_of_ble_eq_true rfl) dX4_cutLeg_42 ⟨Nat.le_of_ble_eq_true rfl, Nat.le_of_ble_eq_true rfl⟩ ?_
    intro u H locs p42_3 hP hD hS
    have hP : va_P D vwCl (bOffice tA a0 a1 a2 a3 a4 a5 a6 a7 a8 a9 a10 a11 a12 a13 a14 a15 a16 a17 a18 a19 a20 a21 a22 ports (legs - 1) (dlf lower z9_1 legs) (dlf upper z9_1 legs) (dlf leng z9_1 legs) (dlf reach z9_1 legs) (dlf meter z9_1 legs) cnt strt goal money litN darkN rng nights fog fund refd brt shrt grp seen tp shr need ordr size) H := hP
    have hD : va_D A (bOffice tA a0 a1 a2 a3 a4 a5 a6 a7 a8 a9 a10 a11 a12 a13 a14 a15 a16 a17 a18 a19 a20 a21 a22 ports (legs - 1) (dlf lower z9_1 legs) (dlf upper z9_1 legs) (dlf leng z9_1 legs) (dlf reach z9_1 legs) (dlf meter z9_1 legs) cnt strt goal money litN darkN rng nights fog fund refd brt shrt grp seen tp shr need ordr size) := hD
    refine lv_iload hx hb dX4_cutLeg_45 (lv_at hl 0 rfl) ?_
    exact hret (leng z9_1) z9_1 _ _ _ _ dX4_cutLeg_47 ⟨(show 0 ≤ z9_1 ∧ z9_1 < legs ∧ lower z9_1 = min frm too ∧ upper z9_1 = max frm too from by exact hpl), (show (leng z9_1) = leng z9_1 from by rfl)⟩ hP hD hS
  · exact absurd c_15 (by omega)

set_option maxHeartbeats 4000000 in
set_option maxRecDepth 100000 in
theorem c_X4_shipFault (l : Launch) (D : va_G) (tA : Nat → ClassId) (a0 a1 a2 a3 a4 a5 a6 a7 a8 a9 a10 a11 a12 a13 a14 a15 a16 a17 a18 a19 a20 a21 a22 : Nat) (sz : Nat) (ports : Int) (legs : Int) (lower : Int → Int) (upper : Int → Int) (leng : Int → Int) (reach : Int → Int) (meter : Int → Int) (cnt : Int) (strt : Int → Int) (goal : Int → Int) (money : Int → Int) (litN : Int → Int) (darkN : Int → Int) (rng : Int) (nights : Int) (fog : Int) (fund : Int) (refd : Int) (brt : Int) (shrt : Int → Int) (grp : Int → Int) (seen : Int → Int) (tp : Int → Int) (shr : Int → Int) (need : Int → Int) (ordr : Int → Int) (size : Int) (frm : Int) (too : Int) (mny : Int) (r_frm : -2147483648 ≤ frm ∧ frm ≤ 2147483647) (r_too : -2147483648 ≤ too ∧ too ≤ 2147483647) (r_mny : -2147483648 ≤ mny ∧ mny ≤ 2147483647) (hch : ChV ports legs lower upper leng reach) (hc : 0 ≤ cnt ∧ cnt ≤ 6) : zMi l yX4_shipFault wsX4_shipFault ({ frames := 2, cells := 0, slots := 0, locals := 49 }) D tA [.ref a0, .int (iI frm), .int (iI too), .int (iI mny)] (bOffice tA a0 a1 a2 a3 a4 a5 a6 a7 a8 a9 a10 a11 a12 a13 a14 a15 a16 a17 a18 a19 a20 a21 a22 ports legs lower upper leng reach meter cnt strt goal money litN darkN rng nights fog fund refd brt shrt grp seen tp shr need ordr size) sz (fun (z : Int) (u : (Int → Int)) => (shipF ports cnt (eg legs lower upper leng reach) frm too mny z)) (fun (u : (Int → Int)) => bOffice tA a0 a1 a2 a3 a4 a5 a6 a7 a8 a9 a10 a11 a12 a13 a14 a15 a16 a17 a18 a19 a20 a21 a22 ports legs lower upper leng reach meter cnt strt goal money litN darkN rng nights fog fund refd brt shrt u seen tp shr need ordr size) 0 0 := by
  refine zMi_of (cc := cX4_shipFault) (maxL := 4) (by decide) rfl (fun z u h => rfl) (Nat.le_of_ble_eq_true rfl) ?_
  intro p e s m args below meth c A Q ls hx hb hml hts hown hK hP hD hA hret hl
  obtain ⟨H, hHe⟩ : ∃ H : Heap, H = s.heap := ⟨_, rfl⟩
  have hS : va_S A s.heap H [] := by rw [hHe]; exact va_S.rf
  rw [← hHe] at hP ⊢
  have hl : lv_has ls 4 [(0, .ref a0), (1, .int (iI frm)), (2, .int (iI too)), (3, .int (iI mny))] := hl
  have iX4 : ∀ v ∈ wsX40, v ∈ wsX4_shipFault := by decide +kernel
  have iX8 : ∀ v ∈ wsX80, v ∈ wsX4_shipFault := by decide +kernel
  have iX9 : ∀ v ∈ wsX90, v ∈ wsX4_shipFault := by decide +kernel
  have f_12 := hts (.fieldLink RX4 12 "HarborLights$Office" "now" "LHarborLights$State;") (by decide +kernel)
  have f_21 := hts (.fieldLink RX4 21 "HarborLights$Office" "routes" "LHarborLights$Routes;") (by decide +kernel)
  have f_32 := hts (.fieldLink RX4 32 "HarborLights$State" "chart" "LHarborLights$Chart;") (by decide +kernel)
  have f_65 := hts (.fieldLink RX4 65 "HarborLights$State" "ships" "LHarborLights$Ships;") (by decide +kernel)
  have f_69 := hts (.fieldLink RX4 69 "HarborLights$Ships" "count" "I") (by decide +kernel)
  obtain ⟨vp0, vp1, vl0, vl1, -, -⟩ := id hch
  refine lv_aload_n hx hb dX4_shipFault_0 rfl (lv_at hl 0 rfl) ?_
  refine va_get (D := D) (ci := 6) (v := .ref a1) (C := RX4) (T := TX4) (N := 3) hx hb hts iX4 hown hK hP 0 rfl rfl 0 (by decide) f_12 (fun _ h9 => h9) rfl dX4_shipFault_1 ?_
  refine va_get (D := D) (ci := 11) (v := .ref a2) (C := RX9) (T := TX9) (N := 8) hx hb hts iX9 hown hK hP 1 rfl rfl 0 (by decide) f_32 (fun _ h9 => h9) rfl dX4_shipFault_4 ?_
  refine lv_iload_n hx hb dX4_shipFault_7 rfl (lv_at hl 1 rfl) ?_
  refine lv_iload_n hx hb dX4_shipFault_8 rfl (lv_at hl 2 rfl) ?_
  refine zz_callVi (As := [.int (iI frm), .int (iI too)]) (rest := []) (wf := fun u => bOffice tA a0 a1 a2 a3 a4 a5 a6 a7 a8 a9 a10 a11 a12 a13 a14 a15 a16 a17 a18 a19 a20 a21 a22 ports legs lower upper leng reach meter cnt strt goal money litN darkN rng nights fog fund refd brt shrt grp seen tp shr need ordr size) ⟨hx, hb, hml, hown, hts⟩ (c_X1_hasPorts l D tA a2 a3 a4 a5 a6 a7 H.size ports legs lower upper leng reach meter frm too (by first | assumption | omega) (by first | assumption | omega) (by first | assumption | omega)) (cwV 2 hts gX4_shipFault_X1_hasPorts rfl rfl rfl (by decide +kernel) ⟨Nat.le_of_ble_eq_true rfl, Nat.le_of_ble_eq_true rfl⟩) hK hP hD hS hA [2, 3, 4, 5, 6, 7] [0, 1, 8, 9, 10, 11, 12, 13, 14, 15, 16, 17, 18, 19, 20, 21, 22] [0, 1, 17, 18, 19, 20, 21, 22, 2, 3, 4, 5, 6, 7, 8, 9, 10, 11, 12, 13, 14, 15, 16] rfl rfl (by decide) (by decide) (by decide) (by decide) (fun _ => rfl) (ci := 4) (q0 := 0) rfl rfl rfl rfl rfl hl.1 (Nat.le_of_ble_eq_true rfl) dX4_shipFault_9 ⟨Nat.le_of_ble_eq_true rfl, Nat.le_of_ble_eq_true rfl⟩ ?_
  intro z9_1 u H locs p9_2 hP hD hS
  have hP : va_P D vwCl (bOffice tA a0 a1 a2 a3 a4 a5 a6 a7 a8 a9 a10 a11 a12 a13 a14 a15 a16 a17 a18 a19 a20 a21 a22 ports legs lower upper leng reach meter cnt strt goal money litN darkN rng nights fog fund refd brt shrt grp seen tp shr need ordr size) H := hP
  have hD : va_D A (bOffice tA a0 a1 a2 a3 a4 a5 a6 a7 a8 a9 a10 a11 a12 a13 a14 a15 a16 a17 a18 a19 a20 a21 a22 ports legs lower upper leng reach meter cnt strt goal money litN darkN rng nights fog fund refd brt shrt grp seen tp shr need ordr size) := hD
  have q_9 : (z9_1 = 1 ∧ 0 ≤ frm ∧ frm < ports ∧ 0 ≤ too ∧ too < ports) ∨ (z9_1 = 0 ∧ ¬ (0 ≤ frm ∧ frm < ports ∧ 0 ≤ too ∧ too < ports)) := p9_2
  refine zz_if_ne (tgt := 17) hx hb dX4_shipFault_12 (by decide) (by omega) (fun c_12 => ?_) (fun c_12 => ?_)
  · refine lv_iload_n hx hb dX4_shipFault_17 rfl (lv_at hl 1 rfl) ?_
    refine lv_iload_n hx hb dX4_shipFault_18 rfl (lv_at hl 2 rfl) ?_
    refine zz_icmp_eq (tgt := 33) hx hb dX4_shipFault_19 (by decide) (by omega) (by omega) (fun c_19 => ?_) (fun c_19 => ?_)
    · refine zz_iconst hx hb dX4_shipFault_33 ?_
      exact hret 2 grp _ _ _ _ dX4_shipFault_34 (show shipF ports cnt (eg legs lower upper leng reach) frm too mny (2 : Int) from by exact Or.inr ⟨by unfold inP; omega, Or.inl ⟨rfl, by omega⟩⟩) hP hD hS
    · refine lv_iload_n hx hb dX4_shipFault_22 rfl (lv_at hl 3 rfl) ?_
      refine zz_if_lt (tgt := 33) hx hb dX4_shipFault_23 (by decide) (by omega) (fun c_23 => ?_) (fun c_23 => ?_)
      · refine zz_iconst hx hb dX4_shipFault_33 ?_
        exact hret 2 grp _ _ _ _ dX4_shipFault_34 (show shipF ports cnt (eg legs lower upper leng reach) frm too mny (2 : Int) from by exact Or.inr ⟨by unfold inP; omega, Or.inl ⟨rfl, by omega⟩⟩) hP hD hS
      · refine lv_iload_n hx hb dX4_shipFault_26 rfl (lv_at hl 3 rfl) ?_
        refine zz_sipush hx hb dX4_shipFault_27 (by decide) ?_
        refine zz_icmp_le (tgt := 35) hx hb dX4_shipFault_30 (by decide) (by omega) (by decide) (fun c_30 => ?_) (fun c_30 => ?_)
        · refine lv_aload_n hx hb dX4_shipFault_35 rfl (lv_at hl 0 rfl) ?_
          refine va_get (D := D) (ci := 6) (v := .ref a1) (C := RX4) (T := TX4) (N := 3) hx hb hts iX4 hown hK hP 0 rfl rfl 0 (by decide) f_12 (fun _ h9 => h9) rfl dX4_shipFault_36 ?_
          refine va_get (D := D) (ci := 11) (v := .ref a8) (C := RX9) (T := TX9) (N := 8) hx hb hts iX9 hown hK hP 1 rfl rfl 1 (by decide) f_65 (fun _ h9 => h9) rfl dX4_shipFault_39 ?_
          refine va_get (D := D) (ci := 10) (v := .int (iI cnt)) (C := RX8) (T := TX8) (N := 6) hx hb hts iX8 hown hK hP 8 rfl rfl 0 (by decide) f_69 (fun _ h9 => h9) rfl dX4_shipFault_42 ?_
          refine zz_bipush hx hb dX4_shipFault_45 (by decide) ?_
          refine zz_icmp_lt (tgt := 52) hx hb dX4_shipFault_47 (by decide) (by omega) (by decide) (fun c_47 => ?_) (fun c_47 => ?_)
          · refine lv_aload_n hx hb dX4_shipFault_52 rfl (lv_at hl 0 rfl) ?_
            refine va_get (D := D) (ci := 6) (v := .ref a14) (C := RX4) (T := TX4) (N := 3) hx hb hts iX4 hown hK hP 0 rfl rfl 1 (by decide) f_21 (fun _ h9 => h9) rfl dX4_shipFault_53 ?_
            refine lv_aload_n hx hb dX4_shipFault_56 rfl (lv_at hl 0 rfl) ?_
            refine va_get (D := D) (ci := 6) (v := .ref a1) (C := RX4) (T := TX4) (N := 3) hx hb hts iX4 hown hK hP 0 rfl rfl 0 (by decide) f_12 (fun _ h9 => h9) rfl dX4_shipFault_57 ?_
            refine va_get (D := D) (ci := 11) (v := .ref a2) (C := RX9) (T := TX9) (N := 8) hx hb hts iX9 hown hK hP 1 rfl rfl 0 (by decide) f_32 (fun _ h9 => h9) rfl dX4_shipFault_60 ?_
            refine lv_iload_n hx hb dX4_shipFault_63 rfl (lv_at hl 1 rfl) ?_
            refine lv_iload_n hx hb dX4_shipFault_64 rfl (lv_at hl 2 rfl) ?_
            refine zz_callVi (As := [.ref a2, .int (iI frm), .int (iI too)]) (rest := []) (wf := fun u => bOffice tA a0 a1 a2 a3 a4 a5 a6 a7 a8 a9 a10 a11 a12 a13 a14 a15 a16 a17 a18 a19 a20 a21 a22 ports legs lower upper leng reach meter cnt strt goal money litN darkN rng nights fog fund refd brt shrt u seen tp shr need ordr size) ⟨hx, hb, hml, hown, hts⟩ (c_X5_needByJoining l D tA a14 a15 a16 a17 a2 a3 a4 a5 a6 a7 H.size shrt grp seen ports legs lower upper leng reach meter frm too (by first | assumption | omega) (by first | assumption | omega) (by first | assumption | omega) (by first | assumption | omega) (by first | assumption | omega) (by first | assumption | omega)) (cwV 3 hts gX4_shipFault_X5_needByJoining rfl rfl rfl (by decide +kernel) ⟨Nat.le_of_ble_eq_true rfl, Nat.le_of_ble_eq_true rfl⟩) hK hP hD hS hA [14, 15, 16, 17, 2, 3, 4, 5, 6, 7] [0, 1, 8, 9, 10, 11, 12, 13, 18, 19, 20, 21, 22] [0, 1, 17, 18, 19, 20, 21, 22, 2, 3, 4, 5, 6, 7, 13, 14, 15, 16, 8, 9, 10, 11, 12] rfl rfl (by decide) (by decide) (by decide) (by decide) (fun _ => rfl) (ci := 7) (q0 := 0) rfl rfl rfl rfl rfl hl.1 (Nat.le_of_ble_eq_true rfl) dX4_shipFault_65 ⟨Nat.le_of_ble_eq_true rfl, Nat.le_of_ble_eq_true rfl⟩ ?_
            intro z65_4 u H locs p65_5 hP hD hS
            obtain ⟨grp_3, rfl⟩ : ∃ q, q = u := ⟨_, rfl⟩
            have hP : va_P D vwCl (bOffice tA a0 a1 a2 a3 a4 a5 a6 a7 a8 a9 a10 a11 a12 a13 a14 a15 a16 a17 a18 a19 a20 a21 a22 ports legs lower upper leng reach meter cnt strt goal money litN darkN rng nights fog fund refd brt shrt grp_3 seen tp shr need ordr size) H := hP
            have hD : va_D A (bOffice tA a0 a1 a2 a3 a4 a5 a6 a7 a8 a9 a10 a11 a12 a13 a14 a15 a16 a17 a18 a19 a20 a21 a22 ports legs lower upper leng reach meter cnt strt goal money litN darkN rng nights fog fund refd brt shrt grp_3 seen tp shr need ordr size) := hD
            have qn_65 : needP (eg legs lower upper leng reach) frm too z65_4 := p65_5
            have hni := needP_in qn_65
            refine zz_iconst hx hb dX4_shipFault_68 ?_
            refine zz_icmp_ne (tgt := 76) hx hb dX4_shipFault_69 (by decide) (by omega) (by decide) (fun c_69 => ?_) (fun c_69 => ?_)
            · refine zz_iconst hx hb dX4_shipFault_76 ?_
              exact hret 0 grp_3 _ _ _ _ dX4_shipFault_77 (show shipF ports cnt (eg legs lower upper leng reach) frm too mny (0 : Int) from by exact Or.inr ⟨by unfold inP; omega, Or.inr ⟨by omega, Or.inr ⟨by omega, by first | exact Or.inl ⟨rfl, by rw [← c_69]; exact qn_65⟩ | exact Or.inr ⟨rfl, _, c_69, qn_65⟩⟩⟩⟩) hP hD hS
            · refine zz_iconst hx hb dX4_shipFault_72 ?_
              refine lv_goto (tgt := 77) hx hb dX4_shipFault_73 (by decide) ?_
              exact hret 5 grp_3 _ _ _ _ dX4_shipFault_77 (show shipF ports cnt (eg legs lower upper leng reach) frm too mny (5 : Int) from by exact Or.inr ⟨by unfold inP; omega, Or.inr ⟨by omega, Or.inr ⟨by omega, by first | exact Or.inl ⟨rfl, by rw [← c_69]; exact qn_65⟩ | exact Or.inr ⟨rfl, _, c_69, qn_65⟩⟩⟩⟩) hP hD hS
          · refine zz_iconst hx hb dX4_shipFault_50 ?_
            exact hret 3 grp _ _ _ _ dX4_shipFault_51 (show shipF ports cnt (eg legs lower upper leng reach) frm too mny (3 : Int) from by exact Or.inr ⟨by unfold inP; omega, Or.inr ⟨by omega, Or.inl ⟨rfl, by omega⟩⟩⟩) hP hD hS
        · refine zz_iconst hx hb dX4_shipFault_33 ?_
          exact hret 2 grp _ _ _ _ dX4_shipFault_34 (show shipF ports cnt (eg legs lower upper leng reach) frm too mny (2 : Int) from by exact Or.inr ⟨by unfold inP; omega, Or.inl ⟨rfl, by omega⟩⟩) hP hD hS
  · refine zz_iconst hx hb dX4_shipFault_15 ?_
    exact hret 1 grp _ _ _ _ dX4_shipFault_16 (show shipF ports cnt (eg legs lower upper leng reach) frm too mny (1 : Int) from by exact Or.inl ⟨rfl, by unfold inP; omega⟩) hP hD hS

set_option maxHeartbeats 4000000 in
set_option maxRecDepth 100000 in
theorem c_X4_putShip (l : Launch) (D : va_G) (tA : Nat → ClassId) (a0 a1 a2 a3 a4 a5 a6 a7 a8 a9 a10 a11 a12 a13 a14 a15 a16 a17 a18 a19 a20 a21 a22 : Nat) (sz : Nat) (ports : Int) (legs : Int) (lower : Int → Int) (upper : Int → Int) (leng : Int → Int) (reach : Int → Int) (meter : Int → Int) (cnt : Int) (strt : Int → Int) (goal : Int → Int) (money : Int → Int) (litN : Int → Int) (darkN : Int → Int) (rng : Int) (nights : Int) (fog : Int) (fund : Int) (refd : Int) (brt : Int) (shrt : Int → Int) (grp : Int → Int) (seen : Int → Int) (tp : Int → Int) (shr : Int → Int) (need : Int → Int) (ordr : Int → Int) (size : Int) (x : Int) (y : Int) (w : Int) (r_x : -2147483648 ≤ x ∧ x ≤ 2147483647) (r_y : -2147483648 ≤ y ∧ y ≤ 2147483647) (r_w : -2147483648 ≤ w ∧ w ≤ 2147483647) (hc : 0 ≤ cnt ∧ cnt < 6) : zMi l yX4_putShip wsX4_putShip ({ frames := 1, cells := 0, slots := 0, locals := 23 }) D tA [.ref a0, .int (iI x), .int (iI y), .int (iI w)] (bOffice tA a0 a1 a2 a3 a4 a5 a6 a7 a8 a9 a10 a11 a12 a13 a14 a15 a16 a17 a18 a19 a20 a21 a22 ports legs lower upper leng reach meter cnt strt goal money litN darkN rng nights fog fund refd brt shrt grp seen tp shr need ordr size) sz (fun (z : Int) (u : Unit) => (z = cnt)) (fun (u : Unit) => bOffice tA a0 a1 a2 a3 a4 a5 a6 a7 a8 a9 a10 a11 a12 a13 a14 a15 a16 a17 a18 a19 a20 a21 a22 ports legs lower upper leng reach meter (cnt + 1) (zU strt cnt x) (zU goal cnt y) (zU money cnt w) (zU litN cnt 0) (zU darkN cnt 0) rng nights fog fund refd (brt + w) shrt grp seen tp shr need ordr size) 0 0 := by
  refine zMi_of (cc := cX4_putShip) (maxL := 5) (by decide) rfl (fun z u h => rfl) (Nat.le_of_ble_eq_true rfl) ?_
  intro p e s m args below meth c A Q ls hx hb hml hts hown hK hP hD hA hret hl
  obtain ⟨H, hHe⟩ : ∃ H : Heap, H = s.heap := ⟨_, rfl⟩
  have hS : va_S A s.heap H [] := by rw [hHe]; exact va_S.rf
  rw [← hHe] at hP ⊢
  have hl : lv_has ls 5 [(0, .ref a0), (1, .int (iI x)), (2, .int (iI y)), (3, .int (iI w))] := hl
  have iX4 : ∀ v ∈ wsX40, v ∈ wsX4_putShip := by decide +kernel
  have iX8 : ∀ v ∈ wsX80, v ∈ wsX4_putShip := by decide +kernel
  have iX9 : ∀ v ∈ wsX90, v ∈ wsX4_putShip := by decide +kernel
  have f_12 := hts (.fieldLink RX4 12 "HarborLights$Office" "now" "LHarborLights$State;") (by decide +kernel)
  have f_65 := hts (.fieldLink RX4 65 "HarborLights$State" "ships" "LHarborLights$Ships;") (by decide +kernel)
  have f_69 := hts (.fieldLink RX4 69 "HarborLights$Ships" "count" "I") (by decide +kernel)
  have f_82 := hts (.fieldLink RX4 82 "HarborLights$State" "broughtIn" "J") (by decide +kernel)
  refine lv_aload_n hx hb dX4_putShip_0 rfl (lv_at hl 0 rfl) ?_
  refine va_get (D := D) (ci := 6) (v := .ref a1) (C := RX4) (T := TX4) (N := 3) hx hb hts iX4 hown hK hP 0 rfl rfl 0 (by decide) f_12 (fun _ h9 => h9) rfl dX4_putShip_1 ?_
  refine va_get (D := D) (ci := 11) (v := .ref a8) (C := RX9) (T := TX9) (N := 8) hx hb hts iX9 hown hK hP 1 rfl rfl 1 (by decide) f_65 (fun _ h9 => h9) rfl dX4_putShip_4 ?_
  refine va_get (D := D) (ci := 10) (v := .int (iI cnt)) (C := RX8) (T := TX8) (N := 6) hx hb hts iX8 hown hK hP 8 rfl rfl 0 (by decide) f_69 (fun _ h9 => h9) rfl dX4_putShip_7 ?_
  refine lv_istore (lv' := [(4, .int (iI cnt)), (0, .ref a0), (1, .int (iI x)), (2, .int (iI y)), (3, .int (iI w))]) hx hb dX4_putShip_10 hl (by decide) rfl (fun ls hl => ?_)
  refine lv_aload_n hx hb dX4_putShip_12 rfl (lv_at hl 1 rfl) ?_
  refine va_get (D := D) (ci := 6) (v := .ref a1) (C := RX4) (T := TX4) (N := 3) hx hb hts iX4 hown hK hP 0 rfl rfl 0 (by decide) f_12 (fun _ h9 => h9) rfl dX4_putShip_13 ?_
  refine va_get (D := D) (ci := 11) (v := .ref a8) (C := RX9) (T := TX9) (N := 8) hx hb hts iX9 hown hK hP 1 rfl rfl 1 (by decide) f_65 (fun _ h9 => h9) rfl dX4_putShip_16 ?_
  refine lv_iload_n hx hb dX4_putShip_19 rfl (lv_at hl 2 rfl) ?_
  refine lv_iload_n hx hb dX4_putShip_20 rfl (lv_at hl 3 rfl) ?_
  refine lv_iload_n hx hb dX4_putShip_21 rfl (lv_at hl 4 rfl) ?_
  refine zz_callVv (As := [.int (iI x), .int (iI y), .int (iI w)]) (rest := []) (wf := fun u => bOffice tA a0 a1 a2 a3 a4 a5 a6 a7 a8 a9 a10 a11 a12 a13 a14 a15 a16 a17 a18 a19 a20 a21 a22 ports legs lower upper leng reach meter (cnt + 1) (zU strt cnt x) (zU goal cnt y) (zU money cnt w) (zU litN cnt 0) (zU darkN cnt 0) rng nights fog fund refd brt shrt grp seen tp shr need ordr size) ⟨hx, hb, hml, hown, hts⟩ (c_X8_add l D tA a8 a9 a10 a11 a12 a13 H.size cnt strt goal money litN darkN x y w (by first | assumption | omega) (by first | assumption | omega) (by first | assumption | omega) (by first | assumption | omega)) (cwV 3 hts gX4_putShip_X8_add rfl rfl rfl (by decide +kernel) ⟨Nat.le_of_ble_eq_true rfl, Nat.le_of_ble_eq_true rfl⟩) hK hP hD hS hA [8, 9, 10, 11, 12, 13] [0, 1, 2, 3, 4, 5, 6, 7, 14, 15, 16, 17, 18, 19, 20, 21, 22] [0, 1, 2, 3, 4, 5, 6, 7, 17, 18, 19, 20, 21, 22, 8, 9, 10, 11, 12, 13, 14, 15, 16] rfl rfl (by decide) (by decide) (by decide) (by decide) (fun _ => rfl) (ci := 10) (q0 := 0) rfl rfl rfl rfl rfl hl.1 (Nat.le_of_ble_eq_true rfl) dX4_putShip_22 ⟨Nat.le_of_ble_eq_true rfl, Nat.le_of_ble_eq_true rfl⟩ ?_
  intro u H locs p22_1 hP hD hS
  have hP : va_P D vwCl (bOffice tA a0 a1 a2 a3 a4 a5 a6 a7 a8 a9 a10 a11 a12 a13 a14 a15 a16 a17 a18 a19 a20 a21 a22 ports legs lower upper leng reach meter (cnt + 1) (zU strt cnt x) (zU goal cnt y) (zU money cnt w) (zU litN cnt 0) (zU darkN cnt 0) rng nights fog fund refd brt shrt grp seen tp shr need ordr size) H := hP
  have hD : va_D A (bOffice tA a0 a1 a2 a3 a4 a5 a6 a7 a8 a9 a10 a11 a12 a13 a14 a15 a16 a17 a18 a19 a20 a21 a22 ports legs lower upper leng reach meter (cnt + 1) (zU strt cnt x) (zU goal cnt y) (zU money cnt w) (zU litN cnt 0) (zU darkN cnt 0) rng nights fog fund refd brt shrt grp seen tp shr need ordr size) := hD
  refine lv_aload_n hx hb dX4_putShip_25 rfl (lv_at hl 1 rfl) ?_
  refine va_get (D := D) (ci := 6) (v := .ref a1) (C := RX4) (T := TX4) (N := 3) hx hb hts iX4 hown hK hP 0 rfl rfl 0 (by decide) f_12 (fun _ h9 => h9) rfl dX4_putShip_26 ?_
  refine lv_dup hx hb dX4_putShip_29 rfl ?_
  refine va_get (D := D) (ci := 11) (v := .long (lI brt)) (C := RX9) (T := TX9) (N := 8) hx hb hts iX9 hown hK hP 1 rfl rfl 7 (by decide) f_82 (fun _ h9 => h9) rfl dX4_putShip_30 ?_
  refine lv_iload_n hx hb dX4_putShip_33 rfl (lv_at hl 4 rfl) ?_
  refine zz_i2l hx hb dX4_putShip_34 (by omega) ?_
  refine zz_ladd hx hb dX4_putShip_35 ?_
  refine va_put (D := D) (ci := 11) (v := .long (lI (brt + w))) (ty := .long) (C := RX9) (T := TX9) (N := 8) hx hb hts iX9 tyX9 tyX9_ok nmX9 hown hK hP hD hS 1 rfl rfl 7 (by decide) f_82 (fun _ h9 => h9) rfl (by decide +kernel) rfl rfl (Nat.le_of_ble_eq_true rfl) dX4_putShip_36 (fun H locs hP hD hS => ?_)
  have hP : va_P D vwCl (bOffice tA a0 a1 a2 a3 a4 a5 a6 a7 a8 a9 a10 a11 a12 a13 a14 a15 a16 a17 a18 a19 a20 a21 a22 ports legs lower upper leng reach meter (cnt + 1) (zU strt cnt x) (zU goal cnt y) (zU money cnt w) (zU litN cnt 0) (zU darkN cnt 0) rng nights fog fund refd (brt + w) shrt grp seen tp shr need ordr size) H := hP
  have hD : va_D A (bOffice tA a0 a1 a2 a3 a4 a5 a6 a7 a8 a9 a10 a11 a12 a13 a14 a15 a16 a17 a18 a19 a20 a21 a22 ports legs lower upper leng reach meter (cnt + 1) (zU strt cnt x) (zU goal cnt y) (zU money cnt w) (zU litN cnt 0) (zU darkN cnt 0) rng nights fog fund refd (brt + w) shrt grp seen tp shr need ordr size) := hD
  refine lv_iload hx hb dX4_putShip_39 (lv_at hl 0 rfl) ?_
  exact hret cnt () _ _ _ _ dX4_putShip_41 (show cnt = cnt from by omega) hP hD hS

set_option maxHeartbeats 4000000 in
set_option maxRecDepth 100000 in
theorem c_X4_leaveFault (l : Launch) (D : va_G) (tA : Nat → ClassId) (a0 a1 a2 a3 a4 a5 a6 a7 a8 a9 a10 a11 a12 a13 a14 a15 a16 a17 a18 a19 a20 a21 a22 : Nat) (sz : Nat) (ports : Int) (legs : Int) (lower : Int → Int) (upper : Int → Int) (leng : Int → Int) (reach : Int → Int) (meter : Int → Int) (cnt : Int) (strt : Int → Int) (goal : Int → Int) (money : Int → Int) (litN : Int → Int) (darkN : Int → Int) (rng : Int) (nights : Int) (fog : Int) (fund : Int) (refd : Int) (brt : Int) (shrt : Int → Int) (grp : Int → Int) (seen : Int → Int) (tp : Int → Int) (shr : Int → Int) (need : Int → Int) (ordr : Int → Int) (size : Int) (ship : Int) (r_ship : -2147483648 ≤ ship ∧ ship ≤ 2147483647) (hc : 0 ≤ cnt ∧ cnt ≤ 6) : zMi l yX4_leaveFault wsX4_leaveFault ({ frames := 1, cells := 0, slots := 0, locals := 21 }) D tA [.ref a0, .int (iI ship)] (bOffice tA a0 a1 a2 a3 a4 a5 a6 a7 a8 a9 a10 a11 a12 a13 a14 a15 a16 a17 a18 a19 a20 a21 a22 ports legs lower upper leng reach meter cnt strt goal money litN darkN rng nights fog fund refd brt shrt grp seen tp shr need ordr size) sz (fun (z : Int) (u : Unit) => ((z = 0 ∧ 0 ≤ ship ∧ ship < cnt) ∨ (z = 1 ∧ ¬ (0 ≤ ship ∧ ship < cnt)))) (fun (u : Unit) => bOffice tA a0 a1 a2 a3 a4 a5 a6 a7 a8 a9 a10 a11 a12 a13 a14 a15 a16 a17 a18 a19 a20 a21 a22 ports legs lower upper leng reach meter cnt strt goal money litN darkN rng nights fog fund refd brt shrt grp seen tp shr need ordr size) 0 0 := by
  refine zMi_of (cc := cX4_leaveFault) (maxL := 2) (by decide) rfl (fun z u h => rfl) (Nat.le_of_ble_eq_true rfl) ?_
  intro p e s m args below meth c A Q ls hx hb hml hts hown hK hP hD hA hret hl
  obtain ⟨H, hHe⟩ : ∃ H : Heap, H = s.heap := ⟨_, rfl⟩
  have hS : va_S A s.heap H [] := by rw [hHe]; exact va_S.rf
  rw [← hHe] at hP ⊢
  have hl : lv_has ls 2 [(0, .ref a0), (1, .int (iI ship))] := hl
  have iX4 : ∀ v ∈ wsX40, v ∈ wsX4_leaveFault := by decide +kernel
  have iX9 : ∀ v ∈ wsX90, v ∈ wsX4_leaveFault := by decide +kernel
  have f_12 := hts (.fieldLink RX4 12 "HarborLights$Office" "now" "LHarborLights$State;") (by decide +kernel)
  have f_65 := hts (.fieldLink RX4 65 "HarborLights$State" "ships" "LHarborLights$Ships;") (by decide +kernel)
  refine lv_aload_n hx hb dX4_leaveFault_0 rfl (lv_at hl 0 rfl) ?_
  refine va_get (D := D) (ci := 6) (v := .ref a1) (C := RX4) (T := TX4) (N := 3) hx hb hts iX4 hown hK hP 0 rfl rfl 0 (by decide) f_12 (fun _ h9 => h9) rfl dX4_leaveFault_1 ?_
  refine va_get (D := D) (ci := 11) (v := .ref a8) (C := RX9) (T := TX9) (N := 8) hx hb hts iX9 hown hK hP 1 rfl rfl 1 (by decide) f_65 (fun _ h9 => h9) rfl dX4_leaveFault_4 ?_
  refine lv_iload_n hx hb dX4_leaveFault_7 rfl (lv_at hl 1 rfl) ?_
  refine zz_callVi (As := [.int (iI ship)]) (rest := []) (wf := fun u => bOffice tA a0 a1 a2 a3 a4 a5 a6 a7 a8 a9 a10 a11 a12 a13 a14 a15 a16 a17 a18 a19 a20 a21 a22 ports legs lower upper leng reach meter cnt strt goal money litN darkN rng nights fog fund refd brt shrt grp seen tp shr need ordr size) ⟨hx, hb, hml, hown, hts⟩ (c_X8_has l D tA a8 a9 a10 a11 a12 a13 H.size cnt strt goal money litN darkN ship (by first | assumption | omega) (by first | assumption | omega)) (cwV 1 hts gX4_leaveFault_X8_has rfl rfl rfl (by decide +kernel) ⟨Nat.le_of_ble_eq_true rfl, Nat.le_of_ble_eq_true rfl⟩) hK hP hD hS hA [8, 9, 10, 11, 12, 13] [0, 1, 2, 3, 4, 5, 6, 7, 14, 15, 16, 17, 18, 19, 20, 21, 22] [0, 1, 2, 3, 4, 5, 6, 7, 17, 18, 19, 20, 21, 22, 8, 9, 10, 11, 12, 13, 14, 15, 16] rfl rfl (by decide) (by decide) (by decide) (by decide) (fun _ => rfl) (ci := 10) (q0 := 0) rfl rfl rfl rfl rfl hl.1 (Nat.le_of_ble_eq_true rfl) dX4_leaveFault_8 ⟨Nat.le_of_ble_eq_true rfl, Nat.le_of_ble_eq_true rfl⟩ ?_
  intro z8_1 u H locs p8_2 hP hD hS
  have hP : va_P D vwCl (bOffice tA a0 a1 a2 a3 a4 a5 a6 a7 a8 a9 a10 a11 a12 a13 a14 a15 a16 a17 a18 a19 a20 a21 a22 ports legs lower upper leng reach meter cnt strt goal money litN darkN rng nights fog fund refd brt shrt grp seen tp shr need ordr size) H := hP
  have hD : va_D A (bOffice tA a0 a1 a2 a3 a4 a5 a6 a7 a8 a9 a10 a11 a12 a13 a14 a15 a16 a17 a18 a19 a20 a21 a22 ports legs lower upper leng reach meter cnt strt goal money litN darkN rng nights fog fund refd brt shrt grp seen tp shr need ordr size) := hD
  have q_8 : (z8_1 = 1 ∧ 0 ≤ ship ∧ ship < cnt) ∨ (z8_1 = 0 ∧ ¬ (0 ≤ ship ∧ ship < cnt)) := p8_2
  refine zz_if_eq (tgt := 18) hx hb dX4_leaveFault_11 (by decide) (by omega) (fun c_11 => ?_) (fun c_11 => ?_)
  · refine zz_iconst hx hb dX4_leaveFault_18 ?_
    exact hret 1 () _ _ _ _ dX4_leaveFault_19 (show ((1 : Int) = 0 ∧ 0 ≤ ship ∧ ship < cnt) ∨ ((1 : Int) = 1 ∧ ¬ (0 ≤ ship ∧ ship < cnt)) from by omega) hP hD hS
  · refine zz_iconst hx hb dX4_leaveFault_14 ?_
    refine lv_goto (tgt := 19) hx hb dX4_leaveFault_15 (by decide) ?_
    exact hret 0 () _ _ _ _ dX4_leaveFault_19 (show ((0 : Int) = 0 ∧ 0 ≤ ship ∧ ship < cnt) ∨ ((0 : Int) = 1 ∧ ¬ (0 ≤ ship ∧ ship < cnt)) from by omega) hP hD hS

set_option maxHeartbeats 4000000 in
set_option maxRecDepth 100000 in
theorem c_X4_letGo (l : Launch) (D : va_G) (tA : Nat → ClassId) (a0 a1 a2 a3 a4 a5 a6 a7 a8 a9 a10 a11 a12 a13 a14 a15 a16 a17 a18 a19 a20 a21 a22 : Nat) (sz : Nat) (ports : Int) (legs : Int) (lower : Int → Int) (upper : Int → Int) (leng : Int → Int) (reach : Int → Int) (meter : Int → Int) (cnt : Int) (strt : Int → Int) (goal : Int → Int) (money : Int → Int) (litN : Int → Int) (darkN : Int → Int) (rng : Int) (nights : Int) (fog : Int) (fund : Int) (refd : Int) (brt : Int) (shrt : Int → Int) (grp : Int → Int) (seen : Int → Int) (tp : Int → Int) (shr : Int → Int) (need : Int → Int) (ordr : Int → Int) (size : Int) (ship : Int) (r_ship : -2147483648 ≤ ship ∧ ship ≤ 2147483647) (hc : 0 ≤ cnt ∧ cnt ≤ 6) (hs : 0 ≤ ship ∧ ship < cnt) (hm : ∀ j, 0 ≤ j → j < cnt → (0 ≤ money j ∧ money j ≤ 1000000000)) : zMi l yX4_letGo wsX4_letGo ({ frames := 2, cells := 0, slots := 0, locals := 43 }) D tA [.ref a0, .int (iI ship)] (bOffice tA a0 a1 a2 a3 a4 a5 a6 a7 a8 a9 a10 a11 a12 a13 a14 a15 a16 a17 a18 a19 a20 a21 a22 ports legs lower upper leng reach meter cnt strt goal money litN darkN rng nights fog fund refd brt shrt grp seen tp shr need ordr size) sz (fun (z : Int) (u : Unit) => (z = money ship)) (fun (u : Unit) => bOffice tA a0 a1 a2 a3 a4 a5 a6 a7 a8 a9 a10 a11 a12 a13 a14 a15 a16 a17 a18 a19 a20 a21 a22 ports legs lower upper leng reach meter (cnt - 1) (dlf strt ship cnt) (dlf goal ship cnt) (dlf money ship cnt) (dlf litN ship cnt) (dlf darkN ship cnt) rng nights fog fund refd (brt - money ship) shrt grp seen tp shr need ordr size) 0 0 := by
  refine zMi_of (cc := cX4_letGo) (maxL := 3) (by decide) rfl (fun z u h => rfl) (Nat.le_of_ble_eq_true rfl) ?_
  intro p e s m args below meth c A Q ls hx hb hml hts hown hK hP hD hA hret hl
  obtain ⟨H, hHe⟩ : ∃ H : Heap, H = s.heap := ⟨_, rfl⟩
  have hS : va_S A s.heap H [] := by rw [hHe]; exact va_S.rf
  rw [← hHe] at hP ⊢
  have hl : lv_has ls 3 [(0, .ref a0), (1, .int (iI ship))] := hl
  have iX4 : ∀ v ∈ wsX40, v ∈ wsX4_letGo := by decide +kernel
  have iX8 : ∀ v ∈ wsX80, v ∈ wsX4_letGo := by decide +kernel
  have iX9 : ∀ v ∈ wsX90, v ∈ wsX4_letGo := by decide +kernel
  have f_12 := hts (.fieldLink RX4 12 "HarborLights$Office" "now" "LHarborLights$State;") (by decide +kernel)
  have f_65 := hts (.fieldLink RX4 65 "HarborLights$State" "ships" "LHarborLights$Ships;") (by decide +kernel)
  have f_82 := hts (.fieldLink RX4 82 "HarborLights$State" "broughtIn" "J") (by decide +kernel)
  have f_90 := hts (.fieldLink RX4 90 "HarborLights$Ships" "money" "[I") (by decide +kernel)
  refine lv_aload_n hx hb dX4_letGo_0 rfl (lv_at hl 0 rfl) ?_
  refine va_get (D := D) (ci := 6) (v := .ref a1) (C := RX4) (T := TX4) (N := 3) hx hb hts iX4 hown hK hP 0 rfl rfl 0 (by decide) f_12 (fun _ h9 => h9) rfl dX4_letGo_1 ?_
  refine va_get (D := D) (ci := 11) (v := .ref a8) (C := RX9) (T := TX9) (N := 8) hx hb hts iX9 hown hK hP 1 rfl rfl 1 (by decide) f_65 (fun _ h9 => h9) rfl dX4_letGo_4 ?_
  refine va_get (D := D) (ci := 10) (v := .ref a11) (C := RX8) (T := TX8) (N := 6) hx hb hts iX8 hown hK hP 8 rfl rfl 3 (by decide) f_90 (fun _ h9 => h9) rfl dX4_letGo_7 ?_
  refine lv_iload_n hx hb dX4_letGo_10 rfl (lv_at hl 1 rfl) ?_
  refine zz_iald hx hb hK hP 11 rfl (by decide) (by omega) dX4_letGo_11 ?_
  have r_11 := hm ship (by omega) (by omega)
  refine lv_istore_n (lv' := [(2, .int (iI (money ship))), (0, .ref a0), (1, .int (iI ship))]) hx hb dX4_letGo_12 rfl hl (by decide) rfl (fun ls hl => ?_)
  refine lv_aload_n hx hb dX4_letGo_13 rfl (lv_at hl 1 rfl) ?_
  refine va_get (D := D) (ci := 6) (v := .ref a1) (C := RX4) (T := TX4) (N := 3) hx hb hts iX4 hown hK hP 0 rfl rfl 0 (by decide) f_12 (fun _ h9 => h9) rfl dX4_letGo_14 ?_
  refine va_get (D := D) (ci := 11) (v := .ref a8) (C := RX9) (T := TX9) (N := 8) hx hb hts iX9 hown hK hP 1 rfl rfl 1 (by decide) f_65 (fun _ h9 => h9) rfl dX4_letGo_17 ?_
  refine lv_iload_n hx hb dX4_letGo_20 rfl (lv_at hl 2 rfl) ?_
  refine zz_callVv (As := [.int (iI ship)]) (rest := []) (wf := fun u => bOffice tA a0 a1 a2 a3 a4 a5 a6 a7 a8 a9 a10 a11 a12 a13 a14 a15 a16 a17 a18 a19 a20 a21 a22 ports legs lower upper leng reach meter (cnt - 1) (dlf strt ship cnt) (dlf goal ship cnt) (dlf money ship cnt) (dlf litN ship cnt) (dlf darkN ship cnt) rng nights fog fund refd brt shrt grp seen tp shr need ordr size) ⟨hx, hb, hml, hown, hts⟩ (c_X8_delete l D tA a8 a9 a10 a11 a12 a13 H.size cnt strt goal money litN darkN ship (by first | assumption | omega) (by first | assumption | omega) (by first | assumption | omega)) (cwV 1 hts gX4_letGo_X8_delete rfl rfl rfl (by decide +kernel) ⟨Nat.le_of_ble_eq_true rfl, Nat.le_of_ble_eq_true rfl⟩) hK hP hD hS hA [8, 9, 10, 11, 12, 13] [0, 1, 2, 3, 4, 5, 6, 7, 14, 15, 16, 17, 18, 19, 20, 21, 22] [0, 1, 2, 3, 4, 5, 6, 7, 17, 18, 19, 20, 21, 22, 8, 9, 10, 11, 12, 13, 14, 15, 16] rfl rfl (by decide) (by decide) (by decide) (by decide) (fun _ => rfl) (ci := 10) (q0 := 0) rfl rfl rfl rfl rfl hl.1 (Nat.le_of_ble_eq_true rfl) dX4_letGo_21 ⟨Nat.le_of_ble_eq_true rfl, Nat.le_of_ble_eq_true rfl⟩ ?_
  intro u H locs p21_1 hP hD hS
  have hP : va_P D vwCl (bOffice tA a0 a1 a2 a3 a4 a5 a6 a7 a8 a9 a10 a11 a12 a13 a14 a15 a16 a17 a18 a19 a20 a21 a22 ports legs lower upper leng reach meter (cnt - 1) (dlf strt ship cnt) (dlf goal ship cnt) (dlf money ship cnt) (dlf litN ship cnt) (dlf darkN ship cnt) rng nights fog fund refd brt shrt grp seen tp shr need ordr size) H := hP
  have hD : va_D A (bOffice tA a0 a1 a2 a3 a4 a5 a6 a7 a8 a9 a10 a11 a12 a13 a14 a15 a16 a17 a18 a19 a20 a21 a22 ports legs lower upper leng reach meter (cnt - 1) (dlf strt ship cnt) (dlf goal ship cnt) (dlf money ship cnt) (dlf litN ship cnt) (dlf darkN ship cnt) rng nights fog fund refd brt shrt grp seen tp shr need ordr size) := hD
  refine lv_aload_n hx hb dX4_letGo_24 rfl (lv_at hl 1 rfl) ?_
  refine va_get (D := D) (ci := 6) (v := .ref a1) (C := RX4) (T := TX4) (N := 3) hx hb hts iX4 hown hK hP 0 rfl rfl 0 (by decide) f_12 (fun _ h9 => h9) rfl dX4_letGo_25 ?_
  refine lv_dup hx hb dX4_letGo_28 rfl ?_
  refine va_get (D := D) (ci := 11) (v := .long (lI brt)) (C := RX9) (T := TX9) (N := 8) hx hb hts iX9 hown hK hP 1 rfl rfl 7 (by decide) f_82 (fun _ h9 => h9) rfl dX4_letGo_29 ?_
  refine lv_iload_n hx hb dX4_letGo_32 rfl (lv_at hl 0 rfl) ?_
  refine zz_i2l hx hb dX4_letGo_33 (by omega) ?_
  refine zz_lsub hx hb dX4_letGo_34 ?_
  refine va_put (D := D) (ci := 11) (v := .long (lI (brt - (money ship)))) (ty := .long) (C := RX9) (T := TX9) (N := 8) hx hb hts iX9 tyX9 tyX9_ok nmX9 hown hK hP hD hS 1 rfl rfl 7 (by decide) f_82 (fun _ h9 => h9) rfl (by decide +kernel) rfl rfl (Nat.le_of_ble_eq_true rfl) dX4_letGo_35 (fun H locs hP hD hS => ?_)
  have hP : va_P D vwCl (bOffice tA a0 a1 a2 a3 a4 a5 a6 a7 a8 a9 a10 a11 a12 a13 a14 a15 a16 a17 a18 a19 a20 a21 a22 ports legs lower upper leng reach meter (cnt - 1) (dlf strt ship cnt) (dlf goal ship cnt) (dlf money ship cnt) (dlf litN ship cnt) (dlf darkN ship cnt) rng nights fog fund refd (brt - (money ship)) shrt grp seen tp shr need ordr size) H := hP
  have hD : va_D A (bOffice tA a0 a1 a2 a3 a4 a5 a6 a7 a8 a9 a10 a11 a12 a13 a14 a15 a16 a17 a18 a19 a20 a21 a22 ports legs lower upper leng reach meter (cnt - 1) (dlf strt ship cnt) (dlf goal ship cnt) (dlf money ship cnt) (dlf litN ship cnt) (dlf darkN ship cnt) rng nights fog fund refd (brt - (money ship)) shrt grp seen tp shr need ordr size) := hD
  refine lv_iload_n hx hb dX4_letGo_38 rfl (lv_at hl 0 rfl) ?_
  have e_brt : (brt - (money ship)) = (brt - money ship) := by rfl
  rw [e_brt] at hP hD
  exact hret (money ship) () _ _ _ _ dX4_letGo_39 (show (money ship) = money ship from by omega) hP hD hS

set_option maxHeartbeats 4000000 in
set_option maxRecDepth 100000 in
theorem c_X4_payFault (l : Launch) (D : va_G) (tA : Nat → ClassId) (a0 a1 a2 a3 a4 a5 a6 a7 a8 a9 a10 a11 a12 a13 a14 a15 a16 a17 a18 a19 a20 a21 a22 : Nat) (sz : Nat) (ports : Int) (legs : Int) (lower : Int → Int) (upper : Int → Int) (leng : Int → Int) (reach : Int → Int) (meter : Int → Int) (cnt : Int) (strt : Int → Int) (goal : Int → Int) (money : Int → Int) (litN : Int → Int) (darkN : Int → Int) (rng : Int) (nights : Int) (fog : Int) (fund : Int) (refd : Int) (brt : Int) (shrt : Int → Int) (grp : Int → Int) (seen : Int → Int) (tp : Int → Int) (shr : Int → Int) (need : Int → Int) (ordr : Int → Int) (size : Int) (ship : Int) (w : Int) (r_ship : -2147483648 ≤ ship ∧ ship ≤ 2147483647) (r_w : -2147483648 ≤ w ∧ w ≤ 2147483647) (hc : 0 ≤ cnt ∧ cnt ≤ 6) : zMi l yX4_payFault wsX4_payFault ({ frames := 1, cells := 0, slots := 0, locals := 21 }) D tA [.ref a0, .int (iI ship), .int (iI w)] (bOffice tA a0 a1 a2 a3 a4 a5 a6 a7 a8 a9 a10 a11 a12 a13 a14 a15 a16 a17 a18 a19 a20 a21 a22 ports legs lower upper leng reach meter cnt strt goal money litN darkN rng nights fog fund refd brt shrt grp seen tp shr need ordr size) sz (fun (z : Int) (u : Unit) => (payF cnt ship w z)) (fun (u : Unit) => bOffice tA a0 a1 a2 a3 a4 a5 a6 a7 a8 a9 a10 a11 a12 a13 a14 a15 a16 a17 a18 a19 a20 a21 a22 ports legs lower upper leng reach meter cnt strt goal money litN darkN rng nights fog fund refd brt shrt grp seen tp shr need ordr size) 0 0 := by
  refine zMi_of (cc := cX4_payFault) (maxL := 3) (by decide) rfl (fun z u h => rfl) (Nat.le_of_ble_eq_true rfl) ?_
  intro p e s m args below meth c A Q ls hx hb hml hts hown hK hP hD hA hret hl
  obtain ⟨H, hHe⟩ : ∃ H : Heap, H = s.heap := ⟨_, rfl⟩
  have hS : va_S A s.heap H [] := by rw [hHe]; exact va_S.rf
  rw [← hHe] at hP ⊢
  have hl : lv_has ls 3 [(0, .ref a0), (1, .int (iI ship)), (2, .int (iI w))] := hl
  have iX4 : ∀ v ∈ wsX40, v ∈ wsX4_payFault := by decide +kernel
  have iX9 : ∀ v ∈ wsX90, v ∈ wsX4_payFault := by decide +kernel
  have f_12 := hts (.fieldLink RX4 12 "HarborLights$Office" "now" "LHarborLights$State;") (by decide +kernel)
  have f_65 := hts (.fieldLink RX4 65 "HarborLights$State" "ships" "LHarborLights$Ships;") (by decide +kernel)
  refine lv_aload_n hx hb dX4_payFault_0 rfl (lv_at hl 0 rfl) ?_
  refine va_get (D := D) (ci := 6) (v := .ref a1) (C := RX4) (T := TX4) (N := 3) hx hb hts iX4 hown hK hP 0 rfl rfl 0 (by decide) f_12 (fun _ h9 => h9) rfl dX4_payFault_1 ?_
  refine va_get (D := D) (ci := 11) (v := .ref a8) (C := RX9) (T := TX9) (N := 8) hx hb hts iX9 hown hK hP 1 rfl rfl 1 (by decide) f_65 (fun _ h9 => h9) rfl dX4_payFault_4 ?_
  refine lv_iload_n hx hb dX4_payFault_7 rfl (lv_at hl 1 rfl) ?_
  refine zz_callVi (As := [.int (iI ship)]) (rest := []) (wf := fun u => bOffice tA a0 a1 a2 a3 a4 a5 a6 a7 a8 a9 a10 a11 a12 a13 a14 a15 a16 a17 a18 a19 a20 a21 a22 ports legs lower upper leng reach meter cnt strt goal money litN darkN rng nights fog fund refd brt shrt grp seen tp shr need ordr size) ⟨hx, hb, hml, hown, hts⟩ (c_X8_has l D tA a8 a9 a10 a11 a12 a13 H.size cnt strt goal money litN darkN ship (by first | assumption | omega) (by first | assumption | omega)) (cwV 1 hts gX4_payFault_X8_has rfl rfl rfl (by decide +kernel) ⟨Nat.le_of_ble_eq_true rfl, Nat.le_of_ble_eq_true rfl⟩) hK hP hD hS hA [8, 9, 10, 11, 12, 13] [0, 1, 2, 3, 4, 5, 6, 7, 14, 15, 16, 17, 18, 19, 20, 21, 22] [0, 1, 2, 3, 4, 5, 6, 7, 17, 18, 19, 20, 21, 22, 8, 9, 10, 11, 12, 13, 14, 15, 16] rfl rfl (by decide) (by decide) (by decide) (by decide) (fun _ => rfl) (ci := 10) (q0 := 0) rfl rfl rfl rfl rfl hl.1 (Nat.le_of_ble_eq_true rfl) dX4_payFault_8 ⟨Nat.le_of_ble_eq_true rfl, Nat.le_of_ble_eq_true rfl⟩ ?_
  intro z8_1 u H locs p8_2 hP hD hS
  have hP : va_P D vwCl (bOffice tA a0 a1 a2 a3 a4 a5 a6 a7 a8 a9 a10 a11 a12 a13 a14 a15 a16 a17 a18 a19 a20 a21 a22 ports legs lower upper leng reach meter cnt strt goal money litN darkN rng nights fog fund refd brt shrt grp seen tp shr need ordr size) H := hP
  have hD : va_D A (bOffice tA a0 a1 a2 a3 a4 a5 a6 a7 a8 a9 a10 a11 a12 a13 a14 a15 a16 a17 a18 a19 a20 a21 a22 ports legs lower upper leng reach meter cnt strt goal money litN darkN rng nights fog fund refd brt shrt grp seen tp shr need ordr size) := hD
  have q_8 : (z8_1 = 1 ∧ 0 ≤ ship ∧ ship < cnt) ∨ (z8_1 = 0 ∧ ¬ (0 ≤ ship ∧ ship < cnt)) := p8_2
  refine zz_if_ne (tgt := 16) hx hb dX4_payFault_11 (by decide) (by omega) (fun c_11 => ?_) (fun c_11 => ?_)
  · refine lv_iload_n hx hb dX4_payFault_16 rfl (lv_at hl 2 rfl) ?_
    refine zz_iconst hx hb dX4_payFault_17 ?_
    refine zz_icmp_lt (tgt := 28) hx hb dX4_payFault_18 (by decide) (by omega) (by decide) (fun c_18 => ?_) (fun c_18 => ?_)
    · refine zz_iconst hx hb dX4_payFault_28 ?_
      refine lv_goto (tgt := 33) hx hb dX4_payFault_29 (by decide) ?_
      exact hret 2 () _ _ _ _ dX4_payFault_33 (show payF cnt ship w (2 : Int) from by unfold payF; omega) hP hD hS
    · refine lv_iload_n hx hb dX4_payFault_21 rfl (lv_at hl 2 rfl) ?_
      refine zz_sipush hx hb dX4_payFault_22 (by decide) ?_
      refine zz_icmp_le (tgt := 32) hx hb dX4_payFault_25 (by decide) (by omega) (by decide) (fun c_25 => ?_) (fun c_25 => ?_)
      · refine zz_iconst hx hb dX4_payFault_32 ?_
        exact hret 0 () _ _ _ _ dX4_payFault_33 (show payF cnt ship w (0 : Int) from by unfold payF; omega) hP hD hS
      · refine zz_iconst hx hb dX4_payFault_28 ?_
        refine lv_goto (tgt := 33) hx hb dX4_payFault_29 (by decide) ?_
        exact hret 2 () _ _ _ _ dX4_payFault_33 (show payF cnt ship w (2 : Int) from by unfold payF; omega) hP hD hS
  · refine zz_iconst hx hb dX4_payFault_14 ?_
    exact hret 1 () _ _ _ _ dX4_payFault_15 (show payF cnt ship w (1 : Int) from by unfold payF; omega) hP hD hS

set_option maxHeartbeats 4000000 in
set_option maxRecDepth 100000 in
theorem c_X4_payIn (l : Launch) (D : va_G) (tA : Nat → ClassId) (a0 a1 a2 a3 a4 a5 a6 a7 a8 a9 a10 a11 a12 a13 a14 a15 a16 a17 a18 a19 a20 a21 a22 : Nat) (sz : Nat) (ports : Int) (legs : Int) (lower : Int → Int) (upper : Int → Int) (leng : Int → Int) (reach : Int → Int) (meter : Int → Int) (cnt : Int) (strt : Int → Int) (goal : Int → Int) (money : Int → Int) (litN : Int → Int) (darkN : Int → Int) (rng : Int) (nights : Int) (fog : Int) (fund : Int) (refd : Int) (brt : Int) (shrt : Int → Int) (grp : Int → Int) (seen : Int → Int) (tp : Int → Int) (shr : Int → Int) (need : Int → Int) (ordr : Int → Int) (size : Int) (ship : Int) (w : Int) (r_ship : -2147483648 ≤ ship ∧ ship ≤ 2147483647) (r_w : -2147483648 ≤ w ∧ w ≤ 2147483647) (hc : 0 ≤ cnt ∧ cnt ≤ 6) (hs : 0 ≤ ship ∧ ship < cnt) : zMi l yX4_payIn wsX4_payIn ({ frames := 0, cells := 0, slots := 0, locals := 0 }) D tA [.ref a0, .int (iI ship), .int (iI w)] (bOffice tA a0 a1 a2 a3 a4 a5 a6 a7 a8 a9 a10 a11 a12 a13 a14 a15 a16 a17 a18 a19 a20 a21 a22 ports legs lower upper leng reach meter cnt strt goal money litN darkN rng nights fog fund refd brt shrt grp seen tp shr need ordr size) sz (fun (z : Int) (u : Unit) => (z = money ship + w)) (fun (u : Unit) => bOffice tA a0 a1 a2 a3 a4 a5 a6 a7 a8 a9 a10 a11 a12 a13 a14 a15 a16 a17 a18 a19 a20 a21 a22 ports legs lower upper leng reach meter cnt strt goal (zU money ship (money ship + w)) litN darkN rng nights fog fund refd (brt + w) shrt grp seen tp shr need ordr size) 0 0 := by
  refine zMi_of (cc := cX4_payIn) (maxL := 3) (by decide) rfl (fun z u h => rfl) (Nat.le_of_ble_eq_true rfl) ?_
  intro p e s m args below meth c A Q ls hx hb hml hts hown hK hP hD hA hret hl
  obtain ⟨H, hHe⟩ : ∃ H : Heap, H = s.heap := ⟨_, rfl⟩
  have hS : va_S A s.heap H [] := by rw [hHe]; exact va_S.rf
  rw [← hHe] at hP ⊢
  have hl : lv_has ls 3 [(0, .ref a0), (1, .int (iI ship)), (2, .int (iI w))] := hl
  have iX4 : ∀ v ∈ wsX40, v ∈ wsX4_payIn := by decide +kernel
  have iX8 : ∀ v ∈ wsX80, v ∈ wsX4_payIn := by decide +kernel
  have iX9 : ∀ v ∈ wsX90, v ∈ wsX4_payIn := by decide +kernel
  have f_12 := hts (.fieldLink RX4 12 "HarborLights$Office" "now" "LHarborLights$State;") (by decide +kernel)
  have f_65 := hts (.fieldLink RX4 65 "HarborLights$State" "ships" "LHarborLights$Ships;") (by decide +kernel)
  have f_82 := hts (.fieldLink RX4 82 "HarborLights$State" "broughtIn" "J") (by decide +kernel)
  have f_90 := hts (.fieldLink RX4 90 "HarborLights$Ships" "money" "[I") (by decide +kernel)
  refine lv_aload_n hx hb dX4_payIn_0 rfl (lv_at hl 0 rfl) ?_
  refine va_get (D := D) (ci := 6) (v := .ref a1) (C := RX4) (T := TX4) (N := 3) hx hb hts iX4 hown hK hP 0 rfl rfl 0 (by decide) f_12 (fun _ h9 => h9) rfl dX4_payIn_1 ?_
  refine va_get (D := D) (ci := 11) (v := .ref a8) (C := RX9) (T := TX9) (N := 8) hx hb hts iX9 hown hK hP 1 rfl rfl 1 (by decide) f_65 (fun _ h9 => h9) rfl dX4_payIn_4 ?_
  refine va_get (D := D) (ci := 10) (v := .ref a11) (C := RX8) (T := TX8) (N := 6) hx hb hts iX8 hown hK hP 8 rfl rfl 3 (by decide) f_90 (fun _ h9 => h9) rfl dX4_payIn_7 ?_
  refine lv_iload_n hx hb dX4_payIn_10 rfl (lv_at hl 1 rfl) ?_
  refine lv_dup2_11 hx hb dX4_payIn_11 rfl rfl ?_
  refine zz_iald hx hb hK hP 11 rfl (by decide) (by omega) dX4_payIn_12 ?_
  refine lv_iload_n hx hb dX4_payIn_13 rfl (lv_at hl 2 rfl) ?_
  refine zz_iadd hx hb dX4_payIn_14 ?_
  refine zz_iast hx hb hK hP hD hS 11 rfl (by decide) (by omega) dX4_payIn_15 (fun H locs hP hD hS => ?_)
  have hP : va_P D vwCl (bOffice tA a0 a1 a2 a3 a4 a5 a6 a7 a8 a9 a10 a11 a12 a13 a14 a15 a16 a17 a18 a19 a20 a21 a22 ports legs lower upper leng reach meter cnt strt goal (zU money ship ((money ship) + w)) litN darkN rng nights fog fund refd brt shrt grp seen tp shr need ordr size) H := hP
  have hD : va_D A (bOffice tA a0 a1 a2 a3 a4 a5 a6 a7 a8 a9 a10 a11 a12 a13 a14 a15 a16 a17 a18 a19 a20 a21 a22 ports legs lower upper leng reach meter cnt strt goal (zU money ship ((money ship) + w)) litN darkN rng nights fog fund refd brt shrt grp seen tp shr need ordr size) := hD
  refine lv_aload_n hx hb dX4_payIn_16 rfl (lv_at hl 0 rfl) ?_
  refine va_get (D := D) (ci := 6) (v := .ref a1) (C := RX4) (T := TX4) (N := 3) hx hb hts iX4 hown hK hP 0 rfl rfl 0 (by decide) f_12 (fun _ h9 => h9) rfl dX4_payIn_17 ?_
  refine lv_dup hx hb dX4_payIn_20 rfl ?_
  refine va_get (D := D) (ci := 11) (v := .long (lI brt)) (C := RX9) (T := TX9) (N := 8) hx hb hts iX9 hown hK hP 1 rfl rfl 7 (by decide) f_82 (fun _ h9 => h9) rfl dX4_payIn_21 ?_
  refine lv_iload_n hx hb dX4_payIn_24 rfl (lv_at hl 2 rfl) ?_
  refine zz_i2l hx hb dX4_payIn_25 (by omega) ?_
  refine zz_ladd hx hb dX4_payIn_26 ?_
  refine va_put (D := D) (ci := 11) (v := .long (lI (brt + w))) (ty := .long) (C := RX9) (T := TX9) (N := 8) hx hb hts iX9 tyX9 tyX9_ok nmX9 hown hK hP hD hS 1 rfl rfl 7 (by decide) f_82 (fun _ h9 => h9) rfl (by decide +kernel) rfl rfl (Nat.le_of_ble_eq_true rfl) dX4_payIn_27 (fun H locs hP hD hS => ?_)
  have hP : va_P D vwCl (bOffice tA a0 a1 a2 a3 a4 a5 a6 a7 a8 a9 a10 a11 a12 a13 a14 a15 a16 a17 a18 a19 a20 a21 a22 ports legs lower upper leng reach meter cnt strt goal (zU money ship ((money ship) + w)) litN darkN rng nights fog fund refd (brt + w) shrt grp seen tp shr need ordr size) H := hP
  have hD : va_D A (bOffice tA a0 a1 a2 a3 a4 a5 a6 a7 a8 a9 a10 a11 a12 a13 a14 a15 a16 a17 a18 a19 a20 a21 a22 ports legs lower upper leng reach meter cnt strt goal (zU money ship ((money ship) + w)) litN darkN rng nights fog fund refd (brt + w) shrt grp seen tp shr need ordr size) := hD
  refine lv_aload_n hx hb dX4_payIn_30 rfl (lv_at hl 0 rfl) ?_
  refine va_get (D := D) (ci := 6) (v := .ref a1) (C := RX4) (T := TX4) (N := 3) hx hb hts iX4 hown hK hP 0 rfl rfl 0 (by decide) f_12 (fun _ h9 => h9) rfl dX4_payIn_31 ?_
  refine va_get (D := D) (ci := 11) (v := .ref a8) (C := RX9) (T := TX9) (N := 8) hx hb hts iX9 hown hK hP 1 rfl rfl 1 (by decide) f_65 (fun _ h9 => h9) rfl dX4_payIn_34 ?_
  refine va_get (D := D) (ci := 10) (v := .ref a11) (C := RX8) (T := TX8) (N := 6) hx hb hts iX8 hown hK hP 8 rfl rfl 3 (by decide) f_90 (fun _ h9 => h9) rfl dX4_payIn_37 ?_
  refine lv_iload_n hx hb dX4_payIn_40 rfl (lv_at hl 1 rfl) ?_
  refine zz_iald hx hb hK hP 11 rfl (by decide) (by omega) dX4_payIn_41 ?_
  have e_money : (zU money ship ((money ship) + w)) = (zU money ship (money ship + w)) := by rfl
  rw [e_money] at hP hD
  exact hret ((zU money ship ((money ship) + w)) ship) () _ _ _ _ dX4_payIn_42 (show ((zU money ship ((money ship) + w)) ship) = money ship + w from by exact zU_same _ _ _) hP hD hS

set_option maxHeartbeats 4000000 in
set_option maxRecDepth 100000 in
theorem c_X4_fogFault (l : Launch) (D : va_G) (tA : Nat → ClassId) (a0 a1 a2 a3 a4 a5 a6 a7 a8 a9 a10 a11 a12 a13 a14 a15 a16 a17 a18 a19 a20 a21 a22 : Nat) (sz : Nat) (ports : Int) (legs : Int) (lower : Int → Int) (upper : Int → Int) (leng : Int → Int) (reach : Int → Int) (meter : Int → Int) (cnt : Int) (strt : Int → Int) (goal : Int → Int) (money : Int → Int) (litN : Int → Int) (darkN : Int → Int) (rng : Int) (nights : Int) (fog : Int) (fund : Int) (refd : Int) (brt : Int) (shrt : Int → Int) (grp : Int → Int) (seen : Int → Int) (tp : Int → Int) (shr : Int → Int) (need : Int → Int) (ordr : Int → Int) (size : Int) (nf : Int) (r_nf : -2147483648 ≤ nf ∧ nf ≤ 2147483647) : zMi l yX4_fogFault wsX4_fogFault ({ frames := 0, cells := 0, slots := 0, locals := 0 }) D tA [.ref a0, .int (iI nf)] (bOffice tA a0 a1 a2 a3 a4 a5 a6 a7 a8 a9 a10 a11 a12 a13 a14 a15 a16 a17 a18 a19 a20 a21 a22 ports legs lower upper leng reach meter cnt strt goal money litN darkN rng nights fog fund refd brt shrt grp seen tp shr need ordr size) sz (fun (z : Int) (u : Unit) => ((z = 2 ∧ ¬ (0 ≤ nf ∧ nf ≤ 9)) ∨ (z = 0 ∧ 0 ≤ nf ∧ nf ≤ 9))) (fun (u : Unit) => bOffice tA a0 a1 a2 a3 a4 a5 a6 a7 a8 a9 a10 a11 a12 a13 a14 a15 a16 a17 a18 a19 a20 a21 a22 ports legs lower upper leng reach meter cnt strt goal money litN darkN rng nights fog fund refd brt shrt grp seen tp shr need ordr size) 0 0 := by
  refine zMi_of (cc := cX4_fogFault) (maxL := 2) (by decide) rfl (fun z u h => rfl) (Nat.le_of_ble_eq_true rfl) ?_
  intro p e s m args below meth c A Q ls hx hb hml hts hown hK hP hD hA hret hl
  obtain ⟨H, hHe⟩ : ∃ H : Heap, H = s.heap := ⟨_, rfl⟩
  have hS : va_S A s.heap H [] := by rw [hHe]; exact va_S.rf
  rw [← hHe] at hP ⊢
  have hl : lv_has ls 2 [(0, .ref a0), (1, .int (iI nf))] := hl
  refine lv_iload_n hx hb dX4_fogFault_0 rfl (lv_at hl 1 rfl) ?_
  refine zz_if_lt (tgt := 10) hx hb dX4_fogFault_1 (by decide) (by omega) (fun c_1 => ?_) (fun c_1 => ?_)
  · refine zz_iconst hx hb dX4_fogFault_10 ?_
    refine lv_goto (tgt := 15) hx hb dX4_fogFault_11 (by decide) ?_
    exact hret 2 () _ _ _ _ dX4_fogFault_15 (show ((2 : Int) = 2 ∧ ¬ (0 ≤ nf ∧ nf ≤ 9)) ∨ ((2 : Int) = 0 ∧ 0 ≤ nf ∧ nf ≤ 9) from by omega) hP hD hS
  · refine lv_iload_n hx hb dX4_fogFault_4 rfl (lv_at hl 1 rfl) ?_
    refine zz_bipush hx hb dX4_fogFault_5 (by decide) ?_
    refine zz_icmp_le (tgt := 14) hx hb dX4_fogFault_7 (by decide) (by omega) (by decide) (fun c_7 => ?_) (fun c_7 => ?_)
    · refine zz_iconst hx hb dX4_fogFault_14 ?_
      exact hret 0 () _ _ _ _ dX4_fogFault_15 (show ((0 : Int) = 2 ∧ ¬ (0 ≤ nf ∧ nf ≤ 9)) ∨ ((0 : Int) = 0 ∧ 0 ≤ nf ∧ nf ≤ 9) from by omega) hP hD hS
    · refine zz_iconst hx hb dX4_fogFault_10 ?_
      refine lv_goto (tgt := 15) hx hb dX4_fogFault_11 (by decide) ?_
      exact hret 2 () _ _ _ _ dX4_fogFault_15 (show ((2 : Int) = 2 ∧ ¬ (0 ≤ nf ∧ nf ≤ 9)) ∨ ((2 : Int) = 0 ∧ 0 ≤ nf ∧ nf ≤ 9) from by omega) hP hD hS

set_option maxHeartbeats 4000000 in
set_option maxRecDepth 100000 in
theorem c_X4_putFog (l : Launch) (D : va_G) (tA : Nat → ClassId) (a0 a1 a2 a3 a4 a5 a6 a7 a8 a9 a10 a11 a12 a13 a14 a15 a16 a17 a18 a19 a20 a21 a22 : Nat) (sz : Nat) (ports : Int) (legs : Int) (lower : Int → Int) (upper : Int → Int) (leng : Int → Int) (reach : Int → Int) (meter : Int → Int) (cnt : Int) (strt : Int → Int) (goal : Int → Int) (money : Int → Int) (litN : Int → Int) (darkN : Int → Int) (rng : Int) (nights : Int) (fog : Int) (fund : Int) (refd : Int) (brt : Int) (shrt : Int → Int) (grp : Int → Int) (seen : Int → Int) (tp : Int → Int) (shr : Int → Int) (need : Int → Int) (ordr : Int → Int) (size : Int) (nf : Int) (r_nf : -2147483648 ≤ nf ∧ nf ≤ 2147483647) : zMi l yX4_putFog wsX4_putFog ({ frames := 0, cells := 0, slots := 0, locals := 0 }) D tA [.ref a0, .int (iI nf)] (bOffice tA a0 a1 a2 a3 a4 a5 a6 a7 a8 a9 a10 a11 a12 a13 a14 a15 a16 a17 a18 a19 a20 a21 a22 ports legs lower upper leng reach meter cnt strt goal money litN darkN rng nights fog fund refd brt shrt grp seen tp shr need ordr size) sz (fun (z : Int) (u : Unit) => (z = fog)) (fun (u : Unit) => bOffice tA a0 a1 a2 a3 a4 a5 a6 a7 a8 a9 a10 a11 a12 a13 a14 a15 a16 a17 a18 a19 a20 a21 a22 ports legs lower upper leng reach meter cnt strt goal money litN darkN rng nights nf fund refd brt shrt grp seen tp shr need ordr size) 0 0 := by
  refine zMi_of (cc := cX4_putFog) (maxL := 3) (by decide) rfl (fun z u h => rfl) (Nat.le_of_ble_eq_true rfl) ?_
  intro p e s m args below meth c A Q ls hx hb hml hts hown hK hP hD hA hret hl
  obtain ⟨H, hHe⟩ : ∃ H : Heap, H = s.heap := ⟨_, rfl⟩
  have hS : va_S A s.heap H [] := by rw [hHe]; exact va_S.rf
  rw [← hHe] at hP ⊢
  have hl : lv_has ls 3 [(0, .ref a0), (1, .int (iI nf))] := hl
  have iX4 : ∀ v ∈ wsX40, v ∈ wsX4_putFog := by decide +kernel
  have iX9 : ∀ v ∈ wsX90, v ∈ wsX4_putFog := by decide +kernel
  have f_12 := hts (.fieldLink RX4 12 "HarborLights$Office" "now" "LHarborLights$State;") (by decide +kernel)
  have f_94 := hts (.fieldLink RX4 94 "HarborLights$State" "fog" "I") (by decide +kernel)
  refine lv_aload_n hx hb dX4_putFog_0 rfl (lv_at hl 0 rfl) ?_
  refine va_get (D := D) (ci := 6) (v := .ref a1) (C := RX4) (T := TX4) (N := 3) hx hb hts iX4 hown hK hP 0 rfl rfl 0 (by decide) f_12 (fun _ h9 => h9) rfl dX4_putFog_1 ?_
  refine va_get (D := D) (ci := 11) (v := .int (iI fog)) (C := RX9) (T := TX9) (N := 8) hx hb hts iX9 hown hK hP 1 rfl rfl 4 (by decide) f_94 (fun _ h9 => h9) rfl dX4_putFog_4 ?_
  refine lv_istore_n (lv' := [(2, .int (iI fog)), (0, .ref a0), (1, .int (iI nf))]) hx hb dX4_putFog_7 rfl hl (by decide) rfl (fun ls hl => ?_)
  refine lv_aload_n hx hb dX4_putFog_8 rfl (lv_at hl 1 rfl) ?_
  refine va_get (D := D) (ci := 6) (v := .ref a1) (C := RX4) (T := TX4) (N := 3) hx hb hts iX4 hown hK hP 0 rfl rfl 0 (by decide) f_12 (fun _ h9 => h9) rfl dX4_putFog_9 ?_
  refine lv_iload_n hx hb dX4_putFog_12 rfl (lv_at hl 2 rfl) ?_
  refine va_put (D := D) (ci := 11) (v := .int (iI nf)) (ty := .int) (C := RX9) (T := TX9) (N := 8) hx hb hts iX9 tyX9 tyX9_ok nmX9 hown hK hP hD hS 1 rfl rfl 4 (by decide) f_94 (fun _ h9 => h9) rfl (by decide +kernel) rfl rfl (Nat.le_of_ble_eq_true rfl) dX4_putFog_13 (fun H locs hP hD hS => ?_)
  have hP : va_P D vwCl (bOffice tA a0 a1 a2 a3 a4 a5 a6 a7 a8 a9 a10 a11 a12 a13 a14 a15 a16 a17 a18 a19 a20 a21 a22 ports legs lower upper leng reach meter cnt strt goal money litN darkN rng nights nf fund refd brt shrt grp seen tp shr need ordr size) H := hP
  have hD : va_D A (bOffice tA a0 a1 a2 a3 a4 a5 a6 a7 a8 a9 a10 a11 a12 a13 a14 a15 a16 a17 a18 a19 a20 a21 a22 ports legs lower upper leng reach meter cnt strt goal money litN darkN rng nights nf fund refd brt shrt grp seen tp shr need ordr size) := hD
  refine lv_iload_n hx hb dX4_putFog_16 rfl (lv_at hl 0 rfl) ?_
  exact hret fog () _ _ _ _ dX4_putFog_17 (show fog = fog from by omega) hP hD hS

set_option maxHeartbeats 4000000 in
set_option maxRecDepth 100000 in
theorem c_X4_findNeed (l : Launch) (D : va_G) (tA : Nat → ClassId) (a0 a1 a2 a3 a4 a5 a6 a7 a8 a9 a10 a11 a12 a13 a14 a15 a16 a17 a18 a19 a20 a21 a22 : Nat) (sz : Nat) (ports : Int) (legs : Int) (lower : Int → Int) (upper : Int → Int) (leng : Int → Int) (reach : Int → Int) (meter : Int → Int) (cnt : Int) (strt : Int → Int) (goal : Int → Int) (money : Int → Int) (litN : Int → Int) (darkN : Int → Int) (rng : Int) (nights : Int) (fog : Int) (fund : Int) (refd : Int) (brt : Int) (shrt : Int → Int) (grp : Int → Int) (seen : Int → Int) (tp : Int → Int) (shr : Int → Int) (need : Int → Int) (ordr : Int → Int) (size : Int) (ship : Int) (r_ship : -2147483648 ≤ ship ∧ ship ≤ 2147483647) (hch : ChV ports legs lower upper leng reach) (hc : 0 ≤ cnt ∧ cnt ≤ 6) (hsp : ∀ j, 0 ≤ j → j < cnt → (0 ≤ strt j ∧ strt j < ports ∧ 0 ≤ goal j ∧ goal j < ports ∧ strt j ≠ goal j)) (hs : 0 ≤ ship ∧ ship < cnt) : zMi l yX4_findNeed wsX4_findNeed ({ frames := 2, cells := 0, slots := 0, locals := 49 }) D tA [.ref a0, .int (iI ship)] (bOffice tA a0 a1 a2 a3 a4 a5 a6 a7 a8 a9 a10 a11 a12 a13 a14 a15 a16 a17 a18 a19 a20 a21 a22 ports legs lower upper leng reach meter cnt strt goal money litN darkN rng nights fog fund refd brt shrt grp seen tp shr need ordr size) sz (fun (z : Int) (u : (Int → Int)) => (needP (eg legs lower upper leng reach) (strt ship) (goal ship) z)) (fun (u : (Int → Int)) => bOffice tA a0 a1 a2 a3 a4 a5 a6 a7 a8 a9 a10 a11 a12 a13 a14 a15 a16 a17 a18 a19 a20 a21 a22 ports legs lower upper leng reach meter cnt strt goal money litN darkN rng nights fog fund refd brt shrt u seen tp shr need ordr size) 0 0 := by
  refine zMi_of (cc := cX4_findNeed) (maxL := 2) (by decide) rfl (fun z u h => rfl) (Nat.le_of_ble_eq_true rfl) ?_
  intro p e s m args below meth c A Q ls hx hb hml hts hown hK hP hD hA hret hl
  obtain ⟨H, hHe⟩ : ∃ H : Heap, H = s.heap := ⟨_, rfl⟩
  have hS : va_S A s.heap H [] := by rw [hHe]; exact va_S.rf
  rw [← hHe] at hP ⊢
  have hl : lv_has ls 2 [(0, .ref a0), (1, .int (iI ship))] := hl
  have iX4 : ∀ v ∈ wsX40, v ∈ wsX4_findNeed := by decide +kernel
  have iX8 : ∀ v ∈ wsX80, v ∈ wsX4_findNeed := by decide +kernel
  have iX9 : ∀ v ∈ wsX90, v ∈ wsX4_findNeed := by decide +kernel
  have f_12 := hts (.fieldLink RX4 12 "HarborLights$Office" "now" "LHarborLights$State;") (by decide +kernel)
  have f_21 := hts (.fieldLink RX4 21 "HarborLights$Office" "routes" "LHarborLights$Routes;") (by decide +kernel)
  have f_32 := hts (.fieldLink RX4 32 "HarborLights$State" "chart" "LHarborLights$Chart;") (by decide +kernel)
  have f_65 := hts (.fieldLink RX4 65 "HarborLights$State" "ships" "LHarborLights$Ships;") (by decide +kernel)
  have f_171 := hts (.fieldLink RX4 171 "HarborLights$Ships" "start" "[I") (by decide +kernel)
  have f_174 := hts (.fieldLink RX4 174 "HarborLights$Ships" "goal" "[I") (by decide +kernel)
  obtain ⟨vp0, vp1, vl0, vl1, -, -⟩ := id hch
  have hsx := hsp ship hs.1 hs.2
  refine lv_aload_n hx hb dX4_findNeed_0 rfl (lv_at hl 0 rfl) ?_
  refine va_get (D := D) (ci := 6) (v := .ref a14) (C := RX4) (T := TX4) (N := 3) hx hb hts iX4 hown hK hP 0 rfl rfl 1 (by decide) f_21 (fun _ h9 => h9) rfl dX4_findNeed_1 ?_
  refine lv_aload_n hx hb dX4_findNeed_4 rfl (lv_at hl 0 rfl) ?_
  refine va_get (D := D) (ci := 6) (v := .ref a1) (C := RX4) (T := TX4) (N := 3) hx hb hts iX4 hown hK hP 0 rfl rfl 0 (by decide) f_12 (fun _ h9 => h9) rfl dX4_findNeed_5 ?_
  refine va_get (D := D) (ci := 11) (v := .ref a2) (C := RX9) (T := TX9) (N := 8) hx hb hts iX9 hown hK hP 1 rfl rfl 0 (by decide) f_32 (fun _ h9 => h9) rfl dX4_findNeed_8 ?_
  refine lv_aload_n hx hb dX4_findNeed_11 rfl (lv_at hl 0 rfl) ?_
  refine va_get (D := D) (ci := 6) (v := .ref a1) (C := RX4) (T := TX4) (N := 3) hx hb hts iX4 hown hK hP 0 rfl rfl 0 (by decide) f_12 (fun _ h9 => h9) rfl dX4_findNeed_12 ?_
  refine va_get (D := D) (ci := 11) (v := .ref a8) (C := RX9) (T := TX9) (N := 8) hx hb hts iX9 hown hK hP 1 rfl rfl 1 (by decide) f_65 (fun _ h9 => h9) rfl dX4_findNeed_15 ?_
  refine va_get (D := D) (ci := 10) (v := .ref a9) (C := RX8) (T := TX8) (N := 6) hx hb hts iX8 hown hK hP 8 rfl rfl 1 (by decide) f_171 (fun _ h9 => h9) rfl dX4_findNeed_18 ?_
  refine lv_iload_n hx hb dX4_findNeed_21 rfl (lv_at hl 1 rfl) ?_
  refine zz_iald hx hb hK hP 9 rfl (by decide) (by omega) dX4_findNeed_22 ?_
  refine lv_aload_n hx hb dX4_findNeed_23 rfl (lv_at hl 0 rfl) ?_
  refine va_get (D := D) (ci := 6) (v := .ref a1) (C := RX4) (T := TX4) (N := 3) hx hb hts iX4 hown hK hP 0 rfl rfl 0 (by decide) f_12 (fun _ h9 => h9) rfl dX4_findNeed_24 ?_
  refine va_get (D := D) (ci := 11) (v := .ref a8) (C := RX9) (T := TX9) (N := 8) hx hb hts iX9 hown hK hP 1 rfl rfl 1 (by decide) f_65 (fun _ h9 => h9) rfl dX4_findNeed_27 ?_
  refine va_get (D := D) (ci := 10) (v := .ref a10) (C := RX8) (T := TX8) (N := 6) hx hb hts iX8 hown hK hP 8 rfl rfl 2 (by decide) f_174 (fun _ h9 => h9) rfl dX4_findNeed_30 ?_
  refine lv_iload_n hx hb dX4_findNeed_33 rfl (lv_at hl 1 rfl) ?_
  refine zz_iald hx hb hK hP 10 rfl (by decide) (by omega) dX4_findNeed_34 ?_
  refine zz_callVi (As := [.ref a2, .int (iI (strt ship)), .int (iI (goal ship))]) (rest := []) (wf := fun u => bOffice tA a0 a1 a2 a3 a4 a5 a6 a7 a8 a9 a10 a11 a12 a13 a14 a15 a16 a17 a18 a19 a20 a21 a22 ports legs lower upper leng reach meter cnt strt goal money litN darkN rng nights fog fund refd brt shrt u seen tp shr need ordr size) ⟨hx, hb, hml, hown, hts⟩ (c_X5_needByJoining l D tA a14 a15 a16 a17 a2 a3 a4 a5 a6 a7 H.size shrt grp seen ports legs lower upper leng reach meter (strt ship) (goal ship) (by first | assumption | omega) (by first | assumption | omega) (by first | assumption | omega) (by first | assumption | omega) (by first | assumption | omega) (by first | assumption | omega)) (cwV 3 hts gX4_findNeed_X5_needByJoining rfl rfl rfl (by decide +kernel) ⟨Nat.le_of_ble_eq_true rfl, Nat.le_of_ble_eq_true rfl⟩) hK hP hD hS hA [14, 15, 16, 17, 2, 3, 4, 5, 6, 7] [0, 1, 8, 9, 10, 11, 12, 13, 18, 19, 20, 21, 22] [0, 1, 17, 18, 19, 20, 21, 22, 2, 3, 4, 5, 6, 7, 13, 14, 15, 16, 8, 9, 10, 11, 12] rfl rfl (by decide) (by decide) (by decide) (by decide) (fun _ => rfl) (ci := 7) (q0 := 0) rfl rfl rfl rfl rfl hl.1 (Nat.le_of_ble_eq_true rfl) dX4_findNeed_35 ⟨Nat.le_of_ble_eq_true rfl, Nat.le_of_ble_eq_true rfl⟩ ?_
  intro z35_2 u H locs p35_3 hP hD hS
  obtain ⟨grp_1, rfl⟩ : ∃ q, q = u := ⟨_, rfl⟩
  have hP : va_P D vwCl (bOffice tA a0 a1 a2 a3 a4 a5 a6 a7 a8 a9 a10 a11 a12 a13 a14 a15 a16 a17 a18 a19 a20 a21 a22 ports legs lower upper leng reach meter cnt strt goal money litN darkN rng nights fog fund refd brt shrt grp_1 seen tp shr need ordr size) H := hP
  have hD : va_D A (bOffice tA a0 a1 a2 a3 a4 a5 a6 a7 a8 a9 a10 a11 a12 a13 a14 a15 a16 a17 a18 a19 a20 a21 a22 ports legs lower upper leng reach meter cnt strt goal money litN darkN rng nights fog fund refd brt shrt grp_1 seen tp shr need ordr size) := hD
  have qn_35 : needP (eg legs lower upper leng reach) (strt ship) (goal ship) z35_2 := p35_3
  exact hret z35_2 grp_1 _ _ _ _ dX4_findNeed_38 (show needP (eg legs lower upper leng reach) (strt ship) (goal ship) z35_2 from by exact qn_35) hP hD hS

set_option maxHeartbeats 4000000 in
set_option maxRecDepth 100000 in
theorem c_X4_gatherAll (l : Launch) (D : va_G) (tA : Nat → ClassId) (a0 a1 a2 a3 a4 a5 a6 a7 a8 a9 a10 a11 a12 a13 a14 a15 a16 a17 a18 a19 a20 a21 a22 : Nat) (sz : Nat) (ports : Int) (legs : Int) (lower : Int → Int) (upper : Int → Int) (leng : Int → Int) (reach : Int → Int) (meter : Int → Int) (cnt : Int) (strt : Int → Int) (goal : Int → Int) (money : Int → Int) (litN : Int → Int) (darkN : Int → Int) (rng : Int) (nights : Int) (fog : Int) (fund : Int) (refd : Int) (brt : Int) (shrt : Int → Int) (grp : Int → Int) (seen : Int → Int) (tp : Int → Int) (shr : Int → Int) (need : Int → Int) (ordr : Int → Int) (size : Int) (hch : ChV ports legs lower upper leng reach) (hc : 0 ≤ cnt ∧ cnt ≤ 6) (hsp : ∀ j, 0 ≤ j → j < cnt → (0 ≤ strt j ∧ strt j < ports ∧ 0 ≤ goal j ∧ goal j < ports ∧ strt j ≠ goal j)) : zMv l yX4_gatherAll wsX4_gatherAll ({ frames := 2, cells := 0, slots := 0, locals := 49 }) D tA [.ref a0] (bOffice tA a0 a1 a2 a3 a4 a5 a6 a7 a8 a9 a10 a11 a12 a13 a14 a15 a16 a17 a18 a19 a20 a21 a22 ports legs lower upper leng reach meter cnt strt goal money litN darkN rng nights fog fund refd brt shrt grp seen tp shr need ordr size) sz (fun (u : (Int → Int) × (Int → Int) × (Int → Int)) => (isGat (eg legs lower upper leng reach) cnt strt goal u.1 u.2.1)) (fun (u : (Int → Int) × (Int → Int) × (Int → Int)) => bOffice tA a0 a1 a2 a3 a4 a5 a6 a7 a8 a9 a10 a11 a12 a13 a14 a15 a16 a17 a18 a19 a20 a21 a22 ports legs lower upper leng reach meter cnt strt goal money litN darkN rng nights fog fund refd brt shrt u.2.2 seen u.1 shr u.2.1 ordr size) 0 0 := by
  refine zMv_of (cc := cX4_gatherAll) (maxL := 3) (by decide) rfl (Nat.le_of_ble_eq_true rfl) ?_
  intro p e s m args below meth c A Q ls hx hb hml hts hown hK hP hD hA hret hl
  obtain ⟨H, hHe⟩ : ∃ H : Heap, H = s.heap := ⟨_, rfl⟩
  have hS : va_S A s.heap H [] := by rw [hHe]; exact va_S.rf
  rw [← hHe] at hP ⊢
  have hl : lv_has ls 3 [(0, .ref a0)] := hl
  have iX4 : ∀ v ∈ wsX40, v ∈ wsX4_gatherAll := by decide +kernel
  have iX8 : ∀ v ∈ wsX80, v ∈ wsX4_gatherAll := by decide +kernel
  have iX9 : ∀ v ∈ wsX90, v ∈ wsX4_gatherAll := by decide +kernel
  have f_12 := hts (.fieldLink RX4 12 "HarborLights$Office" "now" "LHarborLights$State;") (by decide +kernel)
  have f_21 := hts (.fieldLink RX4 21 "HarborLights$Office" "routes" "LHarborLights$Routes;") (by decide +kernel)
  have f_28 := hts (.fieldLink RX4 28 "HarborLights$Office" "shares" "LHarborLights$Shares;") (by decide +kernel)
  have f_32 := hts (.fieldLink RX4 32 "HarborLights$State" "chart" "LHarborLights$Chart;") (by decide +kernel)
  have f_65 := hts (.fieldLink RX4 65 "HarborLights$State" "ships" "LHarborLights$Ships;") (by decide +kernel)
  have f_69 := hts (.fieldLink RX4 69 "HarborLights$Ships" "count" "I") (by decide +kernel)
  have f_171 := hts (.fieldLink RX4 171 "HarborLights$Ships" "start" "[I") (by decide +kernel)
  have f_174 := hts (.fieldLink RX4 174 "HarborLights$Ships" "goal" "[I") (by decide +kernel)
  obtain ⟨vp0, vp1, vl0, vl1, -, -⟩ := id hch
  refine lv_aload_n hx hb dX4_gatherAll_0 rfl (lv_at hl 0 rfl) ?_
  refine va_get (D := D) (ci := 6) (v := .ref a18) (C := RX4) (T := TX4) (N := 3) hx hb hts iX4 hown hK hP 0 rfl rfl 2 (by decide) f_28 (fun _ h9 => h9) rfl dX4_gatherAll_1 ?_
  refine zz_callVv (As := []) (rest := []) (wf := fun u => bOffice tA a0 a1 a2 a3 a4 a5 a6 a7 a8 a9 a10 a11 a12 a13 a14 a15 a16 a17 a18 a19 a20 a21 a22 ports legs lower upper leng reach meter cnt strt goal money litN darkN rng nights fog fund refd brt shrt grp seen u shr need ordr size) ⟨hx, hb, hml, hown, hts⟩ (c_X7_clear l D tA a18 a19 a20 a21 a22 H.size tp shr need ordr size) (cwV 0 hts gX4_gatherAll_X7_clear rfl rfl rfl (by decide +kernel) ⟨Nat.le_of_ble_eq_true rfl, Nat.le_of_ble_eq_true rfl⟩) hK hP hD hS hA [18, 19, 20, 21, 22] [0, 1, 2, 3, 4, 5, 6, 7, 8, 9, 10, 11, 12, 13, 14, 15, 16, 17] [0, 1, 2, 3, 4, 5, 6, 7, 8, 9, 10, 11, 12, 13, 14, 15, 16, 17, 18, 19, 20, 21, 22] rfl rfl (by decide) (by decide) (by decide) (by decide) (fun _ => rfl) (ci := 9) (q0 := 0) rfl rfl rfl rfl rfl hl.1 (Nat.le_of_ble_eq_true rfl) dX4_gatherAll_4 ⟨Nat.le_of_ble_eq_true rfl, Nat.le_of_ble_eq_true rfl⟩ ?_
  intro u H locs p4_2 hP hD hS
  obtain ⟨tp_1, rfl⟩ : ∃ q, q = u := ⟨_, rfl⟩
  have hP : va_P D vwCl (bOffice tA a0 a1 a2 a3 a4 a5 a6 a7 a8 a9 a10 a11 a12 a13 a14 a15 a16 a17 a18 a19 a20 a21 a22 ports legs lower upper leng reach meter cnt strt goal money litN darkN rng nights fog fund refd brt shrt grp seen tp_1 shr need ordr size) H := hP
  have hD : va_D A (bOffice tA a0 a1 a2 a3 a4 a5 a6 a7 a8 a9 a10 a11 a12 a13 a14 a15 a16 a17 a18 a19 a20 a21 a22 ports legs lower upper leng reach meter cnt strt goal money litN darkN rng nights fog fund refd brt shrt grp seen tp_1 shr need ordr size) := hD
  have q_4 : ∀ j, 0 ≤ j → j < 6 → tp_1 j = 0 := p4_2
  refine zz_iconst hx hb dX4_gatherAll_7 ?_
  refine lv_istore_n (lv' := [(1, .int (iI 0)), (0, .ref a0)]) hx hb dX4_gatherAll_8 rfl hl (by decide) rfl (fun ls hl => ?_)
  have L9 : ∀ (n : Nat) (i : Int) (t9 : Int → Int) (n9 : Int → Int) (g9 : Int → Int) (H : Heap) (locs : List Loc) (ls : Array Slot), (0 ≤ i ∧ i ≤ cnt) → (isGat (eg legs lower upper leng reach) i strt goal t9 n9) → (cnt - i).toNat < n → va_P D vwCl (bOffice tA a0 a1 a2 a3 a4 a5 a6 a7 a8 a9 a10 a11 a12 a13 a14 a15 a16 a17 a18 a19 a20 a21 a22 ports legs lower upper leng reach meter cnt strt goal money litN darkN rng nights fog fund refd brt shrt g9 seen t9 shr n9 ordr size) H → va_D A (bOffice tA a0 a1 a2 a3 a4 a5 a6 a7 a8 a9 a10 a11 a12 a13 a14 a15 a16 a17 a18 a19 a20 a21 a22 ports legs lower upper leng reach meter cnt strt goal money litN darkN rng nights fog fund refd brt shrt g9 seen t9 shr n9 ordr size) → va_S A s.heap H locs → lv_has ls 3 [(1, .int (iI i)), (0, .ref a0)] → W p l e (headSpec wsX4_gatherAll ({ frames := 2, cells := 0, slots := 0, locals := 49 })).room s m args below meth c H locs 0 0 Q (F0 m 9 ls []) := by
    intro n
    induction n with
    | zero => intro i t9 n9 g9 H locs ls i0 i1 hmz; exact absurd hmz (Nat.not_lt_zero _)
    | succ n ih9 =>
      intro i t9 n9 g9 H locs ls i0 i1 hmz hP hD hS hl
      refine lv_iload_n hx hb dX4_gatherAll_9 rfl (lv_at hl 0 rfl) ?_
      refine lv_aload_n hx hb dX4_gatherAll_10 rfl (lv_at hl 1 rfl) ?_
      refine va_get (D := D) (ci := 6) (v := .ref a1) (C := RX4) (T := TX4) (N := 3) hx hb hts iX4 hown hK hP 0 rfl rfl 0 (by decide) f_12 (fun _ h9 => h9) rfl dX4_gatherAll_11 ?_
      refine va_get (D := D) (ci := 11) (v := .ref a8) (C := RX9) (T := TX9) (N := 8) hx hb hts iX9 hown hK hP 1 rfl rfl 1 (by decide) f_65 (fun _ h9 => h9) rfl dX4_gatherAll_14 ?_
      refine va_get (D := D) (ci := 10) (v := .int (iI cnt)) (C := RX8) (T := TX8) (N := 6) hx hb hts iX8 hown hK hP 8 rfl rfl 0 (by decide) f_69 (fun _ h9 => h9) rfl dX4_gatherAll_17 ?_
      refine zz_icmp_ge (tgt := 77) hx hb dX4_gatherAll_20 (by decide) (by omega) (by omega) (fun c_20 => ?_) (fun c_20 => ?_)
      · exact hret (t9, n9, g9) _ _ _ _ dX4_gatherAll_77 (show isGat (eg legs lower upper leng reach) cnt strt goal t9 n9 from by rw [show i = cnt by omega] at i1; exact i1) hP hD hS
      · refine lv_aload_n hx hb dX4_gatherAll_23 rfl (lv_at hl 1 rfl) ?_
        refine va_get (D := D) (ci := 6) (v := .ref a14) (C := RX4) (T := TX4) (N := 3) hx hb hts iX4 hown hK hP 0 rfl rfl 1 (by decide) f_21 (fun _ h9 => h9) rfl dX4_gatherAll_24 ?_
        refine lv_aload_n hx hb dX4_gatherAll_27 rfl (lv_at hl 1 rfl) ?_
        refine va_get (D := D) (ci := 6) (v := .ref a1) (C := RX4) (T := TX4) (N := 3) hx hb hts iX4 hown hK hP 0 rfl rfl 0 (by decide) f_12 (fun _ h9 => h9) rfl dX4_gatherAll_28 ?_
        refine va_get (D := D) (ci := 11) (v := .ref a2) (C := RX9) (T := TX9) (N := 8) hx hb hts iX9 hown hK hP 1 rfl rfl 0 (by decide) f_32 (fun _ h9 => h9) rfl dX4_gatherAll_31 ?_
        refine lv_aload_n hx hb dX4_gatherAll_34 rfl (lv_at hl 1 rfl) ?_
        refine va_get (D := D) (ci := 6) (v := .ref a1) (C := RX4) (T := TX4) (N := 3) hx hb hts iX4 hown hK hP 0 rfl rfl 0 (by decide) f_12 (fun _ h9 => h9) rfl dX4_gatherAll_35 ?_
        refine va_get (D := D) (ci := 11) (v := .ref a8) (C := RX9) (T := TX9) (N := 8) hx hb hts iX9 hown hK hP 1 rfl rfl 1 (by decide) f_65 (fun _ h9 => h9) rfl dX4_gatherAll_38 ?_
        have hsx := hsp i (by omega) (by omega)
        refine va_get (D := D) (ci := 10) (v := .ref a9) (C := RX8) (T := TX8) (N := 6) hx hb hts iX8 hown hK hP 8 rfl rfl 1 (by decide) f_171 (fun _ h9 => h9) rfl dX4_gatherAll_41 ?_
        refine lv_iload_n hx hb dX4_gatherAll_44 rfl (lv_at hl 0 rfl) ?_
        refine zz_iald hx hb hK hP 9 rfl (by decide) (by omega) dX4_gatherAll_45 ?_
        refine lv_aload_n hx hb dX4_gatherAll_46 rfl (lv_at hl 1 rfl) ?_
        refine va_get (D := D) (ci := 6) (v := .ref a1) (C := RX4) (T := TX4) (N := 3) hx hb hts iX4 hown hK hP 0 rfl rfl 0 (by decide) f_12 (fun _ h9 => h9) rfl dX4_gatherAll_47 ?_
        refine va_get (D := D) (ci := 11) (v := .ref a8) (C := RX9) (T := TX9) (N := 8) hx hb hts iX9 hown hK hP 1 rfl rfl 1 (by decide) f_65 (fun _ h9 => h9) rfl dX4_gatherAll_50 ?_
        refine va_get (D := D) (ci := 10) (v := .ref a10) (C := RX8) (T := TX8) (N := 6) hx hb hts iX8 hown hK hP 8 rfl rfl 2 (by decide) f_174 (fun _ h9 => h9) rfl dX4_gatherAll_53 ?_
        refine lv_iload_n hx hb dX4_gatherAll_56 rfl (lv_at hl 0 rfl) ?_
        refine zz_iald hx hb hK hP 10 rfl (by decide) (by omega) dX4_gatherAll_57 ?_
        refine zz_callVi (As := [.ref a2, .int (iI (strt i)), .int (iI (goal i))]) (rest := []) (wf := fun u => bOffice tA a0 a1 a2 a3 a4 a5 a6 a7 a8 a9 a10 a11 a12 a13 a14 a15 a16 a17 a18 a19 a20 a21 a22 ports legs lower upper leng reach meter cnt strt goal money litN darkN rng nights fog fund refd brt shrt u seen t9 shr n9 ordr size) ⟨hx, hb, hml, hown, hts⟩ (c_X5_needByJoining l D tA a14 a15 a16 a17 a2 a3 a4 a5 a6 a7 H.size shrt g9 seen ports legs lower upper leng reach meter (strt i) (goal i) (by first | assumption | omega) (by first | assumption | omega) (by first | assumption | omega) (by first | assumption | omega) (by first | assumption | omega) (by first | assumption | omega)) (cwV 3 hts gX4_gatherAll_X5_needByJoining rfl rfl rfl (by decide +kernel) ⟨Nat.le_of_ble_eq_true rfl, Nat.le_of_ble_eq_true rfl⟩) hK hP hD hS hA [14, 15, 16, 17, 2, 3, 4, 5, 6, 7] [0, 1, 8, 9, 10, 11, 12, 13, 18, 19, 20, 21, 22] [0, 1, 17, 18, 19, 20, 21, 22, 2, 3, 4, 5, 6, 7, 13, 14, 15, 16, 8, 9, 10, 11, 12] rfl rfl (by decide) (by decide) (by decide) (by decide) (fun _ => rfl) (ci := 7) (q0 := 0) rfl rfl rfl rfl rfl hl.1 (Nat.le_of_ble_eq_true rfl) dX4_gatherAll_58 ⟨Nat.le_of_ble_eq_true rfl, Nat.le_of_ble_eq_true rfl⟩ ?_
        intro z58_4 u H locs p58_5 hP hD hS
        obtain ⟨grp_3, rfl⟩ : ∃ q, q = u := ⟨_, rfl⟩
        have hP : va_P D vwCl (bOffice tA a0 a1 a2 a3 a4 a5 a6 a7 a8 a9 a10 a11 a12 a13 a14 a15 a16 a17 a18 a19 a20 a21 a22 ports legs lower upper leng reach meter cnt strt goal money litN darkN rng nights fog fund refd brt shrt grp_3 seen t9 shr n9 ordr size) H := hP
        have hD : va_D A (bOffice tA a0 a1 a2 a3 a4 a5 a6 a7 a8 a9 a10 a11 a12 a13 a14 a15 a16 a17 a18 a19 a20 a21 a22 ports legs lower upper leng reach meter cnt strt goal money litN darkN rng nights fog fund refd brt shrt grp_3 seen t9 shr n9 ordr size) := hD
        have qn_58 : needP (eg legs lower upper leng reach) (strt i) (goal i) z58_4 := p58_5
        have hni := needP_in qn_58
        refine lv_istore_n (lv' := [(2, .int (iI z58_4)), (1, .int (iI i)), (0, .ref a0)]) hx hb dX4_gatherAll_61 rfl hl (by decide) rfl (fun ls hl => ?_)
        refine lv_aload_n hx hb dX4_gatherAll_62 rfl (lv_at hl 2 rfl) ?_
        refine va_get (D := D) (ci := 6) (v := .ref a18) (C := RX4) (T := TX4) (N := 3) hx hb hts iX4 hown hK hP 0 rfl rfl 2 (by decide) f_28 (fun _ h9 => h9) rfl dX4_gatherAll_63 ?_
        refine lv_iload_n hx hb dX4_gatherAll_66 rfl (lv_at hl 1 rfl) ?_
        refine lv_iload_n hx hb dX4_gatherAll_67 rfl (lv_at hl 0 rfl) ?_
        refine zz_callVv (As := [.int (iI i), .int (iI z58_4)]) (rest := []) (wf := fun u => bOffice tA a0 a1 a2 a3 a4 a5 a6 a7 a8 a9 a10 a11 a12 a13 a14 a15 a16 a17 a18 a19 a20 a21 a22 ports legs lower upper leng reach meter cnt strt goal money litN darkN rng nights fog fund refd brt shrt grp_3 seen (zU t9 i (if z58_4 = -1 then 0 else 1)) shr (zU n9 i z58_4) ordr size) ⟨hx, hb, hml, hown, hts⟩ (c_X7_enter l D tA a18 a19 a20 a21 a22 H.size t9 shr n9 ordr size i z58_4 (by first | assumption | omega) (by first | assumption | omega) (by first | assumption | omega)) (cwV 2 hts gX4_gatherAll_X7_enter rfl rfl rfl (by decide +kernel) ⟨Nat.le_of_ble_eq_true rfl, Nat.le_of_ble_eq_true rfl⟩) hK hP hD hS hA [18, 19, 20, 21, 22] [0, 1, 2, 3, 4, 5, 6, 7, 8, 9, 10, 11, 12, 13, 14, 15, 16, 17] [0, 1, 2, 3, 4, 5, 6, 7, 8, 9, 10, 11, 12, 13, 14, 15, 16, 17, 18, 19, 20, 21, 22] rfl rfl (by decide) (by decide) (by decide) (by decide) (fun _ => rfl) (ci := 9) (q0 := 0) rfl rfl rfl rfl rfl hl.1 (Nat.le_of_ble_eq_true rfl) dX4_gatherAll_68 ⟨Nat.le_of_ble_eq_true rfl, Nat.le_of_ble_eq_true rfl⟩ ?_
        intro u H locs p68_6 hP hD hS
        have hP : va_P D vwCl (bOffice tA a0 a1 a2 a3 a4 a5 a6 a7 a8 a9 a10 a11 a12 a13 a14 a15 a16 a17 a18 a19 a20 a21 a22 ports legs lower upper leng reach meter cnt strt goal money litN darkN rng nights fog fund refd brt shrt grp_3 seen (zU t9 i (if z58_4 = -1 then 0 else 1)) shr (zU n9 i z58_4) ordr size) H := hP
        have hD : va_D A (bOffice tA a0 a1 a2 a3 a4 a5 a6 a7 a8 a9 a10 a11 a12 a13 a14 a15 a16 a17 a18 a19 a20 a21 a22 ports legs lower upper leng reach meter cnt strt goal money litN darkN rng nights fog fund refd brt shrt grp_3 seen (zU t9 i (if z58_4 = -1 then 0 else 1)) shr (zU n9 i z58_4) ordr size) := hD
        refine zz_iinc (lv' := [(1, .int (iI (i + 1))), (2, .int (iI z58_4)), (0, .ref a0)]) hx hb dX4_gatherAll_71 hl (k := 1) rfl (by decide) rfl (fun ls hl => ?_)
        refine lv_goto (tgt := 9) hx hb dX4_gatherAll_74 (by decide) ?_
        exact ih9 (i + 1) (zU t9 i (if z58_4 = -1 then 0 else 1)) (zU n9 i z58_4) grp_3 _ _ _ (by omega) (by exact isGat_s (by omega) i1 qn_58) (by omega) hP hD hS (lv_sub hl [0, 2] rfl)
  exact L9 _ 0 tp_1 need grp _ _ _ (by omega) (by exact isGat_0 q_4) (Nat.lt_succ_self _) hP hD hS (lv_sub hl [0, 1] rfl)

set_option maxHeartbeats 4000000 in
set_option maxRecDepth 100000 in
theorem c_X4_planNight (l : Launch) (D : va_G) (tA : Nat → ClassId) (a0 a1 a2 a3 a4 a5 a6 a7 a8 a9 a10 a11 a12 a13 a14 a15 a16 a17 a18 a19 a20 a21 a22 : Nat) (sz : Nat) (ports : Int) (legs : Int) (lower : Int → Int) (upper : Int → Int) (leng : Int → Int) (reach : Int → Int) (meter : Int → Int) (cnt : Int) (strt : Int → Int) (goal : Int → Int) (money : Int → Int) (litN : Int → Int) (darkN : Int → Int) (rng : Int) (nights : Int) (fog : Int) (fund : Int) (refd : Int) (brt : Int) (shrt : Int → Int) (grp : Int → Int) (seen : Int → Int) (tp : Int → Int) (shr : Int → Int) (need : Int → Int) (ordr : Int → Int) (size : Int) (hch : ChV ports legs lower upper leng reach) (hc : 0 ≤ cnt ∧ cnt ≤ 6) (hsp : ∀ j, 0 ≤ j → j < cnt → (0 ≤ strt j ∧ strt j < ports ∧ 0 ≤ goal j ∧ goal j < ports ∧ strt j ≠ goal j)) (hm : ∀ j, 0 ≤ j → j < cnt → (0 ≤ money j ∧ money j ≤ 1000000000)) : zMv l yX4_planNight wsX4_planNight ({ frames := 3, cells := 0, slots := 0, locals := 72 }) D tA [.ref a0] (bOffice tA a0 a1 a2 a3 a4 a5 a6 a7 a8 a9 a10 a11 a12 a13 a14 a15 a16 a17 a18 a19 a20 a21 a22 ports legs lower upper leng reach meter cnt strt goal money litN darkN rng nights fog fund refd brt shrt grp seen tp shr need ordr size) sz (fun (u : (Int → Int) × (Int → Int) × (Int → Int) × (Int → Int)) => (isPlan (eg legs lower upper leng reach) cnt strt goal money u.1 u.2.1 u.2.2.1)) (fun (u : (Int → Int) × (Int → Int) × (Int → Int) × (Int → Int)) => bOffice tA a0 a1 a2 a3 a4 a5 a6 a7 a8 a9 a10 a11 a12 a13 a14 a15 a16 a17 a18 a19 a20 a21 a22 ports legs lower upper leng reach meter cnt strt goal money litN darkN rng nights fog fund refd brt shrt u.2.2.2 seen u.1 u.2.2.1 u.2.1 ordr size) 0 0 := by
  refine zMv_of (cc := cX4_planNight) (maxL := 1) (by decide) rfl (Nat.le_of_ble_eq_true rfl) ?_
  intro p e s m args below meth c A Q ls hx hb hml hts hown hK hP hD hA hret hl
  obtain ⟨H, hHe⟩ : ∃ H : Heap, H = s.heap := ⟨_, rfl⟩
  have hS : va_S A s.heap H [] := by rw [hHe]; exact va_S.rf
  rw [← hHe] at hP ⊢
  have hl : lv_has ls 1 [(0, .ref a0)] := hl
  have iX4 : ∀ v ∈ wsX40, v ∈ wsX4_planNight := by decide +kernel
  have iX9 : ∀ v ∈ wsX90, v ∈ wsX4_planNight := by decide +kernel
  have f_12 := hts (.fieldLink RX4 12 "HarborLights$Office" "now" "LHarborLights$State;") (by decide +kernel)
  have f_28 := hts (.fieldLink RX4 28 "HarborLights$Office" "shares" "LHarborLights$Shares;") (by decide +kernel)
  have f_65 := hts (.fieldLink RX4 65 "HarborLights$State" "ships" "LHarborLights$Ships;") (by decide +kernel)
  obtain ⟨vp0, vp1, vl0, vl1, -, -⟩ := id hch
  have Rm : ∀ j, 0 ≤ j → j < cnt → -2147483648 ≤ money j ∧ money j ≤ 2147483647 := fun j j0 j1 => by have := hm j j0 j1; omega
  refine lv_aload_n hx hb dX4_planNight_0 rfl (lv_at hl 0 rfl) ?_
  refine zz_callVv (As := []) (rest := []) (wf := fun u => bOffice tA a0 a1 a2 a3 a4 a5 a6 a7 a8 a9 a10 a11 a12 a13 a14 a15 a16 a17 a18 a19 a20 a21 a22 ports legs lower upper leng reach meter cnt strt goal money litN darkN rng nights fog fund refd brt shrt u.2.2 seen u.1 shr u.2.1 ordr size) ⟨hx, hb, hml, hown, hts⟩ (c_X4_gatherAll l D tA a0 a1 a2 a3 a4 a5 a6 a7 a8 a9 a10 a11 a12 a13 a14 a15 a16 a17 a18 a19 a20 a21 a22 H.size ports legs lower upper leng reach meter cnt strt goal money litN darkN rng nights fog fund refd brt shrt grp seen tp shr need ordr size (by first | assumption | omega) (by first | assumption | omega) (by first | assumption | omega)) (cwV 0 hts gX4_planNight_X4_gatherAll rfl rfl rfl (by decide +kernel) ⟨Nat.le_of_ble_eq_true rfl, Nat.le_of_ble_eq_true rfl⟩) hK hP hD hS hA [0, 1, 2, 3, 4, 5, 6, 7, 8, 9, 10, 11, 12, 13, 14, 15, 16, 17, 18, 19, 20, 21, 22] [] [0, 1, 2, 3, 4, 5, 6, 7, 8, 9, 10, 11, 12, 13, 14, 15, 16, 17, 18, 19, 20, 21, 22] rfl rfl (by decide) (by decide) (by decide) (by decide) (fun _ => rfl) (ci := 6) (q0 := 0) rfl rfl rfl rfl rfl hl.1 (Nat.le_of_ble_eq_true rfl) dX4_planNight_1 ⟨Nat.le_of_ble_eq_true rfl, Nat.le_of_ble_eq_true rfl⟩ ?_
  intro u H locs p1_4 hP hD hS
  obtain ⟨tp_1, need_2, grp_3⟩ := u
  have hP : va_P D vwCl (bOffice tA a0 a1 a2 a3 a4 a5 a6 a7 a8 a9 a10 a11 a12 a13 a14 a15 a16 a17 a18 a19 a20 a21 a22 ports legs lower upper leng reach meter cnt strt goal money litN darkN rng nights fog fund refd brt shrt grp_3 seen tp_1 shr need_2 ordr size) H := hP
  have hD : va_D A (bOffice tA a0 a1 a2 a3 a4 a5 a6 a7 a8 a9 a10 a11 a12 a13 a14 a15 a16 a17 a18 a19 a20 a21 a22 ports legs lower upper leng reach meter cnt strt goal money litN darkN rng nights fog fund refd brt shrt grp_3 seen tp_1 shr need_2 ordr size) := hD
  have q_1 : isGat (eg legs lower upper leng reach) cnt strt goal tp_1 need_2 := p1_4
  refine lv_aload_n hx hb dX4_planNight_4 rfl (lv_at hl 0 rfl) ?_
  refine va_get (D := D) (ci := 6) (v := .ref a18) (C := RX4) (T := TX4) (N := 3) hx hb hts iX4 hown hK hP 0 rfl rfl 2 (by decide) f_28 (fun _ h9 => h9) rfl dX4_planNight_5 ?_
  refine lv_aload_n hx hb dX4_planNight_8 rfl (lv_at hl 0 rfl) ?_
  refine va_get (D := D) (ci := 6) (v := .ref a1) (C := RX4) (T := TX4) (N := 3) hx hb hts iX4 hown hK hP 0 rfl rfl 0 (by decide) f_12 (fun _ h9 => h9) rfl dX4_planNight_9 ?_
  refine va_get (D := D) (ci := 11) (v := .ref a8) (C := RX9) (T := TX9) (N := 8) hx hb hts iX9 hown hK hP 1 rfl rfl 1 (by decide) f_65 (fun _ h9 => h9) rfl dX4_planNight_12 ?_
  refine zz_callVv (As := [.ref a8]) (rest := []) (wf := fun u => bOffice tA a0 a1 a2 a3 a4 a5 a6 a7 a8 a9 a10 a11 a12 a13 a14 a15 a16 a17 a18 a19 a20 a21 a22 ports legs lower upper leng reach meter cnt strt goal money litN darkN rng nights fog fund refd brt shrt grp_3 seen u.1 u.2 need_2 ordr size) ⟨hx, hb, hml, hown, hts⟩ (c_X7_dropThoseWhoCannotPay l D tA a18 a19 a20 a21 a22 a8 a9 a10 a11 a12 a13 H.size tp_1 shr need_2 ordr size cnt strt goal money litN darkN (isGat_V q_1) (by first | assumption | omega) (by first | assumption | omega)) (cwV 1 hts gX4_planNight_X7_dropThoseWhoCannotPay rfl rfl rfl (by decide +kernel) ⟨Nat.le_of_ble_eq_true rfl, Nat.le_of_ble_eq_true rfl⟩) hK hP hD hS hA [18, 19, 20, 21, 22, 8, 9, 10, 11, 12, 13] [0, 1, 2, 3, 4, 5, 6, 7, 14, 15, 16, 17] [0, 1, 2, 3, 4, 5, 6, 7, 17, 18, 19, 20, 21, 22, 8, 9, 10, 11, 12, 13, 14, 15, 16] rfl rfl (by decide) (by decide) (by decide) (by decide) (fun _ => rfl) (ci := 9) (q0 := 0) rfl rfl rfl rfl rfl hl.1 (Nat.le_of_ble_eq_true rfl) dX4_planNight_15 ⟨Nat.le_of_ble_eq_true rfl, Nat.le_of_ble_eq_true rfl⟩ ?_
  intro u H locs p15_7 hP hD hS
  obtain ⟨tp_5, shr_6⟩ := u
  have hP : va_P D vwCl (bOffice tA a0 a1 a2 a3 a4 a5 a6 a7 a8 a9 a10 a11 a12 a13 a14 a15 a16 a17 a18 a19 a20 a21 a22 ports legs lower upper leng reach meter cnt strt goal money litN darkN rng nights fog fund refd brt shrt grp_3 seen tp_5 shr_6 need_2 ordr size) H := hP
  have hD : va_D A (bOffice tA a0 a1 a2 a3 a4 a5 a6 a7 a8 a9 a10 a11 a12 a13 a14 a15 a16 a17 a18 a19 a20 a21 a22 ports legs lower upper leng reach meter cnt strt goal money litN darkN rng nights fog fund refd brt shrt grp_3 seen tp_5 shr_6 need_2 ordr size) := hD
  have q1_15 : ∃ k, isLeft need_2 money cnt k tp_1 tp_5 := p15_7.1
  have q2_15 : isSh tp_5 need_2 shr_6 := p15_7.2.1
  have q3_15 : TpV tp_5 need_2 := p15_7.2.2
  exact hret (tp_5, need_2, shr_6, grp_3) _ _ _ _ dX4_planNight_18 (show isPlan (eg legs lower upper leng reach) cnt strt goal money tp_5 need_2 shr_6 from by exact (by obtain ⟨k, hk⟩ := q1_15; exact ⟨⟨_, k, q_1, hk⟩, q2_15, q3_15⟩)) hP hD hS

set_option maxHeartbeats 4000000 in
set_option maxRecDepth 100000 in
theorem c_X4_charge (l : Launch) (D : va_G) (tA : Nat → ClassId) (a0 a1 a2 a3 a4 a5 a6 a7 a8 a9 a10 a11 a12 a13 a14 a15 a16 a17 a18 a19 a20 a21 a22 : Nat) (sz : Nat) (ports : Int) (legs : Int) (lower : Int → Int) (upper : Int → Int) (leng : Int → Int) (reach : Int → Int) (meter : Int → Int) (cnt : Int) (strt : Int → Int) (goal : Int → Int) (money : Int → Int) (litN : Int → Int) (darkN : Int → Int) (rng : Int) (nights : Int) (fog : Int) (fund : Int) (refd : Int) (brt : Int) (shrt : Int → Int) (grp : Int → Int) (seen : Int → Int) (tp : Int → Int) (shr : Int → Int) (need : Int → Int) (ordr : Int → Int) (size : Int) (ship : Int) (sh : Int) (r_ship : -2147483648 ≤ ship ∧ ship ≤ 2147483647) (r_sh : -2147483648 ≤ sh ∧ sh ≤ 2147483647) (hs : 0 ≤ ship ∧ ship < 6) (hsh : 0 ≤ sh) (hfog : 0 ≤ fog ∧ fog ≤ 9) : zMv l yX4_charge wsX4_charge ({ frames := 0, cells := 0, slots := 0, locals := 0 }) D tA [.ref a0, .int (iI ship), .int (iI sh)] (bOffice tA a0 a1 a2 a3 a4 a5 a6 a7 a8 a9 a10 a11 a12 a13 a14 a15 a16 a17 a18 a19 a20 a21 a22 ports legs lower upper leng reach meter cnt strt goal money litN darkN rng nights fog fund refd brt shrt grp seen tp shr need ordr size) sz (fun (u : Unit) => True) (fun (u : Unit) => bOffice tA a0 a1 a2 a3 a4 a5 a6 a7 a8 a9 a10 a11 a12 a13 a14 a15 a16 a17 a18 a19 a20 a21 a22 ports legs lower upper leng reach meter cnt strt goal (zU money ship (money ship - sh + (if 0 < fog then sh / 2 else 0))) litN darkN rng nights fog (fund + sh - (if 0 < fog then sh / 2 else 0)) (refd + (if 0 < fog then sh / 2 else 0)) brt shrt grp seen tp shr need ordr size) 0 0 := by
  refine zMv_of (cc := cX4_charge) (maxL := 4) (by decide) rfl (Nat.le_of_ble_eq_true rfl) ?_
  intro p e s m args below meth c A Q ls hx hb hml hts hown hK hP hD hA hret hl
  obtain ⟨H, hHe⟩ : ∃ H : Heap, H = s.heap := ⟨_, rfl⟩
  have hS : va_S A s.heap H [] := by rw [hHe]; exact va_S.rf
  rw [← hHe] at hP ⊢
  have hl : lv_has ls 4 [(0, .ref a0), (1, .int (iI ship)), (2, .int (iI sh))] := hl
  have iX4 : ∀ v ∈ wsX40, v ∈ wsX4_charge := by decide +kernel
  have iX8 : ∀ v ∈ wsX80, v ∈ wsX4_charge := by decide +kernel
  have iX9 : ∀ v ∈ wsX90, v ∈ wsX4_charge := by decide +kernel
  have f_12 := hts (.fieldLink RX4 12 "HarborLights$Office" "now" "LHarborLights$State;") (by decide +kernel)
  have f_65 := hts (.fieldLink RX4 65 "HarborLights$State" "ships" "LHarborLights$Ships;") (by decide +kernel)
  have f_90 := hts (.fieldLink RX4 90 "HarborLights$Ships" "money" "[I") (by decide +kernel)
  have f_94 := hts (.fieldLink RX4 94 "HarborLights$State" "fog" "I") (by decide +kernel)
  have f_203 := hts (.fieldLink RX4 203 "HarborLights$State" "fund" "J") (by decide +kernel)
  have f_216 := hts (.fieldLink RX4 216 "HarborLights$State" "refunded" "J") (by decide +kernel)
  refine lv_aload_n hx hb dX4_charge_0 rfl (lv_at hl 0 rfl) ?_
  refine va_get (D := D) (ci := 6) (v := .ref a1) (C := RX4) (T := TX4) (N := 3) hx hb hts iX4 hown hK hP 0 rfl rfl 0 (by decide) f_12 (fun _ h9 => h9) rfl dX4_charge_1 ?_
  refine va_get (D := D) (ci := 11) (v := .ref a8) (C := RX9) (T := TX9) (N := 8) hx hb hts iX9 hown hK hP 1 rfl rfl 1 (by decide) f_65 (fun _ h9 => h9) rfl dX4_charge_4 ?_
  refine va_get (D := D) (ci := 10) (v := .ref a11) (C := RX8) (T := TX8) (N := 6) hx hb hts iX8 hown hK hP 8 rfl rfl 3 (by decide) f_90 (fun _ h9 => h9) rfl dX4_charge_7 ?_
  refine lv_iload_n hx hb dX4_charge_10 rfl (lv_at hl 1 rfl) ?_
  refine lv_dup2_11 hx hb dX4_charge_11 rfl rfl ?_
  refine zz_iald hx hb hK hP 11 rfl (by decide) (by omega) dX4_charge_12 ?_
  refine lv_iload_n hx hb dX4_charge_13 rfl (lv_at hl 2 rfl) ?_
  refine zz_isub hx hb dX4_charge_14 ?_
  refine zz_iast hx hb hK hP hD hS 11 rfl (by decide) (by omega) dX4_charge_15 (fun H locs hP hD hS => ?_)
  have hP : va_P D vwCl (bOffice tA a0 a1 a2 a3 a4 a5 a6 a7 a8 a9 a10 a11 a12 a13 a14 a15 a16 a17 a18 a19 a20 a21 a22 ports legs lower upper leng reach meter cnt strt goal (zU money ship ((money ship) - sh)) litN darkN rng nights fog fund refd brt shrt grp seen tp shr need ordr size) H := hP
  have hD : va_D A (bOffice tA a0 a1 a2 a3 a4 a5 a6 a7 a8 a9 a10 a11 a12 a13 a14 a15 a16 a17 a18 a19 a20 a21 a22 ports legs lower upper leng reach meter cnt strt goal (zU money ship ((money ship) - sh)) litN darkN rng nights fog fund refd brt shrt grp seen tp shr need ordr size) := hD
  refine lv_aload_n hx hb dX4_charge_16 rfl (lv_at hl 0 rfl) ?_
  refine va_get (D := D) (ci := 6) (v := .ref a1) (C := RX4) (T := TX4) (N := 3) hx hb hts iX4 hown hK hP 0 rfl rfl 0 (by decide) f_12 (fun _ h9 => h9) rfl dX4_charge_17 ?_
  refine lv_dup hx hb dX4_charge_20 rfl ?_
  refine va_get (D := D) (ci := 11) (v := .long (lI fund)) (C := RX9) (T := TX9) (N := 8) hx hb hts iX9 hown hK hP 1 rfl rfl 5 (by decide) f_203 (fun _ h9 => h9) rfl dX4_charge_21 ?_
  refine lv_iload_n hx hb dX4_charge_24 rfl (lv_at hl 2 rfl) ?_
  refine zz_i2l hx hb dX4_charge_25 (by omega) ?_
  refine zz_ladd hx hb dX4_charge_26 ?_
  refine va_put (D := D) (ci := 11) (v := .long (lI (fund + sh))) (ty := .long) (C := RX9) (T := TX9) (N := 8) hx hb hts iX9 tyX9 tyX9_ok nmX9 hown hK hP hD hS 1 rfl rfl 5 (by decide) f_203 (fun _ h9 => h9) rfl (by decide +kernel) rfl rfl (Nat.le_of_ble_eq_true rfl) dX4_charge_27 (fun H locs hP hD hS => ?_)
  have hP : va_P D vwCl (bOffice tA a0 a1 a2 a3 a4 a5 a6 a7 a8 a9 a10 a11 a12 a13 a14 a15 a16 a17 a18 a19 a20 a21 a22 ports legs lower upper leng reach meter cnt strt goal (zU money ship ((money ship) - sh)) litN darkN rng nights fog (fund + sh) refd brt shrt grp seen tp shr need ordr size) H := hP
  have hD : va_D A (bOffice tA a0 a1 a2 a3 a4 a5 a6 a7 a8 a9 a10 a11 a12 a13 a14 a15 a16 a17 a18 a19 a20 a21 a22 ports legs lower upper leng reach meter cnt strt goal (zU money ship ((money ship) - sh)) litN darkN rng nights fog (fund + sh) refd brt shrt grp seen tp shr need ordr size) := hD
  refine lv_aload_n hx hb dX4_charge_30 rfl (lv_at hl 0 rfl) ?_
  refine va_get (D := D) (ci := 6) (v := .ref a1) (C := RX4) (T := TX4) (N := 3) hx hb hts iX4 hown hK hP 0 rfl rfl 0 (by decide) f_12 (fun _ h9 => h9) rfl dX4_charge_31 ?_
  refine va_get (D := D) (ci := 11) (v := .int (iI fog)) (C := RX9) (T := TX9) (N := 8) hx hb hts iX9 hown hK hP 1 rfl rfl 4 (by decide) f_94 (fun _ h9 => h9) rfl dX4_charge_34 ?_
  refine zz_if_le (tgt := 88) hx hb dX4_charge_37 (by decide) (by omega) (fun c_37 => ?_) (fun c_37 => ?_)
  · have e_money : (zU money ship ((money ship) - sh)) = (zU money ship (money ship - sh + (if 0 < fog then sh / 2 else 0))) := by first | (rw [if_neg (by omega), Int.add_zero]) | (rw [if_pos (by omega), zU_same, zU_zU])
    rw [e_money] at hP hD
    have e_fund : (fund + sh) = (fund + sh - (if 0 < fog then sh / 2 else 0)) := by first | rw [if_neg (by omega), Int.sub_zero] | rw [if_pos (by omega)]
    rw [e_fund] at hP hD
    have e_refd : refd = (refd + (if 0 < fog then sh / 2 else 0)) := by first | rw [if_neg (by omega), Int.add_zero] | rw [if_pos (by omega)]
    have hP : va_P D vwCl (bOffice tA a0 a1 a2 a3 a4 a5 a6 a7 a8 a9 a10 a11 a12 a13 a14 a15 a16 a17 a18 a19 a20 a21 a22 ports legs lower upper leng reach meter cnt strt goal (zU money ship (money ship - sh + (if 0 < fog then sh / 2 else 0))) litN darkN rng nights fog (fund + sh - (if 0 < fog then sh / 2 else 0)) (refd + (if 0 < fog then sh / 2 else 0)) brt shrt grp seen tp shr need ordr size) H := by rw [← e_refd]; exact hP
    have hD : va_D A (bOffice tA a0 a1 a2 a3 a4 a5 a6 a7 a8 a9 a10 a11 a12 a13 a14 a15 a16 a17 a18 a19 a20 a21 a22 ports legs lower upper leng reach meter cnt strt goal (zU money ship (money ship - sh + (if 0 < fog then sh / 2 else 0))) litN darkN rng nights fog (fund + sh - (if 0 < fog then sh / 2 else 0)) (refd + (if 0 < fog then sh / 2 else 0)) brt shrt grp seen tp shr need ordr size) := by rw [← e_refd]; exact hD
    exact hret () _ _ _ _ dX4_charge_88 True.intro hP hD hS
  · refine lv_iload_n hx hb dX4_charge_40 rfl (lv_at hl 2 rfl) ?_
    refine zz_iconst hx hb dX4_charge_41 ?_
    refine zz_idiv hx hb dX4_charge_42 (by omega) (by omega) ?_
    refine lv_istore_n (lv' := [(3, .int (iI (sh / 2))), (0, .ref a0), (1, .int (iI ship)), (2, .int (iI sh))]) hx hb dX4_charge_43 rfl hl (by decide) rfl (fun ls hl => ?_)
    refine lv_aload_n hx hb dX4_charge_44 rfl (lv_at hl 1 rfl) ?_
    refine va_get (D := D) (ci := 6) (v := .ref a1) (C := RX4) (T := TX4) (N := 3) hx hb hts iX4 hown hK hP 0 rfl rfl 0 (by decide) f_12 (fun _ h9 => h9) rfl dX4_charge_45 ?_
    refine va_get (D := D) (ci := 11) (v := .ref a8) (C := RX9) (T := TX9) (N := 8) hx hb hts iX9 hown hK hP 1 rfl rfl 1 (by decide) f_65 (fun _ h9 => h9) rfl dX4_charge_48 ?_
    refine va_get (D := D) (ci := 10) (v := .ref a11) (C := RX8) (T := TX8) (N := 6) hx hb hts iX8 hown hK hP 8 rfl rfl 3 (by decide) f_90 (fun _ h9 => h9) rfl dX4_charge_51 ?_
    refine lv_iload_n hx hb dX4_charge_54 rfl (lv_at hl 2 rfl) ?_
    refine lv_dup2_11 hx hb dX4_charge_55 rfl rfl ?_
    refine zz_iald hx hb hK hP 11 rfl (by decide) (by omega) dX4_charge_56 ?_
    refine lv_iload_n hx hb dX4_charge_57 rfl (lv_at hl 0 rfl) ?_
    refine zz_iadd hx hb dX4_charge_58 ?_
    refine zz_iast hx hb hK hP hD hS 11 rfl (by decide) (by omega) dX4_charge_59 (fun H locs hP hD hS => ?_)
    have hP : va_P D vwCl (bOffice tA a0 a1 a2 a3 a4 a5 a6 a7 a8 a9 a10 a11 a12 a13 a14 a15 a16 a17 a18 a19 a20 a21 a22 ports legs lower upper leng reach meter cnt strt goal (zU (zU money ship ((money ship) - sh)) ship (((zU money ship ((money ship) - sh)) ship) + (sh / 2))) litN darkN rng nights fog (fund + sh) refd brt shrt grp seen tp shr need ordr size) H := hP
    have hD : va_D A (bOffice tA a0 a1 a2 a3 a4 a5 a6 a7 a8 a9 a10 a11 a12 a13 a14 a15 a16 a17 a18 a19 a20 a21 a22 ports legs lower upper leng reach meter cnt strt goal (zU (zU money ship ((money ship) - sh)) ship (((zU money ship ((money ship) - sh)) ship) + (sh / 2))) litN darkN rng nights fog (fund + sh) refd brt shrt grp seen tp shr need ordr size) := hD
    refine lv_aload_n hx hb dX4_charge_60 rfl (lv_at hl 1 rfl) ?_
    refine va_get (D := D) (ci := 6) (v := .ref a1) (C := RX4) (T := TX4) (N := 3) hx hb hts iX4 hown hK hP 0 rfl rfl 0 (by decide) f_12 (fun _ h9 => h9) rfl dX4_charge_61 ?_
    refine lv_dup hx hb dX4_charge_64 rfl ?_
    refine va_get (D := D) (ci := 11) (v := .long (lI (fund + sh))) (C := RX9) (T := TX9) (N := 8) hx hb hts iX9 hown hK hP 1 rfl rfl 5 (by decide) f_203 (fun _ h9 => h9) rfl dX4_charge_65 ?_
    refine lv_iload_n hx hb dX4_charge_68 rfl (lv_at hl 0 rfl) ?_
    refine zz_i2l hx hb dX4_charge_69 (by omega) ?_
    refine zz_lsub hx hb dX4_charge_70 ?_
    refine va_put (D := D) (ci := 11) (v := .long (lI ((fund + sh) - (sh / 2)))) (ty := .long) (C := RX9) (T := TX9) (N := 8) hx hb hts iX9 tyX9 tyX9_ok nmX9 hown hK hP hD hS 1 rfl rfl 5 (by decide) f_203 (fun _ h9 => h9) rfl (by decide +kernel) rfl rfl (Nat.le_of_ble_eq_true rfl) dX4_charge_71 (fun H locs hP hD hS => ?_)
    have hP : va_P D vwCl (bOffice tA a0 a1 a2 a3 a4 a5 a6 a7 a8 a9 a10 a11 a12 a13 a14 a15 a16 a17 a18 a19 a20 a21 a22 ports legs lower upper leng reach meter cnt strt goal (zU (zU money ship ((money ship) - sh)) ship (((zU money ship ((money ship) - sh)) ship) + (sh / 2))) litN darkN rng nights fog ((fund + sh) - (sh / 2)) refd brt shrt grp seen tp shr need ordr size) H := hP
    have hD : va_D A (bOffice tA a0 a1 a2 a3 a4 a5 a6 a7 a8 a9 a10 a11 a12 a13 a14 a15 a16 a17 a18 a19 a20 a21 a22 ports legs lower upper leng reach meter cnt strt goal (zU (zU money ship ((money ship) - sh)) ship (((zU money ship ((money ship) - sh)) ship) + (sh / 2))) litN darkN rng nights fog ((fund + sh) - (sh / 2)) refd brt shrt grp seen tp shr need ordr size) := hD
    refine lv_aload_n hx hb dX4_charge_74 rfl (lv_at hl 1 rfl) ?_
    refine va_get (D := D) (ci := 6) (v := .ref a1) (C := RX4) (T := TX4) (N := 3) hx hb hts iX4 hown hK hP 0 rfl rfl 0 (by decide) f_12 (fun _ h9 => h9) rfl dX4_charge_75 ?_
    refine lv_dup hx hb dX4_charge_78 rfl ?_
    refine va_get (D := D) (ci := 11) (v := .long (lI refd)) (C := RX9) (T := TX9) (N := 8) hx hb hts iX9 hown hK hP 1 rfl rfl 6 (by decide) f_216 (fun _ h9 => h9) rfl dX4_charge_79 ?_
    refine lv_iload_n hx hb dX4_charge_82 rfl (lv_at hl 0 rfl) ?_
    refine zz_i2l hx hb dX4_charge_83 (by omega) ?_
    refine zz_ladd hx hb dX4_charge_84 ?_
    refine va_put (D := D) (ci := 11) (v := .long (lI (refd + (sh / 2)))) (ty := .long) (C := RX9) (T := TX9) (N := 8) hx hb hts iX9 tyX9 tyX9_ok nmX9 hown hK hP hD hS 1 rfl rfl 6 (by decide) f_216 (fun _ h9 => h9) rfl (by decide +kernel) rfl rfl (Nat.le_of_ble_eq_true rfl) dX4_charge_85 (fun H locs hP hD hS => ?_)
    have hP : va_P D vwCl (bOffice tA a0 a1 a2 a3 a4 a5 a6 a7 a8 a9 a10 a11 a12 a13 a14 a15 a16 a17 a18 a19 a20 a21 a22 ports legs lower upper leng reach meter cnt strt goal (zU (zU money ship ((money ship) - sh)) ship (((zU money ship ((money ship) - sh)) ship) + (sh / 2))) litN darkN rng nights fog ((fund + sh) - (sh / 2)) (refd + (sh / 2)) brt shrt grp seen tp shr need ordr size) H := hP
    have hD : va_D A (bOffice tA a0 a1 a2 a3 a4 a5 a6 a7 a8 a9 a10 a11 a12 a13 a14 a15 a16 a17 a18 a19 a20 a21 a22 ports legs lower upper leng reach meter cnt strt goal (zU (zU money ship ((money ship) - sh)) ship (((zU money ship ((money ship) - sh)) ship) + (sh / 2))) litN darkN rng nights fog ((fund + sh) - (sh / 2)) (refd + (sh / 2)) brt shrt grp seen tp shr need ordr size) := hD
    have e_money : (zU (zU money ship ((money ship) - sh)) ship (((zU money ship ((money ship) - sh)) ship) + (sh / 2))) = (zU money ship (money ship - sh + (if 0 < fog then sh / 2 else 0))) := by first | (rw [if_neg (by omega), Int.add_zero]) | (rw [if_pos (by omega), zU_same, zU_zU])
    rw [e_money] at hP hD
    have e_fund : ((fund + sh) - (sh / 2)) = (fund + sh - (if 0 < fog then sh / 2 else 0)) := by first | rw [if_neg (by omega), Int.sub_zero] | rw [if_pos (by omega)]
    rw [e_fund] at hP hD
    have e_refd : (refd + (sh / 2)) = (refd + (if 0 < fog then sh / 2 else 0)) := by first | rw [if_neg (by omega), Int.add_zero] | rw [if_pos (by omega)]
    rw [e_refd] at hP hD
    exact hret () _ _ _ _ dX4_charge_88 True.intro hP hD hS

set_option maxHeartbeats 4000000 in
set_option maxRecDepth 100000 in
theorem c_X4_passNight (l : Launch) (D : va_G) (tA : Nat → ClassId) (a0 a1 a2 a3 a4 a5 a6 a7 a8 a9 a10 a11 a12 a13 a14 a15 a16 a17 a18 a19 a20 a21 a22 : Nat) (sz : Nat) (ports : Int) (legs : Int) (lower : Int → Int) (upper : Int → Int) (leng : Int → Int) (reach : Int → Int) (meter : Int → Int) (cnt : Int) (strt : Int → Int) (goal : Int → Int) (money : Int → Int) (litN : Int → Int) (darkN : Int → Int) (rng : Int) (nights : Int) (fog : Int) (fund : Int) (refd : Int) (brt : Int) (shrt : Int → Int) (grp : Int → Int) (seen : Int → Int) (tp : Int → Int) (shr : Int → Int) (need : Int → Int) (ordr : Int → Int) (size : Int) (hch : ChV ports legs lower upper leng reach) (hc : 0 ≤ cnt ∧ cnt ≤ 6) (hsp : ∀ j, 0 ≤ j → j < cnt → (0 ≤ strt j ∧ strt j < ports ∧ 0 ≤ goal j ∧ goal j < ports ∧ strt j ≠ goal j)) (hm : ∀ j, 0 ≤ j → j < cnt → (0 ≤ money j ∧ money j ≤ 1000000000)) (hfog : 0 ≤ fog ∧ fog ≤ 9) : zMi l yX4_passNight wsX4_passNight ({ frames := 4, cells := 0, slots := 0, locals := 92 }) D tA [.ref a0] (bOffice tA a0 a1 a2 a3 a4 a5 a6 a7 a8 a9 a10 a11 a12 a13 a14 a15 a16 a17 a18 a19 a20 a21 a22 ports legs lower upper leng reach meter cnt strt goal money litN darkN rng nights fog fund refd brt shrt grp seen tp shr need ordr size) sz (fun (z : Int) (u : (Int → Int) × (Int → Int) × (Int → Int) × (Int → Int) × (Int)) => (isPlan (eg legs lower upper leng reach) cnt strt goal money u.1 u.2.1 u.2.2.1) ∧ (isGr u.1 u.2.1 u.2.2.2.2) ∧ (z = sm u.1 cnt.toNat)) (fun (u : (Int → Int) × (Int → Int) × (Int → Int) × (Int → Int) × (Int)) => bOffice tA a0 a1 a2 a3 a4 a5 a6 a7 a8 a9 a10 a11 a12 a13 a14 a15 a16 a17 a18 a19 a20 a21 a22 ports legs lower upper leng reach (mtUp legs reach u.2.2.2.2 meter) cnt strt goal (updTo cnt money (fun j => money j - nSh u.1 u.2.2.1 j + nBk fog u.1 u.2.2.1 j)) (updTo cnt litN (fun j => litN j + u.1 j)) (updTo cnt darkN (fun j => darkN j + (1 - u.1 j))) u.2.2.2.2 (nights + 1) (if 0 < fog then fog - 1 else fog) (fund + sm (fun j => nSh u.1 u.2.2.1 j - nBk fog u.1 u.2.2.1 j) cnt.toNat) (refd + sm (nBk fog u.1 u.2.2.1) cnt.toNat) brt shrt u.2.2.2.1 seen u.1 u.2.2.1 u.2.1 ordr size) 0 0 := by
  refine zMi_of (cc := cX4_passNight) (maxL := 3) (by decide) rfl (fun z u h => rfl) (Nat.le_of_ble_eq_true rfl) ?_
  intro p e s m args below meth c A Q ls hx hb hml hts hown hK hP hD hA hret hl
  obtain ⟨H, hHe⟩ : ∃ H : Heap, H = s.heap := ⟨_, rfl⟩
  have hS : va_S A s.heap H [] := by rw [hHe]; exact va_S.rf
  rw [← hHe] at hP ⊢
  have hl : lv_has ls 3 [(0, .ref a0)] := hl
  have iX4 : ∀ v ∈ wsX40, v ∈ wsX4_passNight := by decide +kernel
  have iX7 : ∀ v ∈ wsX70, v ∈ wsX4_passNight := by decide +kernel
  have iX8 : ∀ v ∈ wsX80, v ∈ wsX4_passNight := by decide +kernel
  have iX9 : ∀ v ∈ wsX90, v ∈ wsX4_passNight := by decide +kernel
  have f_12 := hts (.fieldLink RX4 12 "HarborLights$Office" "now" "LHarborLights$State;") (by decide +kernel)
  have f_28 := hts (.fieldLink RX4 28 "HarborLights$Office" "shares" "LHarborLights$Shares;") (by decide +kernel)
  have f_32 := hts (.fieldLink RX4 32 "HarborLights$State" "chart" "LHarborLights$Chart;") (by decide +kernel)
  have f_65 := hts (.fieldLink RX4 65 "HarborLights$State" "ships" "LHarborLights$Ships;") (by decide +kernel)
  have f_69 := hts (.fieldLink RX4 69 "HarborLights$Ships" "count" "I") (by decide +kernel)
  have f_94 := hts (.fieldLink RX4 94 "HarborLights$State" "fog" "I") (by decide +kernel)
  have f_104 := hts (.fieldLink RX4 104 "HarborLights$State" "range" "I") (by decide +kernel)
  have f_107 := hts (.fieldLink RX4 107 "HarborLights$Shares" "takesPart" "[Z") (by decide +kernel)
  have f_111 := hts (.fieldLink RX4 111 "HarborLights$Shares" "share" "[I") (by decide +kernel)
  have f_118 := hts (.fieldLink RX4 118 "HarborLights$Ships" "litNights" "[I") (by decide +kernel)
  have f_121 := hts (.fieldLink RX4 121 "HarborLights$Ships" "darkNights" "[I") (by decide +kernel)
  have f_127 := hts (.fieldLink RX4 127 "HarborLights$State" "nights" "I") (by decide +kernel)
  obtain ⟨vp0, vp1, vl0, vl1, -, -⟩ := id hch
  have Rm : ∀ j, 0 ≤ j → j < cnt → -2147483648 ≤ money j ∧ money j ≤ 2147483647 := fun j j0 j1 => by have := hm j j0 j1; omega
  have Rlen : zRn legs leng := fun j j0 j1 => by have := hch.2.2.2.2.1 j j0 j1; omega
  have Rrea : zRn legs reach := fun j j0 j1 => by have := hch.2.2.2.2.1 j j0 j1; omega
  refine lv_aload_n hx hb dX4_passNight_0 rfl (lv_at hl 0 rfl) ?_
  refine zz_callVv (As := []) (rest := []) (wf := fun u => bOffice tA a0 a1 a2 a3 a4 a5 a6 a7 a8 a9 a10 a11 a12 a13 a14 a15 a16 a17 a18 a19 a20 a21 a22 ports legs lower upper leng reach meter cnt strt goal money litN darkN rng nights fog fund refd brt shrt u.2.2.2 seen u.1 u.2.2.1 u.2.1 ordr size) ⟨hx, hb, hml, hown, hts⟩ (c_X4_planNight l D tA a0 a1 a2 a3 a4 a5 a6 a7 a8 a9 a10 a11 a12 a13 a14 a15 a16 a17 a18 a19 a20 a21 a22 H.size ports legs lower upper leng reach meter cnt strt goal money litN darkN rng nights fog fund refd brt shrt grp seen tp shr need ordr size (by first | assumption | omega) (by first | assumption | omega) (by first | assumption | omega) (by first | assumption | omega)) (cwV 0 hts gX4_passNight_X4_planNight rfl rfl rfl (by decide +kernel) ⟨Nat.le_of_ble_eq_true rfl, Nat.le_of_ble_eq_true rfl⟩) hK hP hD hS hA [0, 1, 2, 3, 4, 5, 6, 7, 8, 9, 10, 11, 12, 13, 14, 15, 16, 17, 18, 19, 20, 21, 22] [] [0, 1, 2, 3, 4, 5, 6, 7, 8, 9, 10, 11, 12, 13, 14, 15, 16, 17, 18, 19, 20, 21, 22] rfl rfl (by decide) (by decide) (by decide) (by decide) (fun _ => rfl) (ci := 6) (q0 := 0) rfl rfl rfl rfl rfl hl.1 (Nat.le_of_ble_eq_true rfl) dX4_passNight_1 ⟨Nat.le_of_ble_eq_true rfl, Nat.le_of_ble_eq_true rfl⟩ ?_
  intro u H locs p1_5 hP hD hS
  obtain ⟨tp_1, need_2, shr_3, grp_4⟩ := u
  have hP : va_P D vwCl (bOffice tA a0 a1 a2 a3 a4 a5 a6 a7 a8 a9 a10 a11 a12 a13 a14 a15 a16 a17 a18 a19 a20 a21 a22 ports legs lower upper leng reach meter cnt strt goal money litN darkN rng nights fog fund refd brt shrt grp_4 seen tp_1 shr_3 need_2 ordr size) H := hP
  have hD : va_D A (bOffice tA a0 a1 a2 a3 a4 a5 a6 a7 a8 a9 a10 a11 a12 a13 a14 a15 a16 a17 a18 a19 a20 a21 a22 ports legs lower upper leng reach meter cnt strt goal money litN darkN rng nights fog fund refd brt shrt grp_4 seen tp_1 shr_3 need_2 ordr size) := hD
  have q_1 : isPlan (eg legs lower upper leng reach) cnt strt goal money tp_1 need_2 shr_3 := p1_5
  obtain ⟨plan, pv⟩ : isPlan (eg legs lower upper leng reach) cnt strt goal money tp_1 need_2 shr_3 ∧ TpV tp_1 need_2 := ⟨q_1, q_1.2.2⟩
  refine lv_aload_n hx hb dX4_passNight_4 rfl (lv_at hl 0 rfl) ?_
  refine va_get (D := D) (ci := 6) (v := .ref a1) (C := RX4) (T := TX4) (N := 3) hx hb hts iX4 hown hK hP 0 rfl rfl 0 (by decide) f_12 (fun _ h9 => h9) rfl dX4_passNight_5 ?_
  refine lv_aload_n hx hb dX4_passNight_8 rfl (lv_at hl 0 rfl) ?_
  refine va_get (D := D) (ci := 6) (v := .ref a18) (C := RX4) (T := TX4) (N := 3) hx hb hts iX4 hown hK hP 0 rfl rfl 2 (by decide) f_28 (fun _ h9 => h9) rfl dX4_passNight_9 ?_
  refine zz_callVi (As := []) (rest := [.ref a1]) (wf := fun u => bOffice tA a0 a1 a2 a3 a4 a5 a6 a7 a8 a9 a10 a11 a12 a13 a14 a15 a16 a17 a18 a19 a20 a21 a22 ports legs lower upper leng reach meter cnt strt goal money litN darkN rng nights fog fund refd brt shrt grp_4 seen tp_1 shr_3 need_2 ordr size) ⟨hx, hb, hml, hown, hts⟩ (c_X7_greatestNeed l D tA a18 a19 a20 a21 a22 H.size tp_1 shr_3 need_2 ordr size q_1.2.2) (cwV 0 hts gX4_passNight_X7_greatestNeed rfl rfl rfl (by decide +kernel) ⟨Nat.le_of_ble_eq_true rfl, Nat.le_of_ble_eq_true rfl⟩) hK hP hD hS hA [18, 19, 20, 21, 22] [0, 1, 2, 3, 4, 5, 6, 7, 8, 9, 10, 11, 12, 13, 14, 15, 16, 17] [0, 1, 2, 3, 4, 5, 6, 7, 8, 9, 10, 11, 12, 13, 14, 15, 16, 17, 18, 19, 20, 21, 22] rfl rfl (by decide) (by decide) (by decide) (by decide) (fun _ => rfl) (ci := 9) (q0 := 0) rfl rfl rfl rfl rfl hl.1 (Nat.le_of_ble_eq_true rfl) dX4_passNight_12 ⟨Nat.le_of_ble_eq_true rfl, Nat.le_of_ble_eq_true rfl⟩ ?_
  intro z12_6 u H locs p12_7 hP hD hS
  have hP : va_P D vwCl (bOffice tA a0 a1 a2 a3 a4 a5 a6 a7 a8 a9 a10 a11 a12 a13 a14 a15 a16 a17 a18 a19 a20 a21 a22 ports legs lower upper leng reach meter cnt strt goal money litN darkN rng nights fog fund refd brt shrt grp_4 seen tp_1 shr_3 need_2 ordr size) H := hP
  have hD : va_D A (bOffice tA a0 a1 a2 a3 a4 a5 a6 a7 a8 a9 a10 a11 a12 a13 a14 a15 a16 a17 a18 a19 a20 a21 a22 ports legs lower upper leng reach meter cnt strt goal money litN darkN rng nights fog fund refd brt shrt grp_4 seen tp_1 shr_3 need_2 ordr size) := hD
  have q_12 : isGr tp_1 need_2 z12_6 := p12_7
  have hgr := q_12.1
  have hgr2 := q_12.2.1
  refine va_put (D := D) (ci := 11) (v := .int (iI z12_6)) (ty := .int) (C := RX9) (T := TX9) (N := 8) hx hb hts iX9 tyX9 tyX9_ok nmX9 hown hK hP hD hS 1 rfl rfl 2 (by decide) f_104 (fun _ h9 => h9) rfl (by decide +kernel) rfl rfl (Nat.le_of_ble_eq_true rfl) dX4_passNight_15 (fun H locs hP hD hS => ?_)
  have hP : va_P D vwCl (bOffice tA a0 a1 a2 a3 a4 a5 a6 a7 a8 a9 a10 a11 a12 a13 a14 a15 a16 a17 a18 a19 a20 a21 a22 ports legs lower upper leng reach meter cnt strt goal money litN darkN z12_6 nights fog fund refd brt shrt grp_4 seen tp_1 shr_3 need_2 ordr size) H := hP
  have hD : va_D A (bOffice tA a0 a1 a2 a3 a4 a5 a6 a7 a8 a9 a10 a11 a12 a13 a14 a15 a16 a17 a18 a19 a20 a21 a22 ports legs lower upper leng reach meter cnt strt goal money litN darkN z12_6 nights fog fund refd brt shrt grp_4 seen tp_1 shr_3 need_2 ordr size) := hD
  refine zz_iconst hx hb dX4_passNight_18 ?_
  refine lv_istore_n (lv' := [(1, .int (iI 0)), (0, .ref a0)]) hx hb dX4_passNight_19 rfl hl (by decide) rfl (fun ls hl => ?_)
  refine zz_iconst hx hb dX4_passNight_20 ?_
  refine lv_istore_n (lv' := [(2, .int (iI 0)), (1, .int (iI 0)), (0, .ref a0)]) hx hb dX4_passNight_21 rfl hl (by decide) rfl (fun ls hl => ?_)
  have L22 : ∀ (n : Nat) (i : Int) (n1 : Int) (mo9 : Int → Int) (ln9 : Int → Int) (dn9 : Int → Int) (fu9 : Int) (re9 : Int) (H : Heap) (locs : List Loc) (ls : Array Slot), (0 ≤ i ∧ i ≤ cnt) → (n1 = sm tp_1 i.toNat) → (mo9 = updTo i money (fun j => money j - nSh tp_1 shr_3 j + nBk fog tp_1 shr_3 j)) → (ln9 = updTo i litN (fun j => litN j + tp_1 j)) → (dn9 = updTo i darkN (fun j => darkN j + (1 - tp_1 j))) → (fu9 = fund + sm (fun j => nSh tp_1 shr_3 j - nBk fog tp_1 shr_3 j) i.toNat) → (re9 = refd + sm (nBk fog tp_1 shr_3) i.toNat) → (cnt - i).toNat < n → va_P D vwCl (bOffice tA a0 a1 a2 a3 a4 a5 a6 a7 a8 a9 a10 a11 a12 a13 a14 a15 a16 a17 a18 a19 a20 a21 a22 ports legs lower upper leng reach meter cnt strt goal mo9 ln9 dn9 z12_6 nights fog fu9 re9 brt shrt grp_4 seen tp_1 shr_3 need_2 ordr size) H → va_D A (bOffice tA a0 a1 a2 a3 a4 a5 a6 a7 a8 a9 a10 a11 a12 a13 a14 a15 a16 a17 a18 a19 a20 a21 a22 ports legs lower upper leng reach meter cnt strt goal mo9 ln9 dn9 z12_6 nights fog fu9 re9 brt shrt grp_4 seen tp_1 shr_3 need_2 ordr size) → va_S A s.heap H locs → lv_has ls 3 [(2, .int (iI i)), (1, .int (iI n1)), (0, .ref a0)] → W p l e (headSpec wsX4_passNight ({ frames := 4, cells := 0, slots := 0, locals := 92 })).room s m args below meth c H locs 0 0 Q (F0 m 22 ls []) := by
    intro n
    induction n with
    | zero => intro i n1 mo9 ln9 dn9 fu9 re9 H locs ls i0 k0 k1 k2 k3 k4 k5 hmz; exact absurd hmz (Nat.not_lt_zero _)
    | succ n ih22 =>
      intro i n1 mo9 ln9 dn9 fu9 re9 H locs ls i0 k0 k1 k2 k3 k4 k5 hmz hP hD hS hl
      refine lv_iload_n hx hb dX4_passNight_22 rfl (lv_at hl 0 rfl) ?_
      refine lv_aload_n hx hb dX4_passNight_23 rfl (lv_at hl 2 rfl) ?_
      refine va_get (D := D) (ci := 6) (v := .ref a1) (C := RX4) (T := TX4) (N := 3) hx hb hts iX4 hown hK hP 0 rfl rfl 0 (by decide) f_12 (fun _ h9 => h9) rfl dX4_passNight_24 ?_
      refine va_get (D := D) (ci := 11) (v := .ref a8) (C := RX9) (T := TX9) (N := 8) hx hb hts iX9 hown hK hP 1 rfl rfl 1 (by decide) f_65 (fun _ h9 => h9) rfl dX4_passNight_27 ?_
      refine va_get (D := D) (ci := 10) (v := .int (iI cnt)) (C := RX8) (T := TX8) (N := 6) hx hb hts iX8 hown hK hP 8 rfl rfl 0 (by decide) f_69 (fun _ h9 => h9) rfl dX4_passNight_30 ?_
      refine zz_icmp_ge (tgt := 106) hx hb dX4_passNight_33 (by decide) (by omega) (by omega) (fun c_33 => ?_) (fun c_33 => ?_)
      · refine lv_aload_n hx hb dX4_passNight_106 rfl (lv_at hl 2 rfl) ?_
        refine va_get (D := D) (ci := 6) (v := .ref a1) (C := RX4) (T := TX4) (N := 3) hx hb hts iX4 hown hK hP 0 rfl rfl 0 (by decide) f_12 (fun _ h9 => h9) rfl dX4_passNight_107 ?_
        refine va_get (D := D) (ci := 11) (v := .int (iI fog)) (C := RX9) (T := TX9) (N := 8) hx hb hts iX9 hown hK hP 1 rfl rfl 4 (by decide) f_94 (fun _ h9 => h9) rfl dX4_passNight_110 ?_
        refine zz_if_le (tgt := 129) hx hb dX4_passNight_113 (by decide) (by omega) (fun c_113 => ?_) (fun c_113 => ?_)
        · refine lv_aload_n hx hb dX4_passNight_129 rfl (lv_at hl 2 rfl) ?_
          refine va_get (D := D) (ci := 6) (v := .ref a1) (C := RX4) (T := TX4) (N := 3) hx hb hts iX4 hown hK hP 0 rfl rfl 0 (by decide) f_12 (fun _ h9 => h9) rfl dX4_passNight_130 ?_
          refine va_get (D := D) (ci := 11) (v := .ref a2) (C := RX9) (T := TX9) (N := 8) hx hb hts iX9 hown hK hP 1 rfl rfl 0 (by decide) f_32 (fun _ h9 => h9) rfl dX4_passNight_133 ?_
          refine lv_aload_n hx hb dX4_passNight_136 rfl (lv_at hl 2 rfl) ?_
          refine va_get (D := D) (ci := 6) (v := .ref a1) (C := RX4) (T := TX4) (N := 3) hx hb hts iX4 hown hK hP 0 rfl rfl 0 (by decide) f_12 (fun _ h9 => h9) rfl dX4_passNight_137 ?_
          refine va_get (D := D) (ci := 11) (v := .int (iI z12_6)) (C := RX9) (T := TX9) (N := 8) hx hb hts iX9 hown hK hP 1 rfl rfl 2 (by decide) f_104 (fun _ h9 => h9) rfl dX4_passNight_140 ?_
          refine zz_callVv (As := [.int (iI z12_6)]) (rest := []) (wf := fun u => bOffice tA a0 a1 a2 a3 a4 a5 a6 a7 a8 a9 a10 a11 a12 a13 a14 a15 a16 a17 a18 a19 a20 a21 a22 ports legs lower upper leng reach (mtUp legs reach z12_6 meter) cnt strt goal mo9 ln9 dn9 z12_6 nights fog fu9 re9 brt shrt grp_4 seen tp_1 shr_3 need_2 ordr size) ⟨hx, hb, hml, hown, hts⟩ (c_X1_countLight l D tA a2 a3 a4 a5 a6 a7 H.size ports legs lower upper leng reach meter z12_6 (by first | assumption | omega) (by first | assumption | omega) (by first | assumption | omega)) (cwV 1 hts gX4_passNight_X1_countLight rfl rfl rfl (by decide +kernel) ⟨Nat.le_of_ble_eq_true rfl, Nat.le_of_ble_eq_true rfl⟩) hK hP hD hS hA [2, 3, 4, 5, 6, 7] [0, 1, 8, 9, 10, 11, 12, 13, 14, 15, 16, 17, 18, 19, 20, 21, 22] [0, 1, 17, 18, 19, 20, 21, 22, 2, 3, 4, 5, 6, 7, 8, 9, 10, 11, 12, 13, 14, 15, 16] rfl rfl (by decide) (by decide) (by decide) (by decide) (fun _ => rfl) (ci := 4) (q0 := 0) rfl rfl rfl rfl rfl hl.1 (Nat.le_of_ble_eq_true rfl) dX4_passNight_143 ⟨Nat.le_of_ble_eq_true rfl, Nat.le_of_ble_eq_true rfl⟩ ?_
          intro u H locs p143_8 hP hD hS
          have hP : va_P D vwCl (bOffice tA a0 a1 a2 a3 a4 a5 a6 a7 a8 a9 a10 a11 a12 a13 a14 a15 a16 a17 a18 a19 a20 a21 a22 ports legs lower upper leng reach (mtUp legs reach z12_6 meter) cnt strt goal mo9 ln9 dn9 z12_6 nights fog fu9 re9 brt shrt grp_4 seen tp_1 shr_3 need_2 ordr size) H := hP
          have hD : va_D A (bOffice tA a0 a1 a2 a3 a4 a5 a6 a7 a8 a9 a10 a11 a12 a13 a14 a15 a16 a17 a18 a19 a20 a21 a22 ports legs lower upper leng reach (mtUp legs reach z12_6 meter) cnt strt goal mo9 ln9 dn9 z12_6 nights fog fu9 re9 brt shrt grp_4 seen tp_1 shr_3 need_2 ordr size) := hD
          refine lv_aload_n hx hb dX4_passNight_146 rfl (lv_at hl 2 rfl) ?_
          refine va_get (D := D) (ci := 6) (v := .ref a1) (C := RX4) (T := TX4) (N := 3) hx hb hts iX4 hown hK hP 0 rfl rfl 0 (by decide) f_12 (fun _ h9 => h9) rfl dX4_passNight_147 ?_
          refine lv_dup hx hb dX4_passNight_150 rfl ?_
          refine va_get (D := D) (ci := 11) (v := .int (iI nights)) (C := RX9) (T := TX9) (N := 8) hx hb hts iX9 hown hK hP 1 rfl rfl 3 (by decide) f_127 (fun _ h9 => h9) rfl dX4_passNight_151 ?_
          refine zz_iconst hx hb dX4_passNight_154 ?_
          refine zz_iadd hx hb dX4_passNight_155 ?_
          refine va_put (D := D) (ci := 11) (v := .int (iI (nights + 1))) (ty := .int) (C := RX9) (T := TX9) (N := 8) hx hb hts iX9 tyX9 tyX9_ok nmX9 hown hK hP hD hS 1 rfl rfl 3 (by decide) f_127 (fun _ h9 => h9) rfl (by decide +kernel) rfl rfl (Nat.le_of_ble_eq_true rfl) dX4_passNight_156 (fun H locs hP hD hS => ?_)
          have hP : va_P D vwCl (bOffice tA a0 a1 a2 a3 a4 a5 a6 a7 a8 a9 a10 a11 a12 a13 a14 a15 a16 a17 a18 a19 a20 a21 a22 ports legs lower upper leng reach (mtUp legs reach z12_6 meter) cnt strt goal mo9 ln9 dn9 z12_6 (nights + 1) fog fu9 re9 brt shrt grp_4 seen tp_1 shr_3 need_2 ordr size) H := hP
          have hD : va_D A (bOffice tA a0 a1 a2 a3 a4 a5 a6 a7 a8 a9 a10 a11 a12 a13 a14 a15 a16 a17 a18 a19 a20 a21 a22 ports legs lower upper leng reach (mtUp legs reach z12_6 meter) cnt strt goal mo9 ln9 dn9 z12_6 (nights + 1) fog fu9 re9 brt shrt grp_4 seen tp_1 shr_3 need_2 ordr size) := hD
          refine lv_iload_n hx hb dX4_passNight_159 rfl (lv_at hl 1 rfl) ?_
          have e_money : mo9 = (updTo cnt money (fun j => money j - nSh tp_1 shr_3 j + nBk fog tp_1 shr_3 j)) := by rw [k1, show i = cnt by omega]
          have hP : va_P D vwCl (bOffice tA a0 a1 a2 a3 a4 a5 a6 a7 a8 a9 a10 a11 a12 a13 a14 a15 a16 a17 a18 a19 a20 a21 a22 ports legs lower upper leng reach (mtUp legs reach z12_6 meter) cnt strt goal (updTo cnt money (fun j => money j - nSh tp_1 shr_3 j + nBk fog tp_1 shr_3 j)) ln9 dn9 z12_6 (nights + 1) fog fu9 re9 brt shrt grp_4 seen tp_1 shr_3 need_2 ordr size) H := by rw [← e_money]; exact hP
          have hD : va_D A (bOffice tA a0 a1 a2 a3 a4 a5 a6 a7 a8 a9 a10 a11 a12 a13 a14 a15 a16 a17 a18 a19 a20 a21 a22 ports legs lower upper leng reach (mtUp legs reach z12_6 meter) cnt strt goal (updTo cnt money (fun j => money j - nSh tp_1 shr_3 j + nBk fog tp_1 shr_3 j)) ln9 dn9 z12_6 (nights + 1) fog fu9 re9 brt shrt grp_4 seen tp_1 shr_3 need_2 ordr size) := by rw [← e_money]; exact hD
          have e_litN : ln9 = (updTo cnt litN (fun j => litN j + tp_1 j)) := by rw [k2, show i = cnt by omega]
          have hP : va_P D vwCl (bOffice tA a0 a1 a2 a3 a4 a5 a6 a7 a8 a9 a10 a11 a12 a13 a14 a15 a16 a17 a18 a19 a20 a21 a22 ports legs lower upper leng reach (mtUp legs reach z12_6 meter) cnt strt goal (updTo cnt money (fun j => money j - nSh tp_1 shr_3 j + nBk fog tp_1 shr_3 j)) (updTo cnt litN (fun j => litN j + tp_1 j)) dn9 z12_6 (nights + 1) fog fu9 re9 brt shrt grp_4 seen tp_1 shr_3 need_2 ordr size) H := by rw [← e_litN]; exact hP
          have hD : va_D A (bOffice tA a0 a1 a2 a3 a4 a5 a6 a7 a8 a9 a10 a11 a12 a13 a14 a15 a16 a17 a18 a19 a20 a21 a22 ports legs lower upper leng reach (mtUp legs reach z12_6 meter) cnt strt goal (updTo cnt money (fun j => money j - nSh tp_1 shr_3 j + nBk fog tp_1 shr_3 j)) (updTo cnt litN (fun j => litN j + tp_1 j)) dn9 z12_6 (nights + 1) fog fu9 re9 brt shrt grp_4 seen tp_1 shr_3 need_2 ordr size) := by rw [← e_litN]; exact hD
          have e_darkN : dn9 = (updTo cnt darkN (fun j => darkN j + (1 - tp_1 j))) := by rw [k3, show i = cnt by omega]
          have hP : va_P D vwCl (bOffice tA a0 a1 a2 a3 a4 a5 a6 a7 a8 a9 a10 a11 a12 a13 a14 a15 a16 a17 a18 a19 a20 a21 a22 ports legs lower upper leng reach (mtUp legs reach z12_6 meter) cnt strt goal (updTo cnt money (fun j => money j - nSh tp_1 shr_3 j + nBk fog tp_1 shr_3 j)) (updTo cnt litN (fun j => litN j + tp_1 j)) (updTo cnt darkN (fun j => darkN j + (1 - tp_1 j))) z12_6 (nights + 1) fog fu9 re9 brt shrt grp_4 seen tp_1 shr_3 need_2 ordr size) H := by rw [← e_darkN]; exact hP
          have hD : va_D A (bOffice tA a0 a1 a2 a3 a4 a5 a6 a7 a8 a9 a10 a11 a12 a13 a14 a15 a16 a17 a18 a19 a20 a21 a22 ports legs lower upper leng reach (mtUp legs reach z12_6 meter) cnt strt goal (updTo cnt money (fun j => money j - nSh tp_1 shr_3 j + nBk fog tp_1 shr_3 j)) (updTo cnt litN (fun j => litN j + tp_1 j)) (updTo cnt darkN (fun j => darkN j + (1 - tp_1 j))) z12_6 (nights + 1) fog fu9 re9 brt shrt grp_4 seen tp_1 shr_3 need_2 ordr size) := by rw [← e_darkN]; exact hD
          have e_fog : fog = (if 0 < fog then fog - 1 else fog) := by first | rw [if_pos (by omega)] | rw [if_neg (by omega)]
          have hP : va_P D vwCl (bOffice tA a0 a1 a2 a3 a4 a5 a6 a7 a8 a9 a10 a11 a12 a13 a14 a15 a16 a17 a18 a19 a20 a21 a22 ports legs lower upper leng reach (mtUp legs reach z12_6 meter) cnt strt goal (updTo cnt money (fun j => money j - nSh tp_1 shr_3 j + nBk fog tp_1 shr_3 j)) (updTo cnt litN (fun j => litN j + tp_1 j)) (updTo cnt darkN (fun j => darkN j + (1 - tp_1 j))) z12_6 (nights + 1) (if 0 < fog then fog - 1 else fog) fu9 re9 brt shrt grp_4 seen tp_1 shr_3 need_2 ordr size) H := by rw [← e_fog]; exact hP
          have hD : va_D A (bOffice tA a0 a1 a2 a3 a4 a5 a6 a7 a8 a9 a10 a11 a12 a13 a14 a15 a16 a17 a18 a19 a20 a21 a22 ports legs lower upper leng reach (mtUp legs reach z12_6 meter) cnt strt goal (updTo cnt money (fun j => money j - nSh tp_1 shr_3 j + nBk fog tp_1 shr_3 j)) (updTo cnt litN (fun j => litN j + tp_1 j)) (updTo cnt darkN (fun j => darkN j + (1 - tp_1 j))) z12_6 (nights + 1) (if 0 < fog then fog - 1 else fog) fu9 re9 brt shrt grp_4 seen tp_1 shr_3 need_2 ordr size) := by rw [← e_fog]; exact hD
          have e_fund : fu9 = (fund + sm (fun j => nSh tp_1 shr_3 j - nBk fog tp_1 shr_3 j) cnt.toNat) := by rw [k4, show i = cnt by omega]
          have hP : va_P D vwCl (bOffice tA a0 a1 a2 a3 a4 a5 a6 a7 a8 a9 a10 a11 a12 a13 a14 a15 a16 a17 a18 a19 a20 a21 a22 ports legs lower upper leng reach (mtUp legs reach z12_6 meter) cnt strt goal (updTo cnt money (fun j => money j - nSh tp_1 shr_3 j + nBk fog tp_1 shr_3 j)) (updTo cnt litN (fun j => litN j + tp_1 j)) (updTo cnt darkN (fun j => darkN j + (1 - tp_1 j))) z12_6 (nights + 1) (if 0 < fog then fog - 1 else fog) (fund + sm (fun j => nSh tp_1 shr_3 j - nBk fog tp_1 shr_3 j) cnt.toNat) re9 brt shrt grp_4 seen tp_1 shr_3 need_2 ordr size) H := by rw [← e_fund]; exact hP
          have hD : va_D A (bOffice tA a0 a1 a2 a3 a4 a5 a6 a7 a8 a9 a10 a11 a12 a13 a14 a15 a16 a17 a18 a19 a20 a21 a22 ports legs lower upper leng reach (mtUp legs reach z12_6 meter) cnt strt goal (updTo cnt money (fun j => money j - nSh tp_1 shr_3 j + nBk fog tp_1 shr_3 j)) (updTo cnt litN (fun j => litN j + tp_1 j)) (updTo cnt darkN (fun j => darkN j + (1 - tp_1 j))) z12_6 (nights + 1) (if 0 < fog then fog - 1 else fog) (fund + sm (fun j => nSh tp_1 shr_3 j - nBk fog tp_1 shr_3 j) cnt.toNat) re9 brt shrt grp_4 seen tp_1 shr_3 need_2 ordr size) := by rw [← e_fund]; exact hD
          have e_refd : re9 = (refd + sm (nBk fog tp_1 shr_3) cnt.toNat) := by rw [k5, show i = cnt by omega]
          have hP : va_P D vwCl (bOffice tA a0 a1 a2 a3 a4 a5 a6 a7 a8 a9 a10 a11 a12 a13 a14 a15 a16 a17 a18 a19 a20 a21 a22 ports legs lower upper leng reach (mtUp legs reach z12_6 meter) cnt strt goal (updTo cnt money (fun j => money j - nSh tp_1 shr_3 j + nBk fog tp_1 shr_3 j)) (updTo cnt litN (fun j => litN j + tp_1 j)) (updTo cnt darkN (fun j => darkN j + (1 - tp_1 j))) z12_6 (nights + 1) (if 0 < fog then fog - 1 else fog) (fund + sm (fun j => nSh tp_1 shr_3 j - nBk fog tp_1 shr_3 j) cnt.toNat) (refd + sm (nBk fog tp_1 shr_3) cnt.toNat) brt shrt grp_4 seen tp_1 shr_3 need_2 ordr size) H := by rw [← e_refd]; exact hP
          have hD : va_D A (bOffice tA a0 a1 a2 a3 a4 a5 a6 a7 a8 a9 a10 a11 a12 a13 a14 a15 a16 a17 a18 a19 a20 a21 a22 ports legs lower upper leng reach (mtUp legs reach z12_6 meter) cnt strt goal (updTo cnt money (fun j => money j - nSh tp_1 shr_3 j + nBk fog tp_1 shr_3 j)) (updTo cnt litN (fun j => litN j + tp_1 j)) (updTo cnt darkN (fun j => darkN j + (1 - tp_1 j))) z12_6 (nights + 1) (if 0 < fog then fog - 1 else fog) (fund + sm (fun j => nSh tp_1 shr_3 j - nBk fog tp_1 shr_3 j) cnt.toNat) (refd + sm (nBk fog tp_1 shr_3) cnt.toNat) brt shrt grp_4 seen tp_1 shr_3 need_2 ordr size) := by rw [← e_refd]; exact hD
          exact hret n1 (tp_1, need_2, shr_3, grp_4, z12_6) _ _ _ _ dX4_passNight_160 ⟨(show isPlan (eg legs lower upper leng reach) cnt strt goal money tp_1 need_2 shr_3 from by exact plan), (show isGr tp_1 need_2 z12_6 from by exact q_12), (show n1 = sm tp_1 cnt.toNat from by rw [k0, show i = cnt by omega])⟩ hP hD hS
        · refine lv_aload_n hx hb dX4_passNight_116 rfl (lv_at hl 2 rfl) ?_
          refine va_get (D := D) (ci := 6) (v := .ref a1) (C := RX4) (T := TX4) (N := 3) hx hb hts iX4 hown hK hP 0 rfl rfl 0 (by decide) f_12 (fun _ h9 => h9) rfl dX4_passNight_117 ?_
          refine lv_dup hx hb dX4_passNight_120 rfl ?_
          refine va_get (D := D) (ci := 11) (v := .int (iI fog)) (C := RX9) (T := TX9) (N := 8) hx hb hts iX9 hown hK hP 1 rfl rfl 4 (by decide) f_94 (fun _ h9 => h9) rfl dX4_passNight_121 ?_
          refine zz_iconst hx hb dX4_passNight_124 ?_
          refine zz_isub hx hb dX4_passNight_125 ?_
          refine va_put (D := D) (ci := 11) (v := .int (iI (fog - 1))) (ty := .int) (C := RX9) (T := TX9) (N := 8) hx hb hts iX9 tyX9 tyX9_ok nmX9 hown hK hP hD hS 1 rfl rfl 4 (by decide) f_94 (fun _ h9 => h9) rfl (by decide +kernel) rfl rfl (Nat.le_of_ble_eq_true rfl) dX4_passNight_126 (fun H locs hP hD hS => ?_)
          have hP : va_P D vwCl (bOffice tA a0 a1 a2 a3 a4 a5 a6 a7 a8 a9 a10 a11 a12 a13 a14 a15 a16 a17 a18 a19 a20 a21 a22 ports legs lower upper leng reach meter cnt strt goal mo9 ln9 dn9 z12_6 nights (fog - 1) fu9 re9 brt shrt grp_4 seen tp_1 shr_3 need_2 ordr size) H := hP
          have hD : va_D A (bOffice tA a0 a1 a2 a3 a4 a5 a6 a7 a8 a9 a10 a11 a12 a13 a14 a15 a16 a17 a18 a19 a20 a21 a22 ports legs lower upper leng reach meter cnt strt goal mo9 ln9 dn9 z12_6 nights (fog - 1) fu9 re9 brt shrt grp_4 seen tp_1 shr_3 need_2 ordr size) := hD
          refine lv_aload_n hx hb dX4_passNight_129 rfl (lv_at hl 2 rfl) ?_
          refine va_get (D := D) (ci := 6) (v := .ref a1) (C := RX4) (T := TX4) (N := 3) hx hb hts iX4 hown hK hP 0 rfl rfl 0 (by decide) f_12 (fun _ h9 => h9) rfl dX4_passNight_130 ?_
          refine va_get (D := D) (ci := 11) (v := .ref a2) (C := RX9) (T := TX9) (N := 8) hx hb hts iX9 hown hK hP 1 rfl rfl 0 (by decide) f_32 (fun _ h9 => h9) rfl dX4_passNight_133 ?_
          refine lv_aload_n hx hb dX4_passNight_136 rfl (lv_at hl 2 rfl) ?_
          refine va_get (D := D) (ci := 6) (v := .ref a1) (C := RX4) (T := TX4) (N := 3) hx hb hts iX4 hown hK hP 0 rfl rfl 0 (by decide) f_12 (fun _ h9 => h9) rfl dX4_passNight_137 ?_
          refine va_get (D := D) (ci := 11) (v := .int (iI z12_6)) (C := RX9) (T := TX9) (N := 8) hx hb hts iX9 hown hK hP 1 rfl rfl 2 (by decide) f_104 (fun _ h9 => h9) rfl dX4_passNight_140 ?_
          refine zz_callVv (As := [.int (iI z12_6)]) (rest := []) (wf := fun u => bOffice tA a0 a1 a2 a3 a4 a5 a6 a7 a8 a9 a10 a11 a12 a13 a14 a15 a16 a17 a18 a19 a20 a21 a22 ports legs lower upper leng reach (mtUp legs reach z12_6 meter) cnt strt goal mo9 ln9 dn9 z12_6 nights (fog - 1) fu9 re9 brt shrt grp_4 seen tp_1 shr_3 need_2 ordr size) ⟨hx, hb, hml, hown, hts⟩ (c_X1_countLight l D tA a2 a3 a4 a5 a6 a7 H.size ports legs lower upper leng reach meter z12_6 (by first | assumption | omega) (by first | assumption | omega) (by first | assumption | omega)) (cwV 1 hts gX4_passNight_X1_countLight rfl rfl rfl (by decide +kernel) ⟨Nat.le_of_ble_eq_true rfl, Nat.le_of_ble_eq_true rfl⟩) hK hP hD hS hA [2, 3, 4, 5, 6, 7] [0, 1, 8, 9, 10, 11, 12, 13, 14, 15, 16, 17, 18, 19, 20, 21, 22] [0, 1, 17, 18, 19, 20, 21, 22, 2, 3, 4, 5, 6, 7, 8, 9, 10, 11, 12, 13, 14, 15, 16] rfl rfl (by decide) (by decide) (by decide) (by decide) (fun _ => rfl) (ci := 4) (q0 := 0) rfl rfl rfl rfl rfl hl.1 (Nat.le_of_ble_eq_true rfl) dX4_passNight_143 ⟨Nat.le_of_ble_eq_true rfl, Nat.le_of_ble_eq_true rfl⟩ ?_
          intro u H locs p143_9 hP hD hS
          have hP : va_P D vwCl (bOffice tA a0 a1 a2 a3 a4 a5 a6 a7 a8 a9 a10 a11 a12 a13 a14 a15 a16 a17 a18 a19 a20 a21 a22 ports legs lower upper leng reach (mtUp legs reach z12_6 meter) cnt strt goal mo9 ln9 dn9 z12_6 nights (fog - 1) fu9 re9 brt shrt grp_4 seen tp_1 shr_3 need_2 ordr size) H := hP
          have hD : va_D A (bOffice tA a0 a1 a2 a3 a4 a5 a6 a7 a8 a9 a10 a11 a12 a13 a14 a15 a16 a17 a18 a19 a20 a21 a22 ports legs lower upper leng reach (mtUp legs reach z12_6 meter) cnt strt goal mo9 ln9 dn9 z12_6 nights (fog - 1) fu9 re9 brt shrt grp_4 seen tp_1 shr_3 need_2 ordr size) := hD
          refine lv_aload_n hx hb dX4_passNight_146 rfl (lv_at hl 2 rfl) ?_
          refine va_get (D := D) (ci := 6) (v := .ref a1) (C := RX4) (T := TX4) (N := 3) hx hb hts iX4 hown hK hP 0 rfl rfl 0 (by decide) f_12 (fun _ h9 => h9) rfl dX4_passNight_147 ?_
          refine lv_dup hx hb dX4_passNight_150 rfl ?_
          refine va_get (D := D) (ci := 11) (v := .int (iI nights)) (C := RX9) (T := TX9) (N := 8) hx hb hts iX9 hown hK hP 1 rfl rfl 3 (by decide) f_127 (fun _ h9 => h9) rfl dX4_passNight_151 ?_
          refine zz_iconst hx hb dX4_passNight_154 ?_
          refine zz_iadd hx hb dX4_passNight_155 ?_
          refine va_put (D := D) (ci := 11) (v := .int (iI (nights + 1))) (ty := .int) (C := RX9) (T := TX9) (N := 8) hx hb hts iX9 tyX9 tyX9_ok nmX9 hown hK hP hD hS 1 rfl rfl 3 (by decide) f_127 (fun _ h9 => h9) rfl (by decide +kernel) rfl rfl (Nat.le_of_ble_eq_true rfl) dX4_passNight_156 (fun H locs hP hD hS => ?_)
          have hP : va_P D vwCl (bOffice tA a0 a1 a2 a3 a4 a5 a6 a7 a8 a9 a10 a11 a12 a13 a14 a15 a16 a17 a18 a19 a20 a21 a22 ports legs lower upper leng reach (mtUp legs reach z12_6 meter) cnt strt goal mo9 ln9 dn9 z12_6 (nights + 1) (fog - 1) fu9 re9 brt shrt grp_4 seen tp_1 shr_3 need_2 ordr size) H := hP
          have hD : va_D A (bOffice tA a0 a1 a2 a3 a4 a5 a6 a7 a8 a9 a10 a11 a12 a13 a14 a15 a16 a17 a18 a19 a20 a21 a22 ports legs lower upper leng reach (mtUp legs reach z12_6 meter) cnt strt goal mo9 ln9 dn9 z12_6 (nights + 1) (fog - 1) fu9 re9 brt shrt grp_4 seen tp_1 shr_3 need_2 ordr size) := hD
          refine lv_iload_n hx hb dX4_passNight_159 rfl (lv_at hl 1 rfl) ?_
          have e_money : mo9 = (updTo cnt money (fun j => money j - nSh tp_1 shr_3 j + nBk fog tp_1 shr_3 j)) := by rw [k1, show i = cnt by omega]
          have hP : va_P D vwCl (bOffice tA a0 a1 a2 a3 a4 a5 a6 a7 a8 a9 a10 a11 a12 a13 a14 a15 a16 a17 a18 a19 a20 a21 a22 ports legs lower upper leng reach (mtUp legs reach z12_6 meter) cnt strt goal (updTo cnt money (fun j => money j - nSh tp_1 shr_3 j + nBk fog tp_1 shr_3 j)) ln9 dn9 z12_6 (nights + 1) (fog - 1) fu9 re9 brt shrt grp_4 seen tp_1 shr_3 need_2 ordr size) H := by rw [← e_money]; exact hP
          have hD : va_D A (bOffice tA a0 a1 a2 a3 a4 a5 a6 a7 a8 a9 a10 a11 a12 a13 a14 a15 a16 a17 a18 a19 a20 a21 a22 ports legs lower upper leng reach (mtUp legs reach z12_6 meter) cnt strt goal (updTo cnt money (fun j => money j - nSh tp_1 shr_3 j + nBk fog tp_1 shr_3 j)) ln9 dn9 z12_6 (nights + 1) (fog - 1) fu9 re9 brt shrt grp_4 seen tp_1 shr_3 need_2 ordr size) := by rw [← e_money]; exact hD
          have e_litN : ln9 = (updTo cnt litN (fun j => litN j + tp_1 j)) := by rw [k2, show i = cnt by omega]
          have hP : va_P D vwCl (bOffice tA a0 a1 a2 a3 a4 a5 a6 a7 a8 a9 a10 a11 a12 a13 a14 a15 a16 a17 a18 a19 a20 a21 a22 ports legs lower upper leng reach (mtUp legs reach z12_6 meter) cnt strt goal (updTo cnt money (fun j => money j - nSh tp_1 shr_3 j + nBk fog tp_1 shr_3 j)) (updTo cnt litN (fun j => litN j + tp_1 j)) dn9 z12_6 (nights + 1) (fog - 1) fu9 re9 brt shrt grp_4 seen tp_1 shr_3 need_2 ordr size) H := by rw [← e_litN]; exact hP
          have hD : va_D A (bOffice tA a0 a1 a2 a3 a4 a5 a6 a7 a8 a9 a10 a11 a12 a13 a14 a15 a16 a17 a18 a19 a20 a21 a22 ports legs lower upper leng reach (mtUp legs reach z12_6 meter) cnt strt goal (updTo cnt money (fun j => money j - nSh tp_1 shr_3 j + nBk fog tp_1 shr_3 j)) (updTo cnt litN (fun j => litN j + tp_1 j)) dn9 z12_6 (nights + 1) (fog - 1) fu9 re9 brt shrt grp_4 seen tp_1 shr_3 need_2 ordr size) := by rw [← e_litN]; exact hD
          have e_darkN : dn9 = (updTo cnt darkN (fun j => darkN j + (1 - tp_1 j))) := by rw [k3, show i = cnt by omega]
          have hP : va_P D vwCl (bOffice tA a0 a1 a2 a3 a4 a5 a6 a7 a8 a9 a10 a11 a12 a13 a14 a15 a16 a17 a18 a19 a20 a21 a22 ports legs lower upper leng reach (mtUp legs reach z12_6 meter) cnt strt goal (updTo cnt money (fun j => money j - nSh tp_1 shr_3 j + nBk fog tp_1 shr_3 j)) (updTo cnt litN (fun j => litN j + tp_1 j)) (updTo cnt darkN (fun j => darkN j + (1 - tp_1 j))) z12_6 (nights + 1) (fog - 1) fu9 re9 brt shrt grp_4 seen tp_1 shr_3 need_2 ordr size) H := by rw [← e_darkN]; exact hP
          have hD : va_D A (bOffice tA a0 a1 a2 a3 a4 a5 a6 a7 a8 a9 a10 a11 a12 a13 a14 a15 a16 a17 a18 a19 a20 a21 a22 ports legs lower upper leng reach (mtUp legs reach z12_6 meter) cnt strt goal (updTo cnt money (fun j => money j - nSh tp_1 shr_3 j + nBk fog tp_1 shr_3 j)) (updTo cnt litN (fun j => litN j + tp_1 j)) (updTo cnt darkN (fun j => darkN j + (1 - tp_1 j))) z12_6 (nights + 1) (fog - 1) fu9 re9 brt shrt grp_4 seen tp_1 shr_3 need_2 ordr size) := by rw [← e_darkN]; exact hD
          have e_fog : (fog - 1) = (if 0 < fog then fog - 1 else fog) := by first | rw [if_pos (by omega)] | rw [if_neg (by omega)]
          rw [e_fog] at hP hD
          have e_fund : fu9 = (fund + sm (fun j => nSh tp_1 shr_3 j - nBk fog tp_1 shr_3 j) cnt.toNat) := by rw [k4, show i = cnt by omega]
          have hP : va_P D vwCl (bOffice tA a0 a1 a2 a3 a4 a5 a6 a7 a8 a9 a10 a11 a12 a13 a14 a15 a16 a17 a18 a19 a20 a21 a22 ports legs lower upper leng reach (mtUp legs reach z12_6 meter) cnt strt goal (updTo cnt money (fun j => money j - nSh tp_1 shr_3 j + nBk fog tp_1 shr_3 j)) (updTo cnt litN (fun j => litN j + tp_1 j)) (updTo cnt darkN (fun j => darkN j + (1 - tp_1 j))) z12_6 (nights + 1) (if 0 < fog then fog - 1 else fog) (fund + sm (fun j => nSh tp_1 shr_3 j - nBk fog tp_1 shr_3 j) cnt.toNat) re9 brt shrt grp_4 seen tp_1 shr_3 need_2 ordr size) H := by rw [← e_fund]; exact hP
          have hD : va_D A (bOffice tA a0 a1 a2 a3 a4 a5 a6 a7 a8 a9 a10 a11 a12 a13 a14 a15 a16 a17 a18 a19 a20 a21 a22 ports legs lower upper leng reach (mtUp legs reach z12_6 meter) cnt strt goal (updTo cnt money (fun j => money j - nSh tp_1 shr_3 j + nBk fog tp_1 shr_3 j)) (updTo cnt litN (fun j => litN j + tp_1 j)) (updTo cnt darkN (fun j => darkN j + (1 - tp_1 j))) z12_6 (nights + 1) (if 0 < fog then fog - 1 else fog) (fund + sm (fun j => nSh tp_1 shr_3 j - nBk fog tp_1 shr_3 j) cnt.toNat) re9 brt shrt grp_4 seen tp_1 shr_3 need_2 ordr size) := by rw [← e_fund]; exact hD
          have e_refd : re9 = (refd + sm (nBk fog tp_1 shr_3) cnt.toNat) := by rw [k5, show i = cnt by omega]
          have hP : va_P D vwCl (bOffice tA a0 a1 a2 a3 a4 a5 a6 a7 a8 a9 a10 a11 a12 a13 a14 a15 a16 a17 a18 a19 a20 a21 a22 ports legs lower upper leng reach (mtUp legs reach z12_6 meter) cnt strt goal (updTo cnt money (fun j => money j - nSh tp_1 shr_3 j + nBk fog tp_1 shr_3 j)) (updTo cnt litN (fun j => litN j + tp_1 j)) (updTo cnt darkN (fun j => darkN j + (1 - tp_1 j))) z12_6 (nights + 1) (if 0 < fog then fog - 1 else fog) (fund + sm (fun j => nSh tp_1 shr_3 j - nBk fog tp_1 shr_3 j) cnt.toNat) (refd + sm (nBk fog tp_1 shr_3) cnt.toNat) brt shrt grp_4 seen tp_1 shr_3 need_2 ordr size) H := by rw [← e_refd]; exact hP
          have hD : va_D A (bOffice tA a0 a1 a2 a3 a4 a5 a6 a7 a8 a9 a10 a11 a12 a13 a14 a15 a16 a17 a18 a19 a20 a21 a22 ports legs lower upper leng reach (mtUp legs reach z12_6 meter) cnt strt goal (updTo cnt money (fun j => money j - nSh tp_1 shr_3 j + nBk fog tp_1 shr_3 j)) (updTo cnt litN (fun j => litN j + tp_1 j)) (updTo cnt darkN (fun j => darkN j + (1 - tp_1 j))) z12_6 (nights + 1) (if 0 < fog then fog - 1 else fog) (fund + sm (fun j => nSh tp_1 shr_3 j - nBk fog tp_1 shr_3 j) cnt.toNat) (refd + sm (nBk fog tp_1 shr_3) cnt.toNat) brt shrt grp_4 seen tp_1 shr_3 need_2 ordr size) := by rw [← e_refd]; exact hD
          exact hret n1 (tp_1, need_2, shr_3, grp_4, z12_6) _ _ _ _ dX4_passNight_160 ⟨(show isPlan (eg legs lower upper leng reach) cnt strt goal money tp_1 need_2 shr_3 from by exact plan), (show isGr tp_1 need_2 z12_6 from by exact q_12), (show n1 = sm tp_1 cnt.toNat from by rw [k0, show i = cnt by omega])⟩ hP hD hS
      · refine lv_aload_n hx hb dX4_passNight_36 rfl (lv_at hl 2 rfl) ?_
        refine va_get (D := D) (ci := 6) (v := .ref a18) (C := RX4) (T := TX4) (N := 3) hx hb hts iX4 hown hK hP 0 rfl rfl 2 (by decide) f_28 (fun _ h9 => h9) rfl dX4_passNight_37 ?_
        refine va_get (D := D) (ci := 9) (v := .ref a19) (C := RX7) (T := TX7) (N := 5) hx hb hts iX7 hown hK hP 18 rfl rfl 0 (by decide) f_107 (fun _ h9 => h9) rfl dX4_passNight_40 ?_
        refine lv_iload_n hx hb dX4_passNight_43 rfl (lv_at hl 0 rfl) ?_
        refine zz_zald hx hb hK hP 19 rfl (by decide) (by omega) dX4_passNight_44 ?_
        have r_44 := pv.1 i (by omega) (by omega)
        refine zz_if_eq (tgt := 84) hx hb dX4_passNight_45 (by decide) (by omega) (fun c_45 => ?_) (fun c_45 => ?_)
        · refine lv_aload_n hx hb dX4_passNight_84 rfl (lv_at hl 2 rfl) ?_
          refine va_get (D := D) (ci := 6) (v := .ref a1) (C := RX4) (T := TX4) (N := 3) hx hb hts iX4 hown hK hP 0 rfl rfl 0 (by decide) f_12 (fun _ h9 => h9) rfl dX4_passNight_85 ?_
          refine va_get (D := D) (ci := 11) (v := .ref a8) (C := RX9) (T := TX9) (N := 8) hx hb hts iX9 hown hK hP 1 rfl rfl 1 (by decide) f_65 (fun _ h9 => h9) rfl dX4_passNight_88 ?_
          refine va_get (D := D) (ci := 10) (v := .ref a13) (C := RX8) (T := TX8) (N := 6) hx hb hts iX8 hown hK hP 8 rfl rfl 5 (by decide) f_121 (fun _ h9 => h9) rfl dX4_passNight_91 ?_
          refine lv_iload_n hx hb dX4_passNight_94 rfl (lv_at hl 0 rfl) ?_
          refine lv_dup2_11 hx hb dX4_passNight_95 rfl rfl ?_
          refine zz_iald hx hb hK hP 13 rfl (by decide) (by omega) dX4_passNight_96 ?_
          refine zz_iconst hx hb dX4_passNight_97 ?_
          refine zz_iadd hx hb dX4_passNight_98 ?_
          refine zz_iast hx hb hK hP hD hS 13 rfl (by decide) (by omega) dX4_passNight_99 (fun H locs hP hD hS => ?_)
          have hP : va_P D vwCl (bOffice tA a0 a1 a2 a3 a4 a5 a6 a7 a8 a9 a10 a11 a12 a13 a14 a15 a16 a17 a18 a19 a20 a21 a22 ports legs lower upper leng reach meter cnt strt goal mo9 ln9 (zU dn9 i ((dn9 i) + 1)) z12_6 nights fog fu9 re9 brt shrt grp_4 seen tp_1 shr_3 need_2 ordr size) H := hP
          have hD : va_D A (bOffice tA a0 a1 a2 a3 a4 a5 a6 a7 a8 a9 a10 a11 a12 a13 a14 a15 a16 a17 a18 a19 a20 a21 a22 ports legs lower upper leng reach meter cnt strt goal mo9 ln9 (zU dn9 i ((dn9 i) + 1)) z12_6 nights fog fu9 re9 brt shrt grp_4 seen tp_1 shr_3 need_2 ordr size) := hD
          refine zz_iinc (lv' := [(2, .int (iI (i + 1))), (1, .int (iI n1)), (0, .ref a0)]) hx hb dX4_passNight_100 hl (k := 0) rfl (by decide) rfl (fun ls hl => ?_)
          refine lv_goto (tgt := 22) hx hb dX4_passNight_103 (by decide) ?_
          exact ih22 (i + 1) n1 mo9 ln9 (zU dn9 i ((dn9 i) + 1)) fu9 re9 _ _ _ (by omega) (by rw [k0]; first | exact sm_next1 (by omega) (by omega) | exact sm_next0 (by omega) (by omega)) (by subst k1; first | (rw [updTo_at]; exact updTo_s (by omega) (by rw [nSh_1 (by omega), nBk_1 (by omega)])) | exact updTo_keep (by omega) (by rw [nSh_0 (by omega), nBk_0 (by omega)]; omega)) (by subst k2; first | (rw [updTo_at]; exact updTo_s (by omega) (by omega)) | exact updTo_keep (by omega) (by omega)) (by subst k3; first | exact updTo_keep (by omega) (by omega) | (rw [updTo_at]; exact updTo_s (by omega) (by omega))) (by rw [k4, ← sm_next (by omega)]; first | (rw [nSh_1 (by omega), nBk_1 (by omega)]; omega) | (rw [nSh_0 (by omega), nBk_0 (by omega)]; omega)) (by rw [k5, ← sm_next (by omega)]; first | (rw [nBk_1 (by omega)]; omega) | (rw [nBk_0 (by omega)]; omega)) (by omega) hP hD hS (lv_sub hl [0, 1, 2] rfl)
        · refine lv_aload_n hx hb dX4_passNight_48 rfl (lv_at hl 2 rfl) ?_
          refine lv_iload_n hx hb dX4_passNight_49 rfl (lv_at hl 0 rfl) ?_
          refine lv_aload_n hx hb dX4_passNight_50 rfl (lv_at hl 2 rfl) ?_
          refine va_get (D := D) (ci := 6) (v := .ref a18) (C := RX4) (T := TX4) (N := 3) hx hb hts iX4 hown hK hP 0 rfl rfl 2 (by decide) f_28 (fun _ h9 => h9) rfl dX4_passNight_51 ?_
          refine va_get (D := D) (ci := 9) (v := .ref a20) (C := RX7) (T := TX7) (N := 5) hx hb hts iX7 hown hK hP 18 rfl rfl 1 (by decide) f_111 (fun _ h9 => h9) rfl dX4_passNight_54 ?_
          refine lv_iload_n hx hb dX4_passNight_57 rfl (lv_at hl 0 rfl) ?_
          refine zz_iald hx hb hK hP 20 rfl (by decide) (by omega) dX4_passNight_58 ?_
          have r_58 := isPlan_pays hc.2 plan (j := i) (by omega) (by omega) (by omega)
          have r_58b := hm i (by omega) (by omega)
          refine zz_callVv (As := [.int (iI i), .int (iI (shr_3 i))]) (rest := []) (wf := fun u => bOffice tA a0 a1 a2 a3 a4 a5 a6 a7 a8 a9 a10 a11 a12 a13 a14 a15 a16 a17 a18 a19 a20 a21 a22 ports legs lower upper leng reach meter cnt strt goal (zU mo9 i (mo9 i - (shr_3 i) + (if 0 < fog then (shr_3 i) / 2 else 0))) ln9 dn9 z12_6 nights fog (fu9 + (shr_3 i) - (if 0 < fog then (shr_3 i) / 2 else 0)) (re9 + (if 0 < fog then (shr_3 i) / 2 else 0)) brt shrt grp_4 seen tp_1 shr_3 need_2 ordr size) ⟨hx, hb, hml, hown, hts⟩ (c_X4_charge l D tA a0 a1 a2 a3 a4 a5 a6 a7 a8 a9 a10 a11 a12 a13 a14 a15 a16 a17 a18 a19 a20 a21 a22 H.size ports legs lower upper leng reach meter cnt strt goal mo9 ln9 dn9 z12_6 nights fog fu9 re9 brt shrt grp_4 seen tp_1 shr_3 need_2 ordr size i (shr_3 i) (by first | assumption | omega) (by first | assumption | omega) (by first | assumption | omega) (by first | assumption | omega) (by first | assumption | omega)) (cwV 2 hts gX4_passNight_X4_charge rfl rfl rfl (by decide +kernel) ⟨Nat.le_of_ble_eq_true rfl, Nat.le_of_ble_eq_true rfl⟩) hK hP hD hS hA [0, 1, 2, 3, 4, 5, 6, 7, 8, 9, 10, 11, 12, 13, 14, 15, 16, 17, 18, 19, 20, 21, 22] [] [0, 1, 2, 3, 4, 5, 6, 7, 8, 9, 10, 11, 12, 13, 14, 15, 16, 17, 18, 19, 20, 21, 22] rfl rfl (by decide) (by decide) (by decide) (by decide) (fun _ => rfl) (ci := 6) (q0 := 0) rfl rfl rfl rfl rfl hl.1 (Nat.le_of_ble_eq_true rfl) dX4_passNight_59 ⟨Nat.le_of_ble_eq_true rfl, Nat.le_of_ble_eq_true rfl⟩ ?_
          intro u H locs p59_10 hP hD hS
          have hP : va_P D vwCl (bOffice tA a0 a1 a2 a3 a4 a5 a6 a7 a8 a9 a10 a11 a12 a13 a14 a15 a16 a17 a18 a19 a20 a21 a22 ports legs lower upper leng reach meter cnt strt goal (zU mo9 i (mo9 i - (shr_3 i) + (if 0 < fog then (shr_3 i) / 2 else 0))) ln9 dn9 z12_6 nights fog (fu9 + (shr_3 i) - (if 0 < fog then (shr_3 i) / 2 else 0)) (re9 + (if 0 < fog then (shr_3 i) / 2 else 0)) brt shrt grp_4 seen tp_1 shr_3 need_2 ordr size) H := hP
          have hD : va_D A (bOffice tA a0 a1 a2 a3 a4 a5 a6 a7 a8 a9 a10 a11 a12 a13 a14 a15 a16 a17 a18 a19 a20 a21 a22 ports legs lower upper leng reach meter cnt strt goal (zU mo9 i (mo9 i - (shr_3 i) + (if 0 < fog then (shr_3 i) / 2 else 0))) ln9 dn9 z12_6 nights fog (fu9 + (shr_3 i) - (if 0 < fog then (shr_3 i) / 2 else 0)) (re9 + (if 0 < fog then (shr_3 i) / 2 else 0)) brt shrt grp_4 seen tp_1 shr_3 need_2 ordr size) := hD
          refine lv_aload_n hx hb dX4_passNight_62 rfl (lv_at hl 2 rfl) ?_
          refine va_get (D := D) (ci := 6) (v := .ref a1) (C := RX4) (T := TX4) (N := 3) hx hb hts iX4 hown hK hP 0 rfl rfl 0 (by decide) f_12 (fun _ h9 => h9) rfl dX4_passNight_63 ?_
          refine va_get (D := D) (ci := 11) (v := .ref a8) (C := RX9) (T := TX9) (N := 8) hx hb hts iX9 hown hK hP 1 rfl rfl 1 (by decide) f_65 (fun _ h9 => h9) rfl dX4_passNight_66 ?_
          refine va_get (D := D) (ci := 10) (v := .ref a12) (C := RX8) (T := TX8) (N := 6) hx hb hts iX8 hown hK hP 8 rfl rfl 4 (by decide) f_118 (fun _ h9 => h9) rfl dX4_passNight_69 ?_
          refine lv_iload_n hx hb dX4_passNight_72 rfl (lv_at hl 0 rfl) ?_
          refine lv_dup2_11 hx hb dX4_passNight_73 rfl rfl ?_
          refine zz_iald hx hb hK hP 12 rfl (by decide) (by omega) dX4_passNight_74 ?_
          refine zz_iconst hx hb dX4_passNight_75 ?_
          refine zz_iadd hx hb dX4_passNight_76 ?_
          refine zz_iast hx hb hK hP hD hS 12 rfl (by decide) (by omega) dX4_passNight_77 (fun H locs hP hD hS => ?_)
          have hP : va_P D vwCl (bOffice tA a0 a1 a2 a3 a4 a5 a6 a7 a8 a9 a10 a11 a12 a13 a14 a15 a16 a17 a18 a19 a20 a21 a22 ports legs lower upper leng reach meter cnt strt goal (zU mo9 i (mo9 i - (shr_3 i) + (if 0 < fog then (shr_3 i) / 2 else 0))) (zU ln9 i ((ln9 i) + 1)) dn9 z12_6 nights fog (fu9 + (shr_3 i) - (if 0 < fog then (shr_3 i) / 2 else 0)) (re9 + (if 0 < fog then (shr_3 i) / 2 else 0)) brt shrt grp_4 seen tp_1 shr_3 need_2 ordr size) H := hP
          have hD : va_D A (bOffice tA a0 a1 a2 a3 a4 a5 a6 a7 a8 a9 a10 a11 a12 a13 a14 a15 a16 a17 a18 a19 a20 a21 a22 ports legs lower upper leng reach meter cnt strt goal (zU mo9 i (mo9 i - (shr_3 i) + (if 0 < fog then (shr_3 i) / 2 else 0))) (zU ln9 i ((ln9 i) + 1)) dn9 z12_6 nights fog (fu9 + (shr_3 i) - (if 0 < fog then (shr_3 i) / 2 else 0)) (re9 + (if 0 < fog then (shr_3 i) / 2 else 0)) brt shrt grp_4 seen tp_1 shr_3 need_2 ordr size) := hD
          refine zz_iinc (lv' := [(1, .int (iI (n1 + 1))), (2, .int (iI i)), (0, .ref a0)]) hx hb dX4_passNight_78 hl (k := 1) rfl (by decide) rfl (fun ls hl => ?_)
          refine lv_goto (tgt := 100) hx hb dX4_passNight_81 (by decide) ?_
          refine zz_iinc (lv' := [(2, .int (iI (i + 1))), (1, .int (iI (n1 + 1))), (0, .ref a0)]) hx hb dX4_passNight_100 hl (k := 1) rfl (by decide) rfl (fun ls hl => ?_)
          refine lv_goto (tgt := 22) hx hb dX4_passNight_103 (by decide) ?_
          exact ih22 (i + 1) (n1 + 1) (zU mo9 i (mo9 i - (shr_3 i) + (if 0 < fog then (shr_3 i) / 2 else 0))) (zU ln9 i ((ln9 i) + 1)) dn9 (fu9 + (shr_3 i) - (if 0 < fog then (shr_3 i) / 2 else 0)) (re9 + (if 0 < fog then (shr_3 i) / 2 else 0)) _ _ _ (by omega) (by rw [k0]; first | exact sm_next1 (by omega) (by omega) | exact sm_next0 (by omega) (by omega)) (by subst k1; first | (rw [updTo_at]; exact updTo_s (by omega) (by rw [nSh_1 (by omega), nBk_1 (by omega)])) | exact updTo_keep (by omega) (by rw [nSh_0 (by omega), nBk_0 (by omega)]; omega)) (by subst k2; first | (rw [updTo_at]; exact updTo_s (by omega) (by omega)) | exact updTo_keep (by omega) (by omega)) (by subst k3; first | exact updTo_keep (by omega) (by omega) | (rw [updTo_at]; exact updTo_s (by omega) (by omega))) (by rw [k4, ← sm_next (by omega)]; first | (rw [nSh_1 (by omega), nBk_1 (by omega)]; omega) | (rw [nSh_0 (by omega), nBk_0 (by omega)]; omega)) (by rw [k5, ← sm_next (by omega)]; first | (rw [nBk_1 (by omega)]; omega) | (rw [nBk_0 (by omega)]; omega)) (by omega) hP hD hS (lv_sub hl [0, 1, 2] rfl)
  exact L22 _ 0 0 money litN darkN fund refd _ _ _ (by omega) (by rfl) (by exact (updTo_0 _ _).symm) (by exact (updTo_0 _ _).symm) (by exact (updTo_0 _ _).symm) (by show fund = fund + 0; omega) (by show refd = refd + 0; omega) (Nat.lt_succ_self _) hP hD hS (lv_sub hl [0, 1, 2] rfl)

set_option maxHeartbeats 4000000 in
set_option maxRecDepth 100000 in
theorem c_X4_pairAgrees (l : Launch) (D : va_G) (tA : Nat → ClassId) (a0 a1 a2 a3 a4 a5 a6 a7 a8 a9 a10 a11 a12 a13 a14 a15 a16 a17 a18 a19 a20 a21 a22 : Nat) (sz : Nat) (ports : Int) (legs : Int) (lower : Int → Int) (upper : Int → Int) (leng : Int → Int) (reach : Int → Int) (meter : Int → Int) (cnt : Int) (strt : Int → Int) (goal : Int → Int) (money : Int → Int) (litN : Int → Int) (darkN : Int → Int) (rng : Int) (nights : Int) (fog : Int) (fund : Int) (refd : Int) (brt : Int) (shrt : Int → Int) (grp : Int → Int) (seen : Int → Int) (tp : Int → Int) (shr : Int → Int) (need : Int → Int) (ordr : Int → Int) (size : Int) (frm : Int) (too : Int) (r_frm : -2147483648 ≤ frm ∧ frm ≤ 2147483647) (r_too : -2147483648 ≤ too ∧ too ≤ 2147483647) (hch : ChV ports legs lower upper leng reach) (hu : ChU legs lower upper) (h1 : 0 ≤ frm ∧ frm < ports) (h2 : 0 ≤ too ∧ too < ports) (hne : frm ≠ too) : zMi l yX4_pairAgrees wsX4_pairAgrees ({ frames := 3, cells := 0, slots := 0, locals := 74 }) D tA [.ref a0, .int (iI frm), .int (iI too)] (bOffice tA a0 a1 a2 a3 a4 a5 a6 a7 a8 a9 a10 a11 a12 a13 a14 a15 a16 a17 a18 a19 a20 a21 a22 ports legs lower upper leng reach meter cnt strt goal money litN darkN rng nights fog fund refd brt shrt grp seen tp shr need ordr size) sz (fun (z : Int) (u : (Int → Int) × (Int → Int) × (Int → Int)) => (z = 1)) (fun (u : (Int → Int) × (Int → Int) × (Int → Int)) => bOffice tA a0 a1 a2 a3 a4 a5 a6 a7 a8 a9 a10 a11 a12 a13 a14 a15 a16 a17 a18 a19 a20 a21 a22 ports legs lower upper leng reach meter cnt strt goal money litN darkN rng nights fog fund refd brt u.1 u.2.1 u.2.2 tp shr need ordr size) 0 0 := by
  refine zMi_of (cc := cX4_pairAgrees) (maxL := 7) (by decide) rfl (fun z u h => zbool z (by omega)) (Nat.le_of_ble_eq_true rfl) ?_
  intro p e s m args below meth c A Q ls hx hb hml hts hown hK hP hD hA hret hl
  obtain ⟨H, hHe⟩ : ∃ H : Heap, H = s.heap := ⟨_, rfl⟩
  have hS : va_S A s.heap H [] := by rw [hHe]; exact va_S.rf
  rw [← hHe] at hP ⊢
  have hl : lv_has ls 7 [(0, .ref a0), (1, .int (iI frm)), (2, .int (iI too))] := hl
  have iX4 : ∀ v ∈ wsX40, v ∈ wsX4_pairAgrees := by decide +kernel
  have iX9 : ∀ v ∈ wsX90, v ∈ wsX4_pairAgrees := by decide +kernel
  have f_12 := hts (.fieldLink RX4 12 "HarborLights$Office" "now" "LHarborLights$State;") (by decide +kernel)
  have f_21 := hts (.fieldLink RX4 21 "HarborLights$Office" "routes" "LHarborLights$Routes;") (by decide +kernel)
  have f_32 := hts (.fieldLink RX4 32 "HarborLights$State" "chart" "LHarborLights$Chart;") (by decide +kernel)
  obtain ⟨vp0, vp1, vl0, vl1, -, -⟩ := id hch
  obtain ⟨Dv, hDv⟩ := Dv_ex vp1 (hch.egOk 20) (hu.eq hch 20) frm (by omega) (by omega)
  refine lv_aload_n hx hb dX4_pairAgrees_0 rfl (lv_at hl 0 rfl) ?_
  refine va_get (D := D) (ci := 6) (v := .ref a14) (C := RX4) (T := TX4) (N := 3) hx hb hts iX4 hown hK hP 0 rfl rfl 1 (by decide) f_21 (fun _ h9 => h9) rfl dX4_pairAgrees_1 ?_
  refine lv_aload_n hx hb dX4_pairAgrees_4 rfl (lv_at hl 0 rfl) ?_
  refine va_get (D := D) (ci := 6) (v := .ref a1) (C := RX4) (T := TX4) (N := 3) hx hb hts iX4 hown hK hP 0 rfl rfl 0 (by decide) f_12 (fun _ h9 => h9) rfl dX4_pairAgrees_5 ?_
  refine va_get (D := D) (ci := 11) (v := .ref a2) (C := RX9) (T := TX9) (N := 8) hx hb hts iX9 hown hK hP 1 rfl rfl 0 (by decide) f_32 (fun _ h9 => h9) rfl dX4_pairAgrees_8 ?_
  refine lv_iload_n hx hb dX4_pairAgrees_11 rfl (lv_at hl 1 rfl) ?_
  refine lv_iload_n hx hb dX4_pairAgrees_12 rfl (lv_at hl 2 rfl) ?_
  refine zz_bipush hx hb dX4_pairAgrees_13 (by decide) ?_
  refine zz_callVi (As := [.ref a2, .int (iI frm), .int (iI too), .int (iI 20)]) (rest := []) (wf := fun u => bOffice tA a0 a1 a2 a3 a4 a5 a6 a7 a8 a9 a10 a11 a12 a13 a14 a15 a16 a17 a18 a19 a20 a21 a22 ports legs lower upper leng reach meter cnt strt goal money litN darkN rng nights fog fund refd brt u.1 grp u.2 tp shr need ordr size) ⟨hx, hb, hml, hown, hts⟩ (c_X5_lengthByNearest l D tA a14 a15 a16 a17 a2 a3 a4 a5 a6 a7 H.size shrt grp seen ports legs lower upper leng reach meter frm too 20 (by first | assumption | omega) (by first | assumption | omega) (by first | assumption | omega) (by first | assumption | omega) (by first | assumption | omega) (by first | assumption | omega)) (cwV 4 hts gX4_pairAgrees_X5_lengthByNearest rfl rfl rfl (by decide +kernel) ⟨Nat.le_of_ble_eq_true rfl, Nat.le_of_ble_eq_true rfl⟩) hK hP hD hS hA [14, 15, 16, 17, 2, 3, 4, 5, 6, 7] [0, 1, 8, 9, 10, 11, 12, 13, 18, 19, 20, 21, 22] [0, 1, 17, 18, 19, 20, 21, 22, 2, 3, 4, 5, 6, 7, 13, 14, 15, 16, 8, 9, 10, 11, 12] rfl rfl (by decide) (by decide) (by decide) (by decide) (fun _ => rfl) (ci := 7) (q0 := 0) rfl rfl rfl rfl rfl hl.1 (Nat.le_of_ble_eq_true rfl) dX4_pairAgrees_15 ⟨Nat.le_of_ble_eq_true rfl, Nat.le_of_ble_eq_true rfl⟩ ?_
  intro z15_3 u H locs p15_4 hP hD hS
  obtain ⟨shrt_1, seen_2⟩ := u
  have hP : va_P D vwCl (bOffice tA a0 a1 a2 a3 a4 a5 a6 a7 a8 a9 a10 a11 a12 a13 a14 a15 a16 a17 a18 a19 a20 a21 a22 ports legs lower upper leng reach meter cnt strt goal money litN darkN rng nights fog fund refd brt shrt_1 grp seen_2 tp shr need ordr size) H := hP
  have hD : va_D A (bOffice tA a0 a1 a2 a3 a4 a5 a6 a7 a8 a9 a10 a11 a12 a13 a14 a15 a16 a17 a18 a19 a20 a21 a22 ports legs lower upper leng reach meter cnt strt goal money litN darkN rng nights fog fund refd brt shrt_1 grp seen_2 tp shr need ordr size) := hD
  have q_15 : distP (eg legs lower upper leng reach 20) frm too z15_3 := p15_4
  have hdi := distP_in (hch.egOk 20) vp1 (by omega) q_15
  refine lv_istore_n (lv' := [(3, .int (iI z15_3)), (0, .ref a0), (1, .int (iI frm)), (2, .int (iI too))]) hx hb dX4_pairAgrees_18 rfl hl (by decide) rfl (fun ls hl => ?_)
  refine lv_aload_n hx hb dX4_pairAgrees_19 rfl (lv_at hl 1 rfl) ?_
  refine va_get (D := D) (ci := 6) (v := .ref a14) (C := RX4) (T := TX4) (N := 3) hx hb hts iX4 hown hK hP 0 rfl rfl 1 (by decide) f_21 (fun _ h9 => h9) rfl dX4_pairAgrees_20 ?_
  refine lv_aload_n hx hb dX4_pairAgrees_23 rfl (lv_at hl 1 rfl) ?_
  refine va_get (D := D) (ci := 6) (v := .ref a1) (C := RX4) (T := TX4) (N := 3) hx hb hts iX4 hown hK hP 0 rfl rfl 0 (by decide) f_12 (fun _ h9 => h9) rfl dX4_pairAgrees_24 ?_
  refine va_get (D := D) (ci := 11) (v := .ref a2) (C := RX9) (T := TX9) (N := 8) hx hb hts iX9 hown hK hP 1 rfl rfl 0 (by decide) f_32 (fun _ h9 => h9) rfl dX4_pairAgrees_27 ?_
  refine lv_iload_n hx hb dX4_pairAgrees_30 rfl (lv_at hl 2 rfl) ?_
  refine lv_iload_n hx hb dX4_pairAgrees_31 rfl (lv_at hl 3 rfl) ?_
  refine zz_callVi (As := [.ref a2, .int (iI frm), .int (iI too)]) (rest := []) (wf := fun u => bOffice tA a0 a1 a2 a3 a4 a5 a6 a7 a8 a9 a10 a11 a12 a13 a14 a15 a16 a17 a18 a19 a20 a21 a22 ports legs lower upper leng reach meter cnt strt goal money litN darkN rng nights fog fund refd brt u.1 grp u.2 tp shr need ordr size) ⟨hx, hb, hml, hown, hts⟩ (c_X5_lengthByRounds l D tA a14 a15 a16 a17 a2 a3 a4 a5 a6 a7 H.size shrt_1 grp seen_2 ports legs lower upper leng reach meter Dv frm too (by first | assumption | omega) (by first | assumption | omega) (by first | assumption | omega) (by first | assumption | omega) (by first | assumption | omega) (by first | assumption | omega)) (cwV 3 hts gX4_pairAgrees_X5_lengthByRounds rfl rfl rfl (by decide +kernel) ⟨Nat.le_of_ble_eq_true rfl, Nat.le_of_ble_eq_true rfl⟩) hK hP hD hS hA [14, 15, 16, 17, 2, 3, 4, 5, 6, 7] [0, 1, 8, 9, 10, 11, 12, 13, 18, 19, 20, 21, 22] [0, 1, 17, 18, 19, 20, 21, 22, 2, 3, 4, 5, 6, 7, 13, 14, 15, 16, 8, 9, 10, 11, 12] rfl rfl (by decide) (by decide) (by decide) (by decide) (fun _ => rfl) (ci := 7) (q0 := 0) rfl rfl rfl rfl rfl hl.1 (Nat.le_of_ble_eq_true rfl) dX4_pairAgrees_32 ⟨Nat.le_of_ble_eq_true rfl, Nat.le_of_ble_eq_true rfl⟩ ?_
  intro z32_7 u H locs p32_8 hP hD hS
  obtain ⟨shrt_5, seen_6⟩ := u
  have hP : va_P D vwCl (bOffice tA a0 a1 a2 a3 a4 a5 a6 a7 a8 a9 a10 a11 a12 a13 a14 a15 a16 a17 a18 a19 a20 a21 a22 ports legs lower upper leng reach meter cnt strt goal money litN darkN rng nights fog fund refd brt shrt_5 grp seen_6 tp shr need ordr size) H := hP
  have hD : va_D A (bOffice tA a0 a1 a2 a3 a4 a5 a6 a7 a8 a9 a10 a11 a12 a13 a14 a15 a16 a17 a18 a19 a20 a21 a22 ports legs lower upper leng reach meter cnt strt goal money litN darkN rng nights fog fund refd brt shrt_5 grp seen_6 tp shr need ordr size) := hD
  have q_32 : distP (eg legs lower upper leng reach 20) frm too z32_7 := p32_8
  have hdd := distP_uniq q_15 q_32
  refine lv_istore (lv' := [(4, .int (iI z32_7)), (3, .int (iI z15_3)), (0, .ref a0), (1, .int (iI frm)), (2, .int (iI too))]) hx hb dX4_pairAgrees_35 hl (by decide) rfl (fun ls hl => ?_)
  refine lv_aload_n hx hb dX4_pairAgrees_37 rfl (lv_at hl 2 rfl) ?_
  refine va_get (D := D) (ci := 6) (v := .ref a14) (C := RX4) (T := TX4) (N := 3) hx hb hts iX4 hown hK hP 0 rfl rfl 1 (by decide) f_21 (fun _ h9 => h9) rfl dX4_pairAgrees_38 ?_
  refine lv_aload_n hx hb dX4_pairAgrees_41 rfl (lv_at hl 2 rfl) ?_
  refine va_get (D := D) (ci := 6) (v := .ref a1) (C := RX4) (T := TX4) (N := 3) hx hb hts iX4 hown hK hP 0 rfl rfl 0 (by decide) f_12 (fun _ h9 => h9) rfl dX4_pairAgrees_42 ?_
  refine va_get (D := D) (ci := 11) (v := .ref a2) (C := RX9) (T := TX9) (N := 8) hx hb hts iX9 hown hK hP 1 rfl rfl 0 (by decide) f_32 (fun _ h9 => h9) rfl dX4_pairAgrees_45 ?_
  refine lv_iload_n hx hb dX4_pairAgrees_48 rfl (lv_at hl 3 rfl) ?_
  refine lv_iload_n hx hb dX4_pairAgrees_49 rfl (lv_at hl 4 rfl) ?_
  refine zz_callVi (As := [.ref a2, .int (iI frm), .int (iI too)]) (rest := []) (wf := fun u => bOffice tA a0 a1 a2 a3 a4 a5 a6 a7 a8 a9 a10 a11 a12 a13 a14 a15 a16 a17 a18 a19 a20 a21 a22 ports legs lower upper leng reach meter cnt strt goal money litN darkN rng nights fog fund refd brt shrt_5 u seen_6 tp shr need ordr size) ⟨hx, hb, hml, hown, hts⟩ (c_X5_needByJoining l D tA a14 a15 a16 a17 a2 a3 a4 a5 a6 a7 H.size shrt_5 grp seen_6 ports legs lower upper leng reach meter frm too (by first | assumption | omega) (by first | assumption | omega) (by first | assumption | omega) (by first | assumption | omega) (by first | assumption | omega) (by first | assumption | omega)) (cwV 3 hts gX4_pairAgrees_X5_needByJoining rfl rfl rfl (by decide +kernel) ⟨Nat.le_of_ble_eq_true rfl, Nat.le_of_ble_eq_true rfl⟩) hK hP hD hS hA [14, 15, 16, 17, 2, 3, 4, 5, 6, 7] [0, 1, 8, 9, 10, 11, 12, 13, 18, 19, 20, 21, 22] [0, 1, 17, 18, 19, 20, 21, 22, 2, 3, 4, 5, 6, 7, 13, 14, 15, 16, 8, 9, 10, 11, 12] rfl rfl (by decide) (by decide) (by decide) (by decide) (fun _ => rfl) (ci := 7) (q0 := 0) rfl rfl rfl rfl rfl hl.1 (Nat.le_of_ble_eq_true rfl) dX4_pairAgrees_50 ⟨Nat.le_of_ble_eq_true rfl, Nat.le_of_ble_eq_true rfl⟩ ?_
  intro z50_10 u H locs p50_11 hP hD hS
  obtain ⟨grp_9, rfl⟩ : ∃ q, q = u := ⟨_, rfl⟩
  have hP : va_P D vwCl (bOffice tA a0 a1 a2 a3 a4 a5 a6 a7 a8 a9 a10 a11 a12 a13 a14 a15 a16 a17 a18 a19 a20 a21 a22 ports legs lower upper leng reach meter cnt strt goal money litN darkN rng nights fog fund refd brt shrt_5 grp_9 seen_6 tp shr need ordr size) H := hP
  have hD : va_D A (bOffice tA a0 a1 a2 a3 a4 a5 a6 a7 a8 a9 a10 a11 a12 a13 a14 a15 a16 a17 a18 a19 a20 a21 a22 ports legs lower upper leng reach meter cnt strt goal money litN darkN rng nights fog fund refd brt shrt_5 grp_9 seen_6 tp shr need ordr size) := hD
  have qn_50 : needP (eg legs lower upper leng reach) frm too z50_10 := p50_11
  have hni := needP_in qn_50
  refine lv_istore (lv' := [(5, .int (iI z50_10)), (4, .int (iI z32_7)), (3, .int (iI z15_3)), (0, .ref a0), (1, .int (iI frm)), (2, .int (iI too))]) hx hb dX4_pairAgrees_53 hl (by decide) rfl (fun ls hl => ?_)
  refine lv_aload_n hx hb dX4_pairAgrees_55 rfl (lv_at hl 3 rfl) ?_
  refine va_get (D := D) (ci := 6) (v := .ref a14) (C := RX4) (T := TX4) (N := 3) hx hb hts iX4 hown hK hP 0 rfl rfl 1 (by decide) f_21 (fun _ h9 => h9) rfl dX4_pairAgrees_56 ?_
  refine lv_aload_n hx hb dX4_pairAgrees_59 rfl (lv_at hl 3 rfl) ?_
  refine va_get (D := D) (ci := 6) (v := .ref a1) (C := RX4) (T := TX4) (N := 3) hx hb hts iX4 hown hK hP 0 rfl rfl 0 (by decide) f_12 (fun _ h9 => h9) rfl dX4_pairAgrees_60 ?_
  refine va_get (D := D) (ci := 11) (v := .ref a2) (C := RX9) (T := TX9) (N := 8) hx hb hts iX9 hown hK hP 1 rfl rfl 0 (by decide) f_32 (fun _ h9 => h9) rfl dX4_pairAgrees_63 ?_
  refine lv_iload_n hx hb dX4_pairAgrees_66 rfl (lv_at hl 4 rfl) ?_
  refine lv_iload_n hx hb dX4_pairAgrees_67 rfl (lv_at hl 5 rfl) ?_
  refine zz_callVi (As := [.ref a2, .int (iI frm), .int (iI too)]) (rest := []) (wf := fun u => bOffice tA a0 a1 a2 a3 a4 a5 a6 a7 a8 a9 a10 a11 a12 a13 a14 a15 a16 a17 a18 a19 a20 a21 a22 ports legs lower upper leng reach meter cnt strt goal money litN darkN rng nights fog fund refd brt shrt_5 grp_9 u tp shr need ordr size) ⟨hx, hb, hml, hown, hts⟩ (c_X5_needByTrial l D tA a14 a15 a16 a17 a2 a3 a4 a5 a6 a7 H.size shrt_5 grp_9 seen_6 ports legs lower upper leng reach meter frm too (by first | assumption | omega) (by first | assumption | omega) (by first | assumption | omega) (by first | assumption | omega) (by first | assumption | omega) (by first | assumption | omega)) (cwV 3 hts gX4_pairAgrees_X5_needByTrial rfl rfl rfl (by decide +kernel) ⟨Nat.le_of_ble_eq_true rfl, Nat.le_of_ble_eq_true rfl⟩) hK hP hD hS hA [14, 15, 16, 17, 2, 3, 4, 5, 6, 7] [0, 1, 8, 9, 10, 11, 12, 13, 18, 19, 20, 21, 22] [0, 1, 17, 18, 19, 20, 21, 22, 2, 3, 4, 5, 6, 7, 13, 14, 15, 16, 8, 9, 10, 11, 12] rfl rfl (by decide) (by decide) (by decide) (by decide) (fun _ => rfl) (ci := 7) (q0 := 0) rfl rfl rfl rfl rfl hl.1 (Nat.le_of_ble_eq_true rfl) dX4_pairAgrees_68 ⟨Nat.le_of_ble_eq_true rfl, Nat.le_of_ble_eq_true rfl⟩ ?_
  intro z68_13 u H locs p68_14 hP hD hS
  obtain ⟨seen_12, rfl⟩ : ∃ q, q = u := ⟨_, rfl⟩
  have hP : va_P D vwCl (bOffice tA a0 a1 a2 a3 a4 a5 a6 a7 a8 a9 a10 a11 a12 a13 a14 a15 a16 a17 a18 a19 a20 a21 a22 ports legs lower upper leng reach meter cnt strt goal money litN darkN rng nights fog fund refd brt shrt_5 grp_9 seen_12 tp shr need ordr size) H := hP
  have hD : va_D A (bOffice tA a0 a1 a2 a3 a4 a5 a6 a7 a8 a9 a10 a11 a12 a13 a14 a15 a16 a17 a18 a19 a20 a21 a22 ports legs lower upper leng reach meter cnt strt goal money litN darkN rng nights fog fund refd brt shrt_5 grp_9 seen_12 tp shr need ordr size) := hD
  have qn_68 : needP (eg legs lower upper leng reach) frm too z68_13 := p68_14
  have hnn := needP_uniq qn_50 qn_68
  refine lv_istore (lv' := [(6, .int (iI z68_13)), (5, .int (iI z50_10)), (4, .int (iI z32_7)), (3, .int (iI z15_3)), (0, .ref a0), (1, .int (iI frm)), (2, .int (iI too))]) hx hb dX4_pairAgrees_71 hl (by decide) rfl (fun ls hl => ?_)
  refine lv_iload_n hx hb dX4_pairAgrees_73 rfl (lv_at hl 3 rfl) ?_
  refine lv_iload hx hb dX4_pairAgrees_74 (lv_at hl 2 rfl) ?_
  refine zz_icmp_ne (tgt := 90) hx hb dX4_pairAgrees_76 (by decide) (by omega) (by omega) (fun c_76 => ?_) (fun c_76 => ?_)
  · exact absurd c_76 (by omega)
  · refine lv_iload hx hb dX4_pairAgrees_79 (lv_at hl 1 rfl) ?_
    refine lv_iload hx hb dX4_pairAgrees_81 (lv_at hl 0 rfl) ?_
    refine zz_icmp_ne (tgt := 90) hx hb dX4_pairAgrees_83 (by decide) (by omega) (by omega) (fun c_83 => ?_) (fun c_83 => ?_)
    · exact absurd c_83 (by omega)
    · refine zz_iconst hx hb dX4_pairAgrees_86 ?_
      refine lv_goto (tgt := 91) hx hb dX4_pairAgrees_87 (by decide) ?_
      exact hret 1 (shrt_5, grp_9, seen_12) _ _ _ _ dX4_pairAgrees_91 (show (1 : Int) = 1 from by omega) hP hD hS

set_option maxHeartbeats 4000000 in
set_option maxRecDepth 100000 in
theorem c_X4_routesAgree (l : Launch) (D : va_G) (tA : Nat → ClassId) (a0 a1 a2 a3 a4 a5 a6 a7 a8 a9 a10 a11 a12 a13 a14 a15 a16 a17 a18 a19 a20 a21 a22 : Nat) (sz : Nat) (ports : Int) (legs : Int) (lower : Int → Int) (upper : Int → Int) (leng : Int → Int) (reach : Int → Int) (meter : Int → Int) (cnt : Int) (strt : Int → Int) (goal : Int → Int) (money : Int → Int) (litN : Int → Int) (darkN : Int → Int) (rng : Int) (nights : Int) (fog : Int) (fund : Int) (refd : Int) (brt : Int) (shrt : Int → Int) (grp : Int → Int) (seen : Int → Int) (tp : Int → Int) (shr : Int → Int) (need : Int → Int) (ordr : Int → Int) (size : Int) (hch : ChV ports legs lower upper leng reach) (hu : ChU legs lower upper) : zMi l yX4_routesAgree wsX4_routesAgree ({ frames := 4, cells := 0, slots := 0, locals := 100 }) D tA [.ref a0] (bOffice tA a0 a1 a2 a3 a4 a5 a6 a7 a8 a9 a10 a11 a12 a13 a14 a15 a16 a17 a18 a19 a20 a21 a22 ports legs lower upper leng reach meter cnt strt goal money litN darkN rng nights fog fund refd brt shrt grp seen tp shr need ordr size) sz (fun (z : Int) (u : (Int → Int) × (Int → Int) × (Int → Int)) => (z = 1)) (fun (u : (Int → Int) × (Int → Int) × (Int → Int)) => bOffice tA a0 a1 a2 a3 a4 a5 a6 a7 a8 a9 a10 a11 a12 a13 a14 a15 a16 a17 a18 a19 a20 a21 a22 ports legs lower upper leng reach meter cnt strt goal money litN darkN rng nights fog fund refd brt u.1 u.2.1 u.2.2 tp shr need ordr size) 0 0 := by
  refine zMi_of (cc := cX4_routesAgree) (maxL := 3) (by decide) rfl (fun z u h => zbool z (by omega)) (Nat.le_of_ble_eq_true rfl) ?_
  intro p e s m args below meth c A Q ls hx hb hml hts hown hK hP hD hA hret hl
  obtain ⟨H, hHe⟩ : ∃ H : Heap, H = s.heap := ⟨_, rfl⟩
  have hS : va_S A s.heap H [] := by rw [hHe]; exact va_S.rf
  rw [← hHe] at hP ⊢
  have hl : lv_has ls 3 [(0, .ref a0)] := hl
  have iX1 : ∀ v ∈ wsX10, v ∈ wsX4_routesAgree := by decide +kernel
  have iX4 : ∀ v ∈ wsX40, v ∈ wsX4_routesAgree := by decide +kernel
  have iX9 : ∀ v ∈ wsX90, v ∈ wsX4_routesAgree := by decide +kernel
  have f_12 := hts (.fieldLink RX4 12 "HarborLights$Office" "now" "LHarborLights$State;") (by decide +kernel)
  have f_32 := hts (.fieldLink RX4 32 "HarborLights$State" "chart" "LHarborLights$Chart;") (by decide +kernel)
  have f_36 := hts (.fieldLink RX4 36 "HarborLights$Chart" "ports" "I") (by decide +kernel)
  obtain ⟨vp0, vp1, vl0, vl1, -, -⟩ := id hch
  refine zz_iconst hx hb dX4_routesAgree_0 ?_
  refine lv_istore_n (lv' := [(1, .int (iI 0)), (0, .ref a0)]) hx hb dX4_routesAgree_1 rfl hl (by decide) rfl (fun ls hl => ?_)
  have L2 : ∀ (n : Nat) (i : Int) (s8 : Int → Int) (g8 : Int → Int) (n8 : Int → Int) (H : Heap) (locs : List Loc) (ls : Array Slot), (0 ≤ i ∧ i ≤ ports) → (ports - i).toNat < n → va_P D vwCl (bOffice tA a0 a1 a2 a3 a4 a5 a6 a7 a8 a9 a10 a11 a12 a13 a14 a15 a16 a17 a18 a19 a20 a21 a22 ports legs lower upper leng reach meter cnt strt goal money litN darkN rng nights fog fund refd brt s8 g8 n8 tp shr need ordr size) H → va_D A (bOffice tA a0 a1 a2 a3 a4 a5 a6 a7 a8 a9 a10 a11 a12 a13 a14 a15 a16 a17 a18 a19 a20 a21 a22 ports legs lower upper leng reach meter cnt strt goal money litN darkN rng nights fog fund refd brt s8 g8 n8 tp shr need ordr size) → va_S A s.heap H locs → lv_has ls 3 [(1, .int (iI i)), (0, .ref a0)] → W p l e (headSpec wsX4_routesAgree ({ frames := 4, cells := 0, slots := 0, locals := 100 })).room s m args below meth c H locs 0 0 Q (F0 m 2 ls []) := by
    intro n
    induction n with
    | zero => intro i s8 g8 n8 H locs ls i0 hmz; exact absurd hmz (Nat.not_lt_zero _)
    | succ n ih2 =>
      intro i s8 g8 n8 H locs ls i0 hmz hP hD hS hl
      refine lv_iload_n hx hb dX4_routesAgree_2 rfl (lv_at hl 0 rfl) ?_
      refine lv_aload_n hx hb dX4_routesAgree_3 rfl (lv_at hl 1 rfl) ?_
      refine va_get (D := D) (ci := 6) (v := .ref a1) (C := RX4) (T := TX4) (N := 3) hx hb hts iX4 hown hK hP 0 rfl rfl 0 (by decide) f_12 (fun _ h9 => h9) rfl dX4_routesAgree_4 ?_
      refine va_get (D := D) (ci := 11) (v := .ref a2) (C := RX9) (T := TX9) (N := 8) hx hb hts iX9 hown hK hP 1 rfl rfl 0 (by decide) f_32 (fun _ h9 => h9) rfl dX4_routesAgree_7 ?_
      refine va_get (D := D) (ci := 4) (v := .int (iI ports)) (C := RX1) (T := TX1) (N := 7) hx hb hts iX1 hown hK hP 2 rfl rfl 0 (by decide) f_36 (fun _ h9 => h9) rfl dX4_routesAgree_10 ?_
      refine zz_icmp_ge (tgt := 60) hx hb dX4_routesAgree_13 (by decide) (by omega) (by omega) (fun c_13 => ?_) (fun c_13 => ?_)
      · refine zz_iconst hx hb dX4_routesAgree_60 ?_
        exact hret 1 (s8, g8, n8) _ _ _ _ dX4_routesAgree_61 (show (1 : Int) = 1 from by omega) hP hD hS
      · refine zz_iconst hx hb dX4_routesAgree_16 ?_
        refine lv_istore_n (lv' := [(2, .int (iI 0)), (1, .int (iI i)), (0, .ref a0)]) hx hb dX4_routesAgree_17 rfl hl (by decide) rfl (fun ls hl => ?_)
        have L18 : ∀ (n : Nat) (j : Int) (s9 : Int → Int) (g9 : Int → Int) (n9 : Int → Int) (H : Heap) (locs : List Loc) (ls : Array Slot), (0 ≤ j ∧ j ≤ ports) → (ports - j).toNat < n → va_P D vwCl (bOffice tA a0 a1 a2 a3 a4 a5 a6 a7 a8 a9 a10 a11 a12 a13 a14 a15 a16 a17 a18 a19 a20 a21 a22 ports legs lower upper leng reach meter cnt strt goal money litN darkN rng nights fog fund refd brt s9 g9 n9 tp shr need ordr size) H → va_D A (bOffice tA a0 a1 a2 a3 a4 a5 a6 a7 a8 a9 a10 a11 a12 a13 a14 a15 a16 a17 a18 a19 a20 a21 a22 ports legs lower upper leng reach meter cnt strt goal money litN darkN rng nights fog fund refd brt s9 g9 n9 tp shr need ordr size) → va_S A s.heap H locs → lv_has ls 3 [(2, .int (iI j)), (1, .int (iI i)), (0, .ref a0)] → W p l e (headSpec wsX4_routesAgree ({ frames := 4, cells := 0, slots := 0, locals := 100 })).room s m args below meth c H locs 0 0 Q (F0 m 18 ls []) := by
          intro n
          induction n with
          | zero => intro j s9 g9 n9 H locs ls j0 hmz; exact absurd hmz (Nat.not_lt_zero _)
          | succ n ih18 =>
            intro j s9 g9 n9 H locs ls j0 hmz hP hD hS hl
            refine lv_iload_n hx hb dX4_routesAgree_18 rfl (lv_at hl 0 rfl) ?_
            refine lv_aload_n hx hb dX4_routesAgree_19 rfl (lv_at hl 2 rfl) ?_
            refine va_get (D := D) (ci := 6) (v := .ref a1) (C := RX4) (T := TX4) (N := 3) hx hb hts iX4 hown hK hP 0 rfl rfl 0 (by decide) f_12 (fun _ h9 => h9) rfl dX4_routesAgree_20 ?_
            refine va_get (D := D) (ci := 11) (v := .ref a2) (C := RX9) (T := TX9) (N := 8) hx hb hts iX9 hown hK hP 1 rfl rfl 0 (by decide) f_32 (fun _ h9 => h9) rfl dX4_routesAgree_23 ?_
            refine va_get (D := D) (ci := 4) (v := .int (iI ports)) (C := RX1) (T := TX1) (N := 7) hx hb hts iX1 hown hK hP 2 rfl rfl 0 (by decide) f_36 (fun _ h9 => h9) rfl dX4_routesAgree_26 ?_
            refine zz_icmp_ge (tgt := 54) hx hb dX4_routesAgree_29 (by decide) (by omega) (by omega) (fun c_29 => ?_) (fun c_29 => ?_)
            · refine zz_iinc (lv' := [(1, .int (iI (i + 1))), (2, .int (iI j)), (0, .ref a0)]) hx hb dX4_routesAgree_54 hl (k := 1) rfl (by decide) rfl (fun ls hl => ?_)
              refine lv_goto (tgt := 2) hx hb dX4_routesAgree_57 (by decide) ?_
              exact ih2 (i + 1) s9 g9 n9 _ _ _ (by omega) (by omega) hP hD hS (lv_sub hl [0, 2] rfl)
            · refine lv_iload_n hx hb dX4_routesAgree_32 rfl (lv_at hl 1 rfl) ?_
              refine lv_iload_n hx hb dX4_routesAgree_33 rfl (lv_at hl 0 rfl) ?_
              refine zz_icmp_eq (tgt := 48) hx hb dX4_routesAgree_34 (by decide) (by omega) (by omega) (fun c_34 => ?_) (fun c_34 => ?_)
              · refine zz_iinc (lv' := [(2, .int (iI (j + 1))), (1, .int (iI i)), (0, .ref a0)]) hx hb dX4_routesAgree_48 hl (k := 0) rfl (by decide) rfl (fun ls hl => ?_)
                refine lv_goto (tgt := 18) hx hb dX4_routesAgree_51 (by decide) ?_
                exact ih18 (j + 1) s9 g9 n9 _ _ _ (by omega) (by omega) hP hD hS (lv_sub hl [0, 1, 2] rfl)
              · refine lv_aload_n hx hb dX4_routesAgree_37 rfl (lv_at hl 2 rfl) ?_
                refine lv_iload_n hx hb dX4_routesAgree_38 rfl (lv_at hl 1 rfl) ?_
                refine lv_iload_n hx hb dX4_routesAgree_39 rfl (lv_at hl 0 rfl) ?_
                refine zz_callVi (As := [.int (iI i), .int (iI j)]) (rest := []) (wf := fun u => bOffice tA a0 a1 a2 a3 a4 a5 a6 a7 a8 a9 a10 a11 a12 a13 a14 a15 a16 a17 a18 a19 a20 a21 a22 ports legs lower upper leng reach meter cnt strt goal money litN darkN rng nights fog fund refd brt u.1 u.2.1 u.2.2 tp shr need ordr size) ⟨hx, hb, hml, hown, hts⟩ (c_X4_pairAgrees l D tA a0 a1 a2 a3 a4 a5 a6 a7 a8 a9 a10 a11 a12 a13 a14 a15 a16 a17 a18 a19 a20 a21 a22 H.size ports legs lower upper leng reach meter cnt strt goal money litN darkN rng nights fog fund refd brt s9 g9 n9 tp shr need ordr size i j (by first | assumption | omega) (by first | assumption | omega) (by first | assumption | omega) (by first | assumption | omega) (by first | assumption | omega) (by first | assumption | omega) (by first | assumption | omega)) (cwV 2 hts gX4_routesAgree_X4_pairAgrees rfl rfl rfl (by decide +kernel) ⟨Nat.le_of_ble_eq_true rfl, Nat.le_of_ble_eq_true rfl⟩) hK hP hD hS hA [0, 1, 2, 3, 4, 5, 6, 7, 8, 9, 10, 11, 12, 13, 14, 15, 16, 17, 18, 19, 20, 21, 22] [] [0, 1, 2, 3, 4, 5, 6, 7, 8, 9, 10, 11, 12, 13, 14, 15, 16, 17, 18, 19, 20, 21, 22] rfl rfl (by decide) (by decide) (by decide) (by decide) (fun _ => rfl) (ci := 6) (q0 := 0) rfl rfl rfl rfl rfl hl.1 (Nat.le_of_ble_eq_true rfl) dX4_routesAgree_40 ⟨Nat.le_of_ble_eq_true rfl, Nat.le_of_ble_eq_true rfl⟩ ?_
                intro z40_4 u H locs p40_5 hP hD hS
                obtain ⟨shrt_1, grp_2, seen_3⟩ := u
                have hP : va_P D vwCl (bOffice tA a0 a1 a2 a3 a4 a5 a6 a7 a8 a9 a10 a11 a12 a13 a14 a15 a16 a17 a18 a19 a20 a21 a22 ports legs lower upper leng reach meter cnt strt goal money litN darkN rng nights fog fund refd brt shrt_1 grp_2 seen_3 tp shr need ordr size) H := hP
                have hD : va_D A (bOffice tA a0 a1 a2 a3 a4 a5 a6 a7 a8 a9 a10 a11 a12 a13 a14 a15 a16 a17 a18 a19 a20 a21 a22 ports legs lower upper leng reach meter cnt strt goal money litN darkN rng nights fog fund refd brt shrt_1 grp_2 seen_3 tp shr need ordr size) := hD
                have q_40 : z40_4 = 1 := p40_5
                refine zz_if_ne (tgt := 48) hx hb dX4_routesAgree_43 (by decide) (by omega) (fun c_43 => ?_) (fun c_43 => ?_)
                · refine zz_iinc (lv' := [(2, .int (iI (j + 1))), (1, .int (iI i)), (0, .ref a0)]) hx hb dX4_routesAgree_48 hl (k := 0) rfl (by decide) rfl (fun ls hl => ?_)
                  refine lv_goto (tgt := 18) hx hb dX4_routesAgree_51 (by decide) ?_
                  exact ih18 (j + 1) shrt_1 grp_2 seen_3 _ _ _ (by omega) (by omega) hP hD hS (lv_sub hl [0, 1, 2] rfl)
                · exact absurd c_43 (by omega)
        exact L18 _ 0 s8 g8 n8 _ _ _ (by omega) (Nat.lt_succ_self _) hP hD hS (lv_sub hl [0, 1, 2] rfl)
  exact L2 _ 0 shrt grp seen _ _ _ (by omega) (Nat.lt_succ_self _) hP hD hS (lv_sub hl [0, 1] rfl)

set_option maxHeartbeats 4000000 in
set_option maxRecDepth 100000 in
theorem c_X4_sharesAgree (l : Launch) (D : va_G) (tA : Nat → ClassId) (a0 a1 a2 a3 a4 a5 a6 a7 a8 a9 a10 a11 a12 a13 a14 a15 a16 a17 a18 a19 a20 a21 a22 : Nat) (sz : Nat) (ports : Int) (legs : Int) (lower : Int → Int) (upper : Int → Int) (leng : Int → Int) (reach : Int → Int) (meter : Int → Int) (cnt : Int) (strt : Int → Int) (goal : Int → Int) (money : Int → Int) (litN : Int → Int) (darkN : Int → Int) (rng : Int) (nights : Int) (fog : Int) (fund : Int) (refd : Int) (brt : Int) (shrt : Int → Int) (grp : Int → Int) (seen : Int → Int) (tp : Int → Int) (shr : Int → Int) (need : Int → Int) (ordr : Int → Int) (size : Int) (hch : ChV ports legs lower upper leng reach) (hc : 0 ≤ cnt ∧ cnt ≤ 6) (hsp : ∀ j, 0 ≤ j → j < cnt → (0 ≤ strt j ∧ strt j < ports ∧ 0 ≤ goal j ∧ goal j < ports ∧ strt j ≠ goal j)) : zMi l yX4_sharesAgree wsX4_sharesAgree ({ frames := 3, cells := 0, slots := 0, locals := 71 }) D tA [.ref a0] (bOffice tA a0 a1 a2 a3 a4 a5 a6 a7 a8 a9 a10 a11 a12 a13 a14 a15 a16 a17 a18 a19 a20 a21 a22 ports legs lower upper leng reach meter cnt strt goal money litN darkN rng nights fog fund refd brt shrt grp seen tp shr need ordr size) sz (fun (z : Int) (u : (Int → Int) × (Int → Int) × (Int → Int) × (Int → Int) × (Int → Int) × (Int)) => (z = 1)) (fun (u : (Int → Int) × (Int → Int) × (Int → Int) × (Int → Int) × (Int → Int) × (Int)) => bOffice tA a0 a1 a2 a3 a4 a5 a6 a7 a8 a9 a10 a11 a12 a13 a14 a15 a16 a17 a18 a19 a20 a21 a22 ports legs lower upper leng reach meter cnt strt goal money litN darkN rng nights fog fund refd brt shrt u.2.2.2.1 seen u.1 u.2.2.1 u.2.1 u.2.2.2.2.1 u.2.2.2.2.2) 0 0 := by
  refine zMi_of (cc := cX4_sharesAgree) (maxL := 2) (by decide) rfl (fun z u h => zbool z (by omega)) (Nat.le_of_ble_eq_true rfl) ?_
  intro p e s m args below meth c A Q ls hx hb hml hts hown hK hP hD hA hret hl
  obtain ⟨H, hHe⟩ : ∃ H : Heap, H = s.heap := ⟨_, rfl⟩
  have hS : va_S A s.heap H [] := by rw [hHe]; exact va_S.rf
  rw [← hHe] at hP ⊢
  have hl : lv_has ls 2 [(0, .ref a0)] := hl
  have iX4 : ∀ v ∈ wsX40, v ∈ wsX4_sharesAgree := by decide +kernel
  have iX7 : ∀ v ∈ wsX70, v ∈ wsX4_sharesAgree := by decide +kernel
  have iX8 : ∀ v ∈ wsX80, v ∈ wsX4_sharesAgree := by decide +kernel
  have iX9 : ∀ v ∈ wsX90, v ∈ wsX4_sharesAgree := by decide +kernel
  have f_12 := hts (.fieldLink RX4 12 "HarborLights$Office" "now" "LHarborLights$State;") (by decide +kernel)
  have f_28 := hts (.fieldLink RX4 28 "HarborLights$Office" "shares" "LHarborLights$Shares;") (by decide +kernel)
  have f_65 := hts (.fieldLink RX4 65 "HarborLights$State" "ships" "LHarborLights$Ships;") (by decide +kernel)
  have f_69 := hts (.fieldLink RX4 69 "HarborLights$Ships" "count" "I") (by decide +kernel)
  have f_111 := hts (.fieldLink RX4 111 "HarborLights$Shares" "share" "[I") (by decide +kernel)
  obtain ⟨vp0, vp1, vl0, vl1, -, -⟩ := id hch
  refine lv_aload_n hx hb dX4_sharesAgree_0 rfl (lv_at hl 0 rfl) ?_
  refine zz_callVv (As := []) (rest := []) (wf := fun u => bOffice tA a0 a1 a2 a3 a4 a5 a6 a7 a8 a9 a10 a11 a12 a13 a14 a15 a16 a17 a18 a19 a20 a21 a22 ports legs lower upper leng reach meter cnt strt goal money litN darkN rng nights fog fund refd brt shrt u.2.2 seen u.1 shr u.2.1 ordr size) ⟨hx, hb, hml, hown, hts⟩ (c_X4_gatherAll l D tA a0 a1 a2 a3 a4 a5 a6 a7 a8 a9 a10 a11 a12 a13 a14 a15 a16 a17 a18 a19 a20 a21 a22 H.size ports legs lower upper leng reach meter cnt strt goal money litN darkN rng nights fog fund refd brt shrt grp seen tp shr need ordr size (by first | assumption | omega) (by first | assumption | omega) (by first | assumption | omega)) (cwV 0 hts gX4_sharesAgree_X4_gatherAll rfl rfl rfl (by decide +kernel) ⟨Nat.le_of_ble_eq_true rfl, Nat.le_of_ble_eq_true rfl⟩) hK hP hD hS hA [0, 1, 2, 3, 4, 5, 6, 7, 8, 9, 10, 11, 12, 13, 14, 15, 16, 17, 18, 19, 20, 21, 22] [] [0, 1, 2, 3, 4, 5, 6, 7, 8, 9, 10, 11, 12, 13, 14, 15, 16, 17, 18, 19, 20, 21, 22] rfl rfl (by decide) (by decide) (by decide) (by decide) (fun _ => rfl) (ci := 6) (q0 := 0) rfl rfl rfl rfl rfl hl.1 (Nat.le_of_ble_eq_true rfl) dX4_sharesAgree_1 ⟨Nat.le_of_ble_eq_true rfl, Nat.le_of_ble_eq_true rfl⟩ ?_
  intro u H locs p1_4 hP hD hS
  obtain ⟨tp_1, need_2, grp_3⟩ := u
  have hP : va_P D vwCl (bOffice tA a0 a1 a2 a3 a4 a5 a6 a7 a8 a9 a10 a11 a12 a13 a14 a15 a16 a17 a18 a19 a20 a21 a22 ports legs lower upper leng reach meter cnt strt goal money litN darkN rng nights fog fund refd brt shrt grp_3 seen tp_1 shr need_2 ordr size) H := hP
  have hD : va_D A (bOffice tA a0 a1 a2 a3 a4 a5 a6 a7 a8 a9 a10 a11 a12 a13 a14 a15 a16 a17 a18 a19 a20 a21 a22 ports legs lower upper leng reach meter cnt strt goal money litN darkN rng nights fog fund refd brt shrt grp_3 seen tp_1 shr need_2 ordr size) := hD
  have q_1 : isGat (eg legs lower upper leng reach) cnt strt goal tp_1 need_2 := p1_4
  have hgv := isGat_V q_1
  refine lv_aload_n hx hb dX4_sharesAgree_4 rfl (lv_at hl 0 rfl) ?_
  refine va_get (D := D) (ci := 6) (v := .ref a18) (C := RX4) (T := TX4) (N := 3) hx hb hts iX4 hown hK hP 0 rfl rfl 2 (by decide) f_28 (fun _ h9 => h9) rfl dX4_sharesAgree_5 ?_
  refine zz_callVv (As := []) (rest := []) (wf := fun u => bOffice tA a0 a1 a2 a3 a4 a5 a6 a7 a8 a9 a10 a11 a12 a13 a14 a15 a16 a17 a18 a19 a20 a21 a22 ports legs lower upper leng reach meter cnt strt goal money litN darkN rng nights fog fund refd brt shrt grp_3 seen tp_1 u need_2 ordr size) ⟨hx, hb, hml, hown, hts⟩ (c_X7_divide l D tA a18 a19 a20 a21 a22 H.size tp_1 shr need_2 ordr size hgv) (cwV 0 hts gX4_sharesAgree_X7_divide rfl rfl rfl (by decide +kernel) ⟨Nat.le_of_ble_eq_true rfl, Nat.le_of_ble_eq_true rfl⟩) hK hP hD hS hA [18, 19, 20, 21, 22] [0, 1, 2, 3, 4, 5, 6, 7, 8, 9, 10, 11, 12, 13, 14, 15, 16, 17] [0, 1, 2, 3, 4, 5, 6, 7, 8, 9, 10, 11, 12, 13, 14, 15, 16, 17, 18, 19, 20, 21, 22] rfl rfl (by decide) (by decide) (by decide) (by decide) (fun _ => rfl) (ci := 9) (q0 := 0) rfl rfl rfl rfl rfl hl.1 (Nat.le_of_ble_eq_true rfl) dX4_sharesAgree_8 ⟨Nat.le_of_ble_eq_true rfl, Nat.le_of_ble_eq_true rfl⟩ ?_
  intro u H locs p8_6 hP hD hS
  obtain ⟨shr_5, rfl⟩ : ∃ q, q = u := ⟨_, rfl⟩
  have hP : va_P D vwCl (bOffice tA a0 a1 a2 a3 a4 a5 a6 a7 a8 a9 a10 a11 a12 a13 a14 a15 a16 a17 a18 a19 a20 a21 a22 ports legs lower upper leng reach meter cnt strt goal money litN darkN rng nights fog fund refd brt shrt grp_3 seen tp_1 shr_5 need_2 ordr size) H := hP
  have hD : va_D A (bOffice tA a0 a1 a2 a3 a4 a5 a6 a7 a8 a9 a10 a11 a12 a13 a14 a15 a16 a17 a18 a19 a20 a21 a22 ports legs lower upper leng reach meter cnt strt goal money litN darkN rng nights fog fund refd brt shrt grp_3 seen tp_1 shr_5 need_2 ordr size) := hD
  have q_8 : isSh tp_1 need_2 shr_5 := p8_6
  refine zz_iconst hx hb dX4_sharesAgree_11 ?_
  refine lv_istore_n (lv' := [(1, .int (iI 0)), (0, .ref a0)]) hx hb dX4_sharesAgree_12 rfl hl (by decide) rfl (fun ls hl => ?_)
  have L13 : ∀ (n : Nat) (i : Int) (o9 : Int → Int) (n9 : Int) (H : Heap) (locs : List Loc) (ls : Array Slot), (0 ≤ i ∧ i ≤ cnt) → (cnt - i).toNat < n → va_P D vwCl (bOffice tA a0 a1 a2 a3 a4 a5 a6 a7 a8 a9 a10 a11 a12 a13 a14 a15 a16 a17 a18 a19 a20 a21 a22 ports legs lower upper leng reach meter cnt strt goal money litN darkN rng nights fog fund refd brt shrt grp_3 seen tp_1 shr_5 need_2 o9 n9) H → va_D A (bOffice tA a0 a1 a2 a3 a4 a5 a6 a7 a8 a9 a10 a11 a12 a13 a14 a15 a16 a17 a18 a19 a20 a21 a22 ports legs lower upper leng reach meter cnt strt goal money litN darkN rng nights fog fund refd brt shrt grp_3 seen tp_1 shr_5 need_2 o9 n9) → va_S A s.heap H locs → lv_has ls 2 [(1, .int (iI i)), (0, .ref a0)] → W p l e (headSpec wsX4_sharesAgree ({ frames := 3, cells := 0, slots := 0, locals := 71 })).room s m args below meth c H locs 0 0 Q (F0 m 13 ls []) := by
    intro n
    induction n with
    | zero => intro i o9 n9 H locs ls i0 hmz; exact absurd hmz (Nat.not_lt_zero _)
    | succ n ih13 =>
      intro i o9 n9 H locs ls i0 hmz hP hD hS hl
      refine lv_iload_n hx hb dX4_sharesAgree_13 rfl (lv_at hl 0 rfl) ?_
      refine lv_aload_n hx hb dX4_sharesAgree_14 rfl (lv_at hl 1 rfl) ?_
      refine va_get (D := D) (ci := 6) (v := .ref a1) (C := RX4) (T := TX4) (N := 3) hx hb hts iX4 hown hK hP 0 rfl rfl 0 (by decide) f_12 (fun _ h9 => h9) rfl dX4_sharesAgree_15 ?_
      refine va_get (D := D) (ci := 11) (v := .ref a8) (C := RX9) (T := TX9) (N := 8) hx hb hts iX9 hown hK hP 1 rfl rfl 1 (by decide) f_65 (fun _ h9 => h9) rfl dX4_sharesAgree_18 ?_
      refine va_get (D := D) (ci := 10) (v := .int (iI cnt)) (C := RX8) (T := TX8) (N := 6) hx hb hts iX8 hown hK hP 8 rfl rfl 0 (by decide) f_69 (fun _ h9 => h9) rfl dX4_sharesAgree_21 ?_
      refine zz_icmp_ge (tgt := 55) hx hb dX4_sharesAgree_24 (by decide) (by omega) (by omega) (fun c_24 => ?_) (fun c_24 => ?_)
      · refine zz_iconst hx hb dX4_sharesAgree_55 ?_
        exact hret 1 (tp_1, need_2, shr_5, grp_3, o9, n9) _ _ _ _ dX4_sharesAgree_56 (show (1 : Int) = 1 from by omega) hP hD hS
      · refine lv_aload_n hx hb dX4_sharesAgree_27 rfl (lv_at hl 1 rfl) ?_
        refine va_get (D := D) (ci := 6) (v := .ref a18) (C := RX4) (T := TX4) (N := 3) hx hb hts iX4 hown hK hP 0 rfl rfl 2 (by decide) f_28 (fun _ h9 => h9) rfl dX4_sharesAgree_28 ?_
        refine va_get (D := D) (ci := 9) (v := .ref a20) (C := RX7) (T := TX7) (N := 5) hx hb hts iX7 hown hK hP 18 rfl rfl 1 (by decide) f_111 (fun _ h9 => h9) rfl dX4_sharesAgree_31 ?_
        refine lv_iload_n hx hb dX4_sharesAgree_34 rfl (lv_at hl 0 rfl) ?_
        refine zz_iald hx hb hK hP 20 rfl (by decide) (by omega) dX4_sharesAgree_35 ?_
        have r_34 := isSh_rng hgv q_8 i (by omega) (by omega)
        refine lv_aload_n hx hb dX4_sharesAgree_36 rfl (lv_at hl 1 rfl) ?_
        refine va_get (D := D) (ci := 6) (v := .ref a18) (C := RX4) (T := TX4) (N := 3) hx hb hts iX4 hown hK hP 0 rfl rfl 2 (by decide) f_28 (fun _ h9 => h9) rfl dX4_sharesAgree_37 ?_
        refine lv_iload_n hx hb dX4_sharesAgree_40 rfl (lv_at hl 0 rfl) ?_
        refine zz_callVi (As := [.int (iI i)]) (rest := [.int (iI (shr_5 i))]) (wf := fun u => bOffice tA a0 a1 a2 a3 a4 a5 a6 a7 a8 a9 a10 a11 a12 a13 a14 a15 a16 a17 a18 a19 a20 a21 a22 ports legs lower upper leng reach meter cnt strt goal money litN darkN rng nights fog fund refd brt shrt grp_3 seen tp_1 shr_5 need_2 u.1 u.2) ⟨hx, hb, hml, hown, hts⟩ (c_X7_meanOverOrders l D tA a18 a19 a20 a21 a22 H.size tp_1 shr_5 need_2 o9 n9 i (by first | assumption | omega) hgv (by first | assumption | omega)) (cwV 1 hts gX4_sharesAgree_X7_meanOverOrders rfl rfl rfl (by decide +kernel) ⟨Nat.le_of_ble_eq_true rfl, Nat.le_of_ble_eq_true rfl⟩) hK hP hD hS hA [18, 19, 20, 21, 22] [0, 1, 2, 3, 4, 5, 6, 7, 8, 9, 10, 11, 12, 13, 14, 15, 16, 17] [0, 1, 2, 3, 4, 5, 6, 7, 8, 9, 10, 11, 12, 13, 14, 15, 16, 17, 18, 19, 20, 21, 22] rfl rfl (by decide) (by decide) (by decide) (by decide) (fun _ => rfl) (ci := 9) (q0 := 0) rfl rfl rfl rfl rfl hl.1 (Nat.le_of_ble_eq_true rfl) dX4_sharesAgree_41 ⟨Nat.le_of_ble_eq_true rfl, Nat.le_of_ble_eq_true rfl⟩ ?_
        intro z41_9 u H locs p41_10 hP hD hS
        obtain ⟨ordr_7, size_8⟩ := u
        have hP : va_P D vwCl (bOffice tA a0 a1 a2 a3 a4 a5 a6 a7 a8 a9 a10 a11 a12 a13 a14 a15 a16 a17 a18 a19 a20 a21 a22 ports legs lower upper leng reach meter cnt strt goal money litN darkN rng nights fog fund refd brt shrt grp_3 seen tp_1 shr_5 need_2 ordr_7 size_8) H := hP
        have hD : va_D A (bOffice tA a0 a1 a2 a3 a4 a5 a6 a7 a8 a9 a10 a11 a12 a13 a14 a15 a16 a17 a18 a19 a20 a21 a22 ports legs lower upper leng reach meter cnt strt goal money litN darkN rng nights fog fund refd brt shrt grp_3 seen tp_1 shr_5 need_2 ordr_7 size_8) := hD
        have q_41 : (tp_1 i = 0 ∧ z41_9 = -1) ∨ (tp_1 i = 1 ∧ z41_9 = shR tp_1 need_2 (need_2 i).toNat) := p41_10
        have hsx := q_8 i (by omega) (by omega)
        have hzz : z41_9 = shr_5 i := q_41.elim (fun h => by rw [hsx, if_neg (by omega)]; exact h.2) (fun h => by rw [hsx, if_pos h.1]; exact h.2)
        have hty := hgv.1 i (by omega) (by omega)
        refine zz_icmp_eq (tgt := 49) hx hb dX4_sharesAgree_44 (by decide) (by omega) (by omega) (fun c_44 => ?_) (fun c_44 => ?_)
        · refine zz_iinc (lv' := [(1, .int (iI (i + 1))), (0, .ref a0)]) hx hb dX4_sharesAgree_49 hl (k := 0) rfl (by decide) rfl (fun ls hl => ?_)
          refine lv_goto (tgt := 13) hx hb dX4_sharesAgree_52 (by decide) ?_
          exact ih13 (i + 1) ordr_7 size_8 _ _ _ (by omega) (by omega) hP hD hS (lv_sub hl [0, 1] rfl)
        · exact absurd c_44 (by omega)
  exact L13 _ 0 ordr size _ _ _ (by omega) (Nat.lt_succ_self _) hP hD hS (lv_sub hl [0, 1] rfl)

set_option maxHeartbeats 4000000 in
set_option maxRecDepth 100000 in
theorem c_X4_moneyAddsUp (l : Launch) (D : va_G) (tA : Nat → ClassId) (a0 a1 a2 a3 a4 a5 a6 a7 a8 a9 a10 a11 a12 a13 a14 a15 a16 a17 a18 a19 a20 a21 a22 : Nat) (sz : Nat) (ports : Int) (legs : Int) (lower : Int → Int) (upper : Int → Int) (leng : Int → Int) (reach : Int → Int) (meter : Int → Int) (cnt : Int) (strt : Int → Int) (goal : Int → Int) (money : Int → Int) (litN : Int → Int) (darkN : Int → Int) (rng : Int) (nights : Int) (fog : Int) (fund : Int) (refd : Int) (brt : Int) (shrt : Int → Int) (grp : Int → Int) (seen : Int → Int) (tp : Int → Int) (shr : Int → Int) (need : Int → Int) (ordr : Int → Int) (size : Int) (hc : 0 ≤ cnt ∧ cnt ≤ 6) (hm : ∀ j, 0 ≤ j → j < cnt → (0 ≤ money j ∧ money j ≤ 1000000000)) (hf : 0 ≤ fund ∧ fund ≤ 1000000000000) (hb : sm money cnt.toNat + fund = brt) : zMi l yX4_moneyAddsUp wsX4_moneyAddsUp ({ frames := 1, cells := 0, slots := 0, locals := 23 }) D tA [.ref a0] (bOffice tA a0 a1 a2 a3 a4 a5 a6 a7 a8 a9 a10 a11 a12 a13 a14 a15 a16 a17 a18 a19 a20 a21 a22 ports legs lower upper leng reach meter cnt strt goal money litN darkN rng nights fog fund refd brt shrt grp seen tp shr need ordr size) sz (fun (z : Int) (u : Unit) => (z = 1)) (fun (u : Unit) => bOffice tA a0 a1 a2 a3 a4 a5 a6 a7 a8 a9 a10 a11 a12 a13 a14 a15 a16 a17 a18 a19 a20 a21 a22 ports legs lower upper leng reach meter cnt strt goal money litN darkN rng nights fog fund refd brt shrt grp seen tp shr need ordr size) 0 0 := by
  refine zMi_of (cc := cX4_moneyAddsUp) (maxL := 1) (by decide) rfl (fun z u h => zbool z (by omega)) (Nat.le_of_ble_eq_true rfl) ?_
  intro p e s m args below meth c A Q ls hx hb hml hts hown hK hP hD hA hret hl
  obtain ⟨H, hHe⟩ : ∃ H : Heap, H = s.heap := ⟨_, rfl⟩
  have hS : va_S A s.heap H [] := by rw [hHe]; exact va_S.rf
  rw [← hHe] at hP ⊢
  have hl : lv_has ls 1 [(0, .ref a0)] := hl
  have iX4 : ∀ v ∈ wsX40, v ∈ wsX4_moneyAddsUp := by decide +kernel
  have iX9 : ∀ v ∈ wsX90, v ∈ wsX4_moneyAddsUp := by decide +kernel
  have f_12 := hts (.fieldLink RX4 12 "HarborLights$Office" "now" "LHarborLights$State;") (by decide +kernel)
  have f_65 := hts (.fieldLink RX4 65 "HarborLights$State" "ships" "LHarborLights$Ships;") (by decide +kernel)
  have f_82 := hts (.fieldLink RX4 82 "HarborLights$State" "broughtIn" "J") (by decide +kernel)
  have f_203 := hts (.fieldLink RX4 203 "HarborLights$State" "fund" "J") (by decide +kernel)
  have Rm : ∀ j, 0 ≤ j → j < cnt → -2147483648 ≤ money j ∧ money j ≤ 2147483647 := fun j j0 j1 => by have := hm j j0 j1; omega
  refine lv_aload_n hx hb dX4_moneyAddsUp_0 rfl (lv_at hl 0 rfl) ?_
  refine va_get (D := D) (ci := 6) (v := .ref a1) (C := RX4) (T := TX4) (N := 3) hx hb hts iX4 hown hK hP 0 rfl rfl 0 (by decide) f_12 (fun _ h9 => h9) rfl dX4_moneyAddsUp_1 ?_
  refine va_get (D := D) (ci := 11) (v := .ref a8) (C := RX9) (T := TX9) (N := 8) hx hb hts iX9 hown hK hP 1 rfl rfl 1 (by decide) f_65 (fun _ h9 => h9) rfl dX4_moneyAddsUp_4 ?_
  refine zz_callVl (As := []) (rest := []) (wf := fun u => bOffice tA a0 a1 a2 a3 a4 a5 a6 a7 a8 a9 a10 a11 a12 a13 a14 a15 a16 a17 a18 a19 a20 a21 a22 ports legs lower upper leng reach meter cnt strt goal money litN darkN rng nights fog fund refd brt shrt grp seen tp shr need ordr size) ⟨hx, hb, hml, hown, hts⟩ (c_X8_totalMoney l D tA a8 a9 a10 a11 a12 a13 H.size cnt strt goal money litN darkN (by first | assumption | omega) (by first | assumption | omega)) (cwV 0 hts gX4_moneyAddsUp_X8_totalMoney rfl rfl rfl (by decide +kernel) ⟨Nat.le_of_ble_eq_true rfl, Nat.le_of_ble_eq_true rfl⟩) hK hP hD hS hA [8, 9, 10, 11, 12, 13] [0, 1, 2, 3, 4, 5, 6, 7, 14, 15, 16, 17, 18, 19, 20, 21, 22] [0, 1, 2, 3, 4, 5, 6, 7, 17, 18, 19, 20, 21, 22, 8, 9, 10, 11, 12, 13, 14, 15, 16] rfl rfl (by decide) (by decide) (by decide) (by decide) (fun _ => rfl) (ci := 10) (q0 := 0) rfl rfl rfl rfl rfl hl.1 (Nat.le_of_ble_eq_true rfl) dX4_moneyAddsUp_7 ⟨Nat.le_of_ble_eq_true rfl, Nat.le_of_ble_eq_true rfl⟩ ?_
  intro z7_1 u H locs p7_2 hP hD hS
  have hP : va_P D vwCl (bOffice tA a0 a1 a2 a3 a4 a5 a6 a7 a8 a9 a10 a11 a12 a13 a14 a15 a16 a17 a18 a19 a20 a21 a22 ports legs lower upper leng reach meter cnt strt goal money litN darkN rng nights fog fund refd brt shrt grp seen tp shr need ordr size) H := hP
  have hD : va_D A (bOffice tA a0 a1 a2 a3 a4 a5 a6 a7 a8 a9 a10 a11 a12 a13 a14 a15 a16 a17 a18 a19 a20 a21 a22 ports legs lower upper leng reach meter cnt strt goal money litN darkN rng nights fog fund refd brt shrt grp seen tp shr need ordr size) := hD
  have q_7 : z7_1 = sm money cnt.toNat := p7_2
  have hs6 := sm_le (f := money) (b := 1000000000) (n := cnt.toNat) (fun j j0 j1 => hm j j0 (by omega))
  refine lv_aload_n hx hb dX4_moneyAddsUp_10 rfl (lv_at hl 0 rfl) ?_
  refine va_get (D := D) (ci := 6) (v := .ref a1) (C := RX4) (T := TX4) (N := 3) hx hb hts iX4 hown hK hP 0 rfl rfl 0 (by decide) f_12 (fun _ h9 => h9) rfl dX4_moneyAddsUp_11 ?_
  refine va_get (D := D) (ci := 11) (v := .long (lI fund)) (C := RX9) (T := TX9) (N := 8) hx hb hts iX9 hown hK hP 1 rfl rfl 5 (by decide) f_203 (fun _ h9 => h9) rfl dX4_moneyAddsUp_14 ?_
  refine zz_ladd hx hb dX4_moneyAddsUp_17 ?_
  refine lv_aload_n hx hb dX4_moneyAddsUp_18 rfl (lv_at hl 0 rfl) ?_
  refine va_get (D := D) (ci := 6) (v := .ref a1) (C := RX4) (T := TX4) (N := 3) hx hb hts iX4 hown hK hP 0 rfl rfl 0 (by decide) f_12 (fun _ h9 => h9) rfl dX4_moneyAddsUp_19 ?_
  refine va_get (D := D) (ci := 11) (v := .long (lI brt)) (C := RX9) (T := TX9) (N := 8) hx hb hts iX9 hown hK hP 1 rfl rfl 7 (by decide) f_82 (fun _ h9 => h9) rfl dX4_moneyAddsUp_22 ?_
  refine zz_lcmp hx hb dX4_moneyAddsUp_25 (by omega) (by omega) ?_
  have hcz := cmpZ_in (z7_1 + fund) brt
  refine zz_if_ne (tgt := 33) hx hb dX4_moneyAddsUp_26 (by decide) (by omega) (fun c_26 => ?_) (fun c_26 => ?_)
  · exact absurd c_26 (by (rw [cmpZ_0]; omega))
  · refine zz_iconst hx hb dX4_moneyAddsUp_29 ?_
    refine lv_goto (tgt := 34) hx hb dX4_moneyAddsUp_30 (by decide) ?_
    exact hret 1 () _ _ _ _ dX4_moneyAddsUp_34 (show (1 : Int) = 1 from by omega) hP hD hS
