/-! ===== HarborLights: what is told of a subscriber ===== -/
set_option maxHeartbeats 4000000 in
set_option maxRecDepth 100000 in
theorem c_X10_startOf (l : Launch) (hst : l.stackTraces = false) (K : Nat → Nat) (D : va_G) (tA : Nat → ClassId) (a0 a1 a2 a3 a4 a5 a6 a7 a8 a9 a10 a11 a12 a13 a14 a15 a16 a17 a18 a19 a20 a21 a22 a23 a24 a25 a26 a27 a28 : Nat) (sz : Nat) (ports : Int) (legs : Int) (lower : Int → Int) (upper : Int → Int) (leng : Int → Int) (reach : Int → Int) (meter : Int → Int) (cnt : Int) (strt : Int → Int) (goal : Int → Int) (money : Int → Int) (litN : Int → Int) (darkN : Int → Int) (rng : Int) (nights : Int) (fog : Int) (fund : Int) (refd : Int) (brt : Int) (shrt : Int → Int) (grp : Int → Int) (seen : Int → Int) (tp : Int → Int) (shr : Int → Int) (need : Int → Int) (ordr : Int → Int) (size : Int) (hsv : Int) (mal : Int) (fai : Int) (ship : Int) (r_ship : -2147483648 ≤ ship ∧ ship ≤ 2147483647) (hc : 0 ≤ cnt ∧ cnt ≤ 6) : zXi l yX10_startOf wsX10_startOf ({ frames := 7, cells := 1, slots := 6, locals := 111 }) K D tA [.ref a0, .int (iI ship)] (bHLo tA a0 a1 a2 a3 a4 a5 a6 a7 a8 a9 a10 a11 a12 a13 a14 a15 a16 a17 a18 a19 a20 a21 a22 a23 a24 a25 a26 a27 a28 ports legs lower upper leng reach meter cnt strt goal money litN darkN rng nights fog fund refd brt shrt grp seen tp shr need ordr size hsv mal fai) sz (fun (z : Int) (u : Unit) => ((0 ≤ ship ∧ ship < cnt) ∧ z = strt ship)) (fun (u : Unit) => bHLo tA a0 a1 a2 a3 a4 a5 a6 a7 a8 a9 a10 a11 a12 a13 a14 a15 a16 a17 a18 a19 a20 a21 a22 a23 a24 a25 a26 a27 a28 ports legs lower upper leng reach meter cnt strt goal money litN darkN rng nights fog fund refd brt shrt grp seen tp shr need ordr size hsv mal fai) (fun (E : String) (u : Int) => exC E u ∧ (u = 1 ∧ ¬ (0 ≤ ship ∧ ship < cnt))) (fun (u : Int) => bHLo tA a0 a1 a2 a3 a4 a5 a6 a7 a8 a9 a10 a11 a12 a13 a14 a15 a16 a17 a18 a19 a20 a21 a22 a23 a24 a25 a26 a27 a28 ports legs lower upper leng reach meter cnt strt goal money litN darkN rng nights fog fund refd brt shrt grp seen tp shr need ordr size hsv mal fai) 1 6 := by
  refine zXi_of (cc := cX10_startOf) (maxL := 2) hst rfl ⟨by decide, by decide, by decide, by decide⟩ (by decide) rfl (fun z u h => rfl) (Nat.le_of_ble_eq_true rfl) ?_
  intro p e s m args below meth c A Q ls hx hb hml hts hown hK hP hD hA hZ hret hthr hesc hl
  have hCn := hZ.2.2.2
  obtain ⟨H, hHe⟩ : ∃ H : Heap, H = s.heap := ⟨_, rfl⟩
  have hS : va_S A s.heap H [] := by rw [hHe]; exact va_S.rf
  rw [← hHe] at hP ⊢
  have hl : lv_has ls 2 [(0, .ref a0), (1, .int (iI ship))] := hl
  have iX10 : ∀ v ∈ wsX100, v ∈ wsX10_startOf := by decide +kernel
  have iX4 : ∀ v ∈ wsX40, v ∈ wsX10_startOf := by decide +kernel
  have iX8 : ∀ v ∈ wsX80, v ∈ wsX10_startOf := by decide +kernel
  have iX9 : ∀ v ∈ wsX90, v ∈ wsX10_startOf := by decide +kernel
  have f_10 := hts (.fieldLink RX10 10 "HarborLights" "office" "LHarborLights$Office;") (by decide +kernel)
  have f_62 := hts (.fieldLink RX10 62 "HarborLights$Office" "now" "LHarborLights$State;") (by decide +kernel)
  have f_180 := hts (.fieldLink RX10 180 "HarborLights$State" "ships" "LHarborLights$Ships;") (by decide +kernel)
  have f_192 := hts (.fieldLink RX10 192 "HarborLights$Ships" "start" "[I") (by decide +kernel)
  refine lv_aload_n hx hb dX10_startOf_0 rfl (lv_at hl 0 rfl) ?_
  refine lv_iload_n hx hb dX10_startOf_1 rfl (lv_at hl 1 rfl) ?_
  refine zx_callVv (As := [.int (iI ship)]) (rest := []) (wf := fun u => bHLo tA a0 a1 a2 a3 a4 a5 a6 a7 a8 a9 a10 a11 a12 a13 a14 a15 a16 a17 a18 a19 a20 a21 a22 a23 a24 a25 a26 a27 a28 ports legs lower upper leng reach meter cnt strt goal money litN darkN rng nights fog fund refd brt shrt grp seen tp shr need ordr size hsv mal fai) (wfx := fun u => bHLo tA a0 a1 a2 a3 a4 a5 a6 a7 a8 a9 a10 a11 a12 a13 a14 a15 a16 a17 a18 a19 a20 a21 a22 a23 a24 a25 a26 a27 a28 ports legs lower upper leng reach meter cnt strt goal money litN darkN rng nights fog fund refd brt shrt grp seen tp shr need ordr size hsv mal fai) ⟨hx, hb, hml, hown, hts⟩ (c_X10_checkSubscriber l hst K D tA a0 a1 a2 a3 a4 a5 a6 a7 a8 a9 a10 a11 a12 a13 a14 a15 a16 a17 a18 a19 a20 a21 a22 a23 a24 a25 a26 a27 a28 H.size ports legs lower upper leng reach meter cnt strt goal money litN darkN rng nights fog fund refd brt shrt grp seen tp shr need ordr size hsv mal fai ship (by first | assumption | omega) (by first | assumption | omega)) (cwV 1 hts gX10_startOf_X10_checkSubscriber rfl rfl rfl (by decide +kernel) ⟨Nat.le_of_ble_eq_true rfl, Nat.le_of_ble_eq_true rfl⟩) hK hP hD hS hA hZ [0, 1, 2, 3, 4, 5, 6, 7, 8, 9, 10, 11, 12, 13, 14, 15, 16, 17, 18, 19, 20, 21, 22, 23] [] [0, 1, 2, 3, 4, 5, 6, 7, 8, 9, 10, 11, 12, 13, 14, 15, 16, 17, 18, 19, 20, 21, 22, 23] [0, 1, 2, 3, 4, 5, 6, 7, 8, 9, 10, 11, 12, 13, 14, 15, 16, 17, 18, 19, 20, 21, 22, 23] rfl rfl (by decide) (by decide) (by decide) (by decide) (by decide) (fun _ => rfl) (fun _ => rfl) (ci := 12) (q0 := 0) rfl rfl rfl rfl rfl hl.1 (Nat.le_of_ble_eq_true rfl) dX10_startOf_2 ⟨Nat.le_of_ble_eq_true rfl, Nat.le_of_ble_eq_true rfl⟩ ?_ ?_
  · intro E ce q9 u H locs hpx hP hD hS hce hcv hcl
    obtain ⟨k_2, rfl⟩ : ∃ q, q = u := ⟨_, rfl⟩
    have hP : va_P D vwCl (bHLo tA a0 a1 a2 a3 a4 a5 a6 a7 a8 a9 a10 a11 a12 a13 a14 a15 a16 a17 a18 a19 a20 a21 a22 a23 a24 a25 a26 a27 a28 ports legs lower upper leng reach meter cnt strt goal money litN darkN rng nights fog fund refd brt shrt grp seen tp shr need ordr size hsv mal fai) H := hP
    have hD : va_D A (bHLo tA a0 a1 a2 a3 a4 a5 a6 a7 a8 a9 a10 a11 a12 a13 a14 a15 a16 a17 a18 a19 a20 a21 a22 a23 a24 a25 a26 a27 a28 ports legs lower upper leng reach meter cnt strt goal money litN darkN rng nights fog fund refd brt shrt grp seen tp shr need ordr size hsv mal fai) := hD
    have x_2 : k_2 = 1 ∧ ¬ (0 ≤ ship ∧ ship < cnt) := hpx.2
    exact hesc E ce q9 k_2 H locs _ _ _ _ _ hce hcv hcl (Nat.le_of_ble_eq_true rfl) (Nat.le_of_ble_eq_true rfl) ⟨hpx.1, show k_2 = 1 ∧ ¬ (0 ≤ ship ∧ ship < cnt) from by exact x_2⟩ hP hD hS
  · intro u H locs p2_1 hP hD hS
    have hP : va_P D vwCl (bHLo tA a0 a1 a2 a3 a4 a5 a6 a7 a8 a9 a10 a11 a12 a13 a14 a15 a16 a17 a18 a19 a20 a21 a22 a23 a24 a25 a26 a27 a28 ports legs lower upper leng reach meter cnt strt goal money litN darkN rng nights fog fund refd brt shrt grp seen tp shr need ordr size hsv mal fai) H := hP
    have hD : va_D A (bHLo tA a0 a1 a2 a3 a4 a5 a6 a7 a8 a9 a10 a11 a12 a13 a14 a15 a16 a17 a18 a19 a20 a21 a22 a23 a24 a25 a26 a27 a28 ports legs lower upper leng reach meter cnt strt goal money litN darkN rng nights fog fund refd brt shrt grp seen tp shr need ordr size hsv mal fai) := hD
    have q_2 : 0 ≤ ship ∧ ship < cnt := p2_1
    refine lv_aload_n hx hb dX10_startOf_5 rfl (lv_at hl 0 rfl) ?_
    refine va_get (D := D) (ci := 12) (v := .ref a1) (C := RX10) (T := TX10) (N := 9) hx hb hts iX10 hown hK hP 0 rfl rfl 0 (by decide) f_10 (fun _ h9 => h9) rfl dX10_startOf_6 ?_
    refine va_get (D := D) (ci := 6) (v := .ref a2) (C := RX4) (T := TX4) (N := 3) hx hb hts iX4 hown hK hP 1 rfl rfl 0 (by decide) f_62 (fun _ h9 => h9) rfl dX10_startOf_9 ?_
    refine va_get (D := D) (ci := 11) (v := .ref a9) (C := RX9) (T := TX9) (N := 8) hx hb hts iX9 hown hK hP 2 rfl rfl 1 (by decide) f_180 (fun _ h9 => h9) rfl dX10_startOf_12 ?_
    refine va_get (D := D) (ci := 10) (v := .ref a10) (C := RX8) (T := TX8) (N := 6) hx hb hts iX8 hown hK hP 9 rfl rfl 1 (by decide) f_192 (fun _ h9 => h9) rfl dX10_startOf_15 ?_
    refine lv_iload_n hx hb dX10_startOf_18 rfl (lv_at hl 1 rfl) ?_
    refine zz_iald hx hb hK hP 10 rfl (by decide) (by omega) dX10_startOf_19 ?_
    exact hret (strt ship) () _ _ _ _ _ _ (Nat.le_of_ble_eq_true rfl) (Nat.le_of_ble_eq_true rfl) dX10_startOf_20 (show (0 ≤ ship ∧ ship < cnt) ∧ (strt ship) = strt ship from by exact ⟨q_2, rfl⟩) hP hD hS

set_option maxHeartbeats 4000000 in
set_option maxRecDepth 100000 in
theorem c_X10_goalOf (l : Launch) (hst : l.stackTraces = false) (K : Nat → Nat) (D : va_G) (tA : Nat → ClassId) (a0 a1 a2 a3 a4 a5 a6 a7 a8 a9 a10 a11 a12 a13 a14 a15 a16 a17 a18 a19 a20 a21 a22 a23 a24 a25 a26 a27 a28 : Nat) (sz : Nat) (ports : Int) (legs : Int) (lower : Int → Int) (upper : Int → Int) (leng : Int → Int) (reach : Int → Int) (meter : Int → Int) (cnt : Int) (strt : Int → Int) (goal : Int → Int) (money : Int → Int) (litN : Int → Int) (darkN : Int → Int) (rng : Int) (nights : Int) (fog : Int) (fund : Int) (refd : Int) (brt : Int) (shrt : Int → Int) (grp : Int → Int) (seen : Int → Int) (tp : Int → Int) (shr : Int → Int) (need : Int → Int) (ordr : Int → Int) (size : Int) (hsv : Int) (mal : Int) (fai : Int) (ship : Int) (r_ship : -2147483648 ≤ ship ∧ ship ≤ 2147483647) (hc : 0 ≤ cnt ∧ cnt ≤ 6) : zXi l yX10_goalOf wsX10_goalOf ({ frames := 7, cells := 1, slots := 6, locals := 111 }) K D tA [.ref a0, .int (iI ship)] (bHLo tA a0 a1 a2 a3 a4 a5 a6 a7 a8 a9 a10 a11 a12 a13 a14 a15 a16 a17 a18 a19 a20 a21 a22 a23 a24 a25 a26 a27 a28 ports legs lower upper leng reach meter cnt strt goal money litN darkN rng nights fog fund refd brt shrt grp seen tp shr need ordr size hsv mal fai) sz (fun (z : Int) (u : Unit) => ((0 ≤ ship ∧ ship < cnt) ∧ z = goal ship)) (fun (u : Unit) => bHLo tA a0 a1 a2 a3 a4 a5 a6 a7 a8 a9 a10 a11 a12 a13 a14 a15 a16 a17 a18 a19 a20 a21 a22 a23 a24 a25 a26 a27 a28 ports legs lower upper leng reach meter cnt strt goal money litN darkN rng nights fog fund refd brt shrt grp seen tp shr need ordr size hsv mal fai) (fun (E : String) (u : Int) => exC E u ∧ (u = 1 ∧ ¬ (0 ≤ ship ∧ ship < cnt))) (fun (u : Int) => bHLo tA a0 a1 a2 a3 a4 a5 a6 a7 a8 a9 a10 a11 a12 a13 a14 a15 a16 a17 a18 a19 a20 a21 a22 a23 a24 a25 a26 a27 a28 ports legs lower upper leng reach meter cnt strt goal money litN darkN rng nights fog fund refd brt shrt grp seen tp shr need ordr size hsv mal fai) 1 6 := by
  refine zXi_of (cc := cX10_goalOf) (maxL := 2) hst rfl ⟨by decide, by decide, by decide, by decide⟩ (by decide) rfl (fun z u h => rfl) (Nat.le_of_ble_eq_true rfl) ?_
  intro p e s m args below meth c A Q ls hx hb hml hts hown hK hP hD hA hZ hret hthr hesc hl
  have hCn := hZ.2.2.2
  obtain ⟨H, hHe⟩ : ∃ H : Heap, H = s.heap := ⟨_, rfl⟩
  have hS : va_S A s.heap H [] := by rw [hHe]; exact va_S.rf
  rw [← hHe] at hP ⊢
  have hl : lv_has ls 2 [(0, .ref a0), (1, .int (iI ship))] := hl
  have iX10 : ∀ v ∈ wsX100, v ∈ wsX10_goalOf := by decide +kernel
  have iX4 : ∀ v ∈ wsX40, v ∈ wsX10_goalOf := by decide +kernel
  have iX8 : ∀ v ∈ wsX80, v ∈ wsX10_goalOf := by decide +kernel
  have iX9 : ∀ v ∈ wsX90, v ∈ wsX10_goalOf := by decide +kernel
  have f_10 := hts (.fieldLink RX10 10 "HarborLights" "office" "LHarborLights$Office;") (by decide +kernel)
  have f_62 := hts (.fieldLink RX10 62 "HarborLights$Office" "now" "LHarborLights$State;") (by decide +kernel)
  have f_180 := hts (.fieldLink RX10 180 "HarborLights$State" "ships" "LHarborLights$Ships;") (by decide +kernel)
  have f_195 := hts (.fieldLink RX10 195 "HarborLights$Ships" "goal" "[I") (by decide +kernel)
  refine lv_aload_n hx hb dX10_goalOf_0 rfl (lv_at hl 0 rfl) ?_
  refine lv_iload_n hx hb dX10_goalOf_1 rfl (lv_at hl 1 rfl) ?_
  refine zx_callVv (As := [.int (iI ship)]) (rest := []) (wf := fun u => bHLo tA a0 a1 a2 a3 a4 a5 a6 a7 a8 a9 a10 a11 a12 a13 a14 a15 a16 a17 a18 a19 a20 a21 a22 a23 a24 a25 a26 a27 a28 ports legs lower upper leng reach meter cnt strt goal money litN darkN rng nights fog fund refd brt shrt grp seen tp shr need ordr size hsv mal fai) (wfx := fun u => bHLo tA a0 a1 a2 a3 a4 a5 a6 a7 a8 a9 a10 a11 a12 a13 a14 a15 a16 a17 a18 a19 a20 a21 a22 a23 a24 a25 a26 a27 a28 ports legs lower upper leng reach meter cnt strt goal money litN darkN rng nights fog fund refd brt shrt grp seen tp shr need ordr size hsv mal fai) ⟨hx, hb, hml, hown, hts⟩ (c_X10_checkSubscriber l hst K D tA a0 a1 a2 a3 a4 a5 a6 a7 a8 a9 a10 a11 a12 a13 a14 a15 a16 a17 a18 a19 a20 a21 a22 a23 a24 a25 a26 a27 a28 H.size ports legs lower upper leng reach meter cnt strt goal money litN darkN rng nights fog fund refd brt shrt grp seen tp shr need ordr size hsv mal fai ship (by first | assumption | omega) (by first | assumption | omega)) (cwV 1 hts gX10_goalOf_X10_checkSubscriber rfl rfl rfl (by decide +kernel) ⟨Nat.le_of_ble_eq_true rfl, Nat.le_of_ble_eq_true rfl⟩) hK hP hD hS hA hZ [0, 1, 2, 3, 4, 5, 6, 7, 8, 9, 10, 11, 12, 13, 14, 15, 16, 17, 18, 19, 20, 21, 22, 23] [] [0, 1, 2, 3, 4, 5, 6, 7, 8, 9, 10, 11, 12, 13, 14, 15, 16, 17, 18, 19, 20, 21, 22, 23] [0, 1, 2, 3, 4, 5, 6, 7, 8, 9, 10, 11, 12, 13, 14, 15, 16, 17, 18, 19, 20, 21, 22, 23] rfl rfl (by decide) (by decide) (by decide) (by decide) (by decide) (fun _ => rfl) (fun _ => rfl) (ci := 12) (q0 := 0) rfl rfl rfl rfl rfl hl.1 (Nat.le_of_ble_eq_true rfl) dX10_goalOf_2 ⟨Nat.le_of_ble_eq_true rfl, Nat.le_of_ble_eq_true rfl⟩ ?_ ?_
  · intro E ce q9 u H locs hpx hP hD hS hce hcv hcl
    obtain ⟨k_2, rfl⟩ : ∃ q, q = u := ⟨_, rfl⟩
    have hP : va_P D vwCl (bHLo tA a0 a1 a2 a3 a4 a5 a6 a7 a8 a9 a10 a11 a12 a13 a14 a15 a16 a17 a18 a19 a20 a21 a22 a23 a24 a25 a26 a27 a28 ports legs lower upper leng reach meter cnt strt goal money litN darkN rng nights fog fund refd brt shrt grp seen tp shr need ordr size hsv mal fai) H := hP
    have hD : va_D A (bHLo tA a0 a1 a2 a3 a4 a5 a6 a7 a8 a9 a10 a11 a12 a13 a14 a15 a16 a17 a18 a19 a20 a21 a22 a23 a24 a25 a26 a27 a28 ports legs lower upper leng reach meter cnt strt goal money litN darkN rng nights fog fund refd brt shrt grp seen tp shr need ordr size hsv mal fai) := hD
    have x_2 : k_2 = 1 ∧ ¬ (0 ≤ ship ∧ ship < cnt) := hpx.2
    exact hesc E ce q9 k_2 H locs _ _ _ _ _ hce hcv hcl (Nat.le_of_ble_eq_true rfl) (Nat.le_of_ble_eq_true rfl) ⟨hpx.1, show k_2 = 1 ∧ ¬ (0 ≤ ship ∧ ship < cnt) from by exact x_2⟩ hP hD hS
  · intro u H locs p2_1 hP hD hS
    have hP : va_P D vwCl (bHLo tA a0 a1 a2 a3 a4 a5 a6 a7 a8 a9 a10 a11 a12 a13 a14 a15 a16 a17 a18 a19 a20 a21 a22 a23 a24 a25 a26 a27 a28 ports legs lower upper leng reach meter cnt strt goal money litN darkN rng nights fog fund refd brt shrt grp seen tp shr need ordr size hsv mal fai) H := hP
    have hD : va_D A (bHLo tA a0 a1 a2 a3 a4 a5 a6 a7 a8 a9 a10 a11 a12 a13 a14 a15 a16 a17 a18 a19 a20 a21 a22 a23 a24 a25 a26 a27 a28 ports legs lower upper leng reach meter cnt strt goal money litN darkN rng nights fog fund refd brt shrt grp seen tp shr need ordr size hsv mal fai) := hD
    have q_2 : 0 ≤ ship ∧ ship < cnt := p2_1
    refine lv_aload_n hx hb dX10_goalOf_5 rfl (lv_at hl 0 rfl) ?_
    refine va_get (D := D) (ci := 12) (v := .ref a1) (C := RX10) (T := TX10) (N := 9) hx hb hts iX10 hown hK hP 0 rfl rfl 0 (by decide) f_10 (fun _ h9 => h9) rfl dX10_goalOf_6 ?_
    refine va_get (D := D) (ci := 6) (v := .ref a2) (C := RX4) (T := TX4) (N := 3) hx hb hts iX4 hown hK hP 1 rfl rfl 0 (by decide) f_62 (fun _ h9 => h9) rfl dX10_goalOf_9 ?_
    refine va_get (D := D) (ci := 11) (v := .ref a9) (C := RX9) (T := TX9) (N := 8) hx hb hts iX9 hown hK hP 2 rfl rfl 1 (by decide) f_180 (fun _ h9 => h9) rfl dX10_goalOf_12 ?_
    refine va_get (D := D) (ci := 10) (v := .ref a11) (C := RX8) (T := TX8) (N := 6) hx hb hts iX8 hown hK hP 9 rfl rfl 2 (by decide) f_195 (fun _ h9 => h9) rfl dX10_goalOf_15 ?_
    refine lv_iload_n hx hb dX10_goalOf_18 rfl (lv_at hl 1 rfl) ?_
    refine zz_iald hx hb hK hP 11 rfl (by decide) (by omega) dX10_goalOf_19 ?_
    exact hret (goal ship) () _ _ _ _ _ _ (Nat.le_of_ble_eq_true rfl) (Nat.le_of_ble_eq_true rfl) dX10_goalOf_20 (show (0 ≤ ship ∧ ship < cnt) ∧ (goal ship) = goal ship from by exact ⟨q_2, rfl⟩) hP hD hS

set_option maxHeartbeats 4000000 in
set_option maxRecDepth 100000 in
theorem c_X10_moneyOf (l : Launch) (hst : l.stackTraces = false) (K : Nat → Nat) (D : va_G) (tA : Nat → ClassId) (a0 a1 a2 a3 a4 a5 a6 a7 a8 a9 a10 a11 a12 a13 a14 a15 a16 a17 a18 a19 a20 a21 a22 a23 a24 a25 a26 a27 a28 : Nat) (sz : Nat) (ports : Int) (legs : Int) (lower : Int → Int) (upper : Int → Int) (leng : Int → Int) (reach : Int → Int) (meter : Int → Int) (cnt : Int) (strt : Int → Int) (goal : Int → Int) (money : Int → Int) (litN : Int → Int) (darkN : Int → Int) (rng : Int) (nights : Int) (fog : Int) (fund : Int) (refd : Int) (brt : Int) (shrt : Int → Int) (grp : Int → Int) (seen : Int → Int) (tp : Int → Int) (shr : Int → Int) (need : Int → Int) (ordr : Int → Int) (size : Int) (hsv : Int) (mal : Int) (fai : Int) (ship : Int) (r_ship : -2147483648 ≤ ship ∧ ship ≤ 2147483647) (hc : 0 ≤ cnt ∧ cnt ≤ 6) : zXi l yX10_moneyOf wsX10_moneyOf ({ frames := 7, cells := 1, slots := 6, locals := 111 }) K D tA [.ref a0, .int (iI ship)] (bHLo tA a0 a1 a2 a3 a4 a5 a6 a7 a8 a9 a10 a11 a12 a13 a14 a15 a16 a17 a18 a19 a20 a21 a22 a23 a24 a25 a26 a27 a28 ports legs lower upper leng reach meter cnt strt goal money litN darkN rng nights fog fund refd brt shrt grp seen tp shr need ordr size hsv mal fai) sz (fun (z : Int) (u : Unit) => ((0 ≤ ship ∧ ship < cnt) ∧ z = money ship)) (fun (u : Unit) => bHLo tA a0 a1 a2 a3 a4 a5 a6 a7 a8 a9 a10 a11 a12 a13 a14 a15 a16 a17 a18 a19 a20 a21 a22 a23 a24 a25 a26 a27 a28 ports legs lower upper leng reach meter cnt strt goal money litN darkN rng nights fog fund refd brt shrt grp seen tp shr need ordr size hsv mal fai) (fun (E : String) (u : Int) => exC E u ∧ (u = 1 ∧ ¬ (0 ≤ ship ∧ ship < cnt))) (fun (u : Int) => bHLo tA a0 a1 a2 a3 a4 a5 a6 a7 a8 a9 a10 a11 a12 a13 a14 a15 a16 a17 a18 a19 a20 a21 a22 a23 a24 a25 a26 a27 a28 ports legs lower upper leng reach meter cnt strt goal money litN darkN rng nights fog fund refd brt shrt grp seen tp shr need ordr size hsv mal fai) 1 6 := by
  refine zXi_of (cc := cX10_moneyOf) (maxL := 2) hst rfl ⟨by decide, by decide, by decide, by decide⟩ (by decide) rfl (fun z u h => rfl) (Nat.le_of_ble_eq_true rfl) ?_
  intro p e s m args below meth c A Q ls hx hb hml hts hown hK hP hD hA hZ hret hthr hesc hl
  have hCn := hZ.2.2.2
  obtain ⟨H, hHe⟩ : ∃ H : Heap, H = s.heap := ⟨_, rfl⟩
  have hS : va_S A s.heap H [] := by rw [hHe]; exact va_S.rf
  rw [← hHe] at hP ⊢
  have hl : lv_has ls 2 [(0, .ref a0), (1, .int (iI ship))] := hl
  have iX10 : ∀ v ∈ wsX100, v ∈ wsX10_moneyOf := by decide +kernel
  have iX4 : ∀ v ∈ wsX40, v ∈ wsX10_moneyOf := by decide +kernel
  have iX8 : ∀ v ∈ wsX80, v ∈ wsX10_moneyOf := by decide +kernel
  have iX9 : ∀ v ∈ wsX90, v ∈ wsX10_moneyOf := by decide +kernel
  have f_10 := hts (.fieldLink RX10 10 "HarborLights" "office" "LHarborLights$Office;") (by decide +kernel)
  have f_62 := hts (.fieldLink RX10 62 "HarborLights$Office" "now" "LHarborLights$State;") (by decide +kernel)
  have f_180 := hts (.fieldLink RX10 180 "HarborLights$State" "ships" "LHarborLights$Ships;") (by decide +kernel)
  have f_198 := hts (.fieldLink RX10 198 "HarborLights$Ships" "money" "[I") (by decide +kernel)
  refine lv_aload_n hx hb dX10_moneyOf_0 rfl (lv_at hl 0 rfl) ?_
  refine lv_iload_n hx hb dX10_moneyOf_1 rfl (lv_at hl 1 rfl) ?_
  refine zx_callVv (As := [.int (iI ship)]) (rest := []) (wf := fun u => bHLo tA a0 a1 a2 a3 a4 a5 a6 a7 a8 a9 a10 a11 a12 a13 a14 a15 a16 a17 a18 a19 a20 a21 a22 a23 a24 a25 a26 a27 a28 ports legs lower upper leng reach meter cnt strt goal money litN darkN rng nights fog fund refd brt shrt grp seen tp shr need ordr size hsv mal fai) (wfx := fun u => bHLo tA a0 a1 a2 a3 a4 a5 a6 a7 a8 a9 a10 a11 a12 a13 a14 a15 a16 a17 a18 a19 a20 a21 a22 a23 a24 a25 a26 a27 a28 ports legs lower upper leng reach meter cnt strt goal money litN darkN rng nights fog fund refd brt shrt grp seen tp shr need ordr size hsv mal fai) ⟨hx, hb, hml, hown, hts⟩ (c_X10_checkSubscriber l hst K D tA a0 a1 a2 a3 a4 a5 a6 a7 a8 a9 a10 a11 a12 a13 a14 a15 a16 a17 a18 a19 a20 a21 a22 a23 a24 a25 a26 a27 a28 H.size ports legs lower upper leng reach meter cnt strt goal money litN darkN rng nights fog fund refd brt shrt grp seen tp shr need ordr size hsv mal fai ship (by first | assumption | omega) (by first | assumption | omega)) (cwV 1 hts gX10_moneyOf_X10_checkSubscriber rfl rfl rfl (by decide +kernel) ⟨Nat.le_of_ble_eq_true rfl, Nat.le_of_ble_eq_true rfl⟩) hK hP hD hS hA hZ [0, 1, 2, 3, 4, 5, 6, 7, 8, 9, 10, 11, 12, 13, 14, 15, 16, 17, 18, 19, 20, 21, 22, 23] [] [0, 1, 2, 3, 4, 5, 6, 7, 8, 9, 10, 11, 12, 13, 14, 15, 16, 17, 18, 19, 20, 21, 22, 23] [0, 1, 2, 3, 4, 5, 6, 7, 8, 9, 10, 11, 12, 13, 14, 15, 16, 17, 18, 19, 20, 21, 22, 23] rfl rfl (by decide) (by decide) (by decide) (by decide) (by decide) (fun _ => rfl) (fun _ => rfl) (ci := 12) (q0 := 0) rfl rfl rfl rfl rfl hl.1 (Nat.le_of_ble_eq_true rfl) dX10_moneyOf_2 ⟨Nat.le_of_ble_eq_true rfl, Nat.le_of_ble_eq_true rfl⟩ ?_ ?_
  · intro E ce q9 u H locs hpx hP hD hS hce hcv hcl
    obtain ⟨k_2, rfl⟩ : ∃ q, q = u := ⟨_, rfl⟩
    have hP : va_P D vwCl (bHLo tA a0 a1 a2 a3 a4 a5 a6 a7 a8 a9 a10 a11 a12 a13 a14 a15 a16 a17 a18 a19 a20 a21 a22 a23 a24 a25 a26 a27 a28 ports legs lower upper leng reach meter cnt strt goal money litN darkN rng nights fog fund refd brt shrt grp seen tp shr need ordr size hsv mal fai) H := hP
    have hD : va_D A (bHLo tA a0 a1 a2 a3 a4 a5 a6 a7 a8 a9 a10 a11 a12 a13 a14 a15 a16 a17 a18 a19 a20 a21 a22 a23 a24 a25 a26 a27 a28 ports legs lower upper leng reach meter cnt strt goal money litN darkN rng nights fog fund refd brt shrt grp seen tp shr need ordr size hsv mal fai) := hD
    have x_2 : k_2 = 1 ∧ ¬ (0 ≤ ship ∧ ship < cnt) := hpx.2
    exact hesc E ce q9 k_2 H locs _ _ _ _ _ hce hcv hcl (Nat.le_of_ble_eq_true rfl) (Nat.le_of_ble_eq_true rfl) ⟨hpx.1, show k_2 = 1 ∧ ¬ (0 ≤ ship ∧ ship < cnt) from by exact x_2⟩ hP hD hS
  · intro u H locs p2_1 hP hD hS
    have hP : va_P D vwCl (bHLo tA a0 a1 a2 a3 a4 a5 a6 a7 a8 a9 a10 a11 a12 a13 a14 a15 a16 a17 a18 a19 a20 a21 a22 a23 a24 a25 a26 a27 a28 ports legs lower upper leng reach meter cnt strt goal money litN darkN rng nights fog fund refd brt shrt grp seen tp shr need ordr size hsv mal fai) H := hP
    have hD : va_D A (bHLo tA a0 a1 a2 a3 a4 a5 a6 a7 a8 a9 a10 a11 a12 a13 a14 a15 a16 a17 a18 a19 a20 a21 a22 a23 a24 a25 a26 a27 a28 ports legs lower upper leng reach meter cnt strt goal money litN darkN rng nights fog fund refd brt shrt grp seen tp shr need ordr size hsv mal fai) := hD
    have q_2 : 0 ≤ ship ∧ ship < cnt := p2_1
    refine lv_aload_n hx hb dX10_moneyOf_5 rfl (lv_at hl 0 rfl) ?_
    refine va_get (D := D) (ci := 12) (v := .ref a1) (C := RX10) (T := TX10) (N := 9) hx hb hts iX10 hown hK hP 0 rfl rfl 0 (by decide) f_10 (fun _ h9 => h9) rfl dX10_moneyOf_6 ?_
    refine va_get (D := D) (ci := 6) (v := .ref a2) (C := RX4) (T := TX4) (N := 3) hx hb hts iX4 hown hK hP 1 rfl rfl 0 (by decide) f_62 (fun _ h9 => h9) rfl dX10_moneyOf_9 ?_
    refine va_get (D := D) (ci := 11) (v := .ref a9) (C := RX9) (T := TX9) (N := 8) hx hb hts iX9 hown hK hP 2 rfl rfl 1 (by decide) f_180 (fun _ h9 => h9) rfl dX10_moneyOf_12 ?_
    refine va_get (D := D) (ci := 10) (v := .ref a12) (C := RX8) (T := TX8) (N := 6) hx hb hts iX8 hown hK hP 9 rfl rfl 3 (by decide) f_198 (fun _ h9 => h9) rfl dX10_moneyOf_15 ?_
    refine lv_iload_n hx hb dX10_moneyOf_18 rfl (lv_at hl 1 rfl) ?_
    refine zz_iald hx hb hK hP 12 rfl (by decide) (by omega) dX10_moneyOf_19 ?_
    exact hret (money ship) () _ _ _ _ _ _ (Nat.le_of_ble_eq_true rfl) (Nat.le_of_ble_eq_true rfl) dX10_moneyOf_20 (show (0 ≤ ship ∧ ship < cnt) ∧ (money ship) = money ship from by exact ⟨q_2, rfl⟩) hP hD hS

set_option maxHeartbeats 4000000 in
set_option maxRecDepth 100000 in
theorem c_X10_litNightsOf (l : Launch) (hst : l.stackTraces = false) (K : Nat → Nat) (D : va_G) (tA : Nat → ClassId) (a0 a1 a2 a3 a4 a5 a6 a7 a8 a9 a10 a11 a12 a13 a14 a15 a16 a17 a18 a19 a20 a21 a22 a23 a24 a25 a26 a27 a28 : Nat) (sz : Nat) (ports : Int) (legs : Int) (lower : Int → Int) (upper : Int → Int) (leng : Int → Int) (reach : Int → Int) (meter : Int → Int) (cnt : Int) (strt : Int → Int) (goal : Int → Int) (money : Int → Int) (litN : Int → Int) (darkN : Int → Int) (rng : Int) (nights : Int) (fog : Int) (fund : Int) (refd : Int) (brt : Int) (shrt : Int → Int) (grp : Int → Int) (seen : Int → Int) (tp : Int → Int) (shr : Int → Int) (need : Int → Int) (ordr : Int → Int) (size : Int) (hsv : Int) (mal : Int) (fai : Int) (ship : Int) (r_ship : -2147483648 ≤ ship ∧ ship ≤ 2147483647) (hc : 0 ≤ cnt ∧ cnt ≤ 6) : zXi l yX10_litNightsOf wsX10_litNightsOf ({ frames := 7, cells := 1, slots := 6, locals := 111 }) K D tA [.ref a0, .int (iI ship)] (bHLo tA a0 a1 a2 a3 a4 a5 a6 a7 a8 a9 a10 a11 a12 a13 a14 a15 a16 a17 a18 a19 a20 a21 a22 a23 a24 a25 a26 a27 a28 ports legs lower upper leng reach meter cnt strt goal money litN darkN rng nights fog fund refd brt shrt grp seen tp shr need ordr size hsv mal fai) sz (fun (z : Int) (u : Unit) => ((0 ≤ ship ∧ ship < cnt) ∧ z = litN ship)) (fun (u : Unit) => bHLo tA a0 a1 a2 a3 a4 a5 a6 a7 a8 a9 a10 a11 a12 a13 a14 a15 a16 a17 a18 a19 a20 a21 a22 a23 a24 a25 a26 a27 a28 ports legs lower upper leng reach meter cnt strt goal money litN darkN rng nights fog fund refd brt shrt grp seen tp shr need ordr size hsv mal fai) (fun (E : String) (u : Int) => exC E u ∧ (u = 1 ∧ ¬ (0 ≤ ship ∧ ship < cnt))) (fun (u : Int) => bHLo tA a0 a1 a2 a3 a4 a5 a6 a7 a8 a9 a10 a11 a12 a13 a14 a15 a16 a17 a18 a19 a20 a21 a22 a23 a24 a25 a26 a27 a28 ports legs lower upper leng reach meter cnt strt goal money litN darkN rng nights fog fund refd brt shrt grp seen tp shr need ordr size hsv mal fai) 1 6 := by
  refine zXi_of (cc := cX10_litNightsOf) (maxL := 2) hst rfl ⟨by decide, by decide, by decide, by decide⟩ (by decide) rfl (fun z u h => rfl) (Nat.le_of_ble_eq_true rfl) ?_
  intro p e s m args below meth c A Q ls hx hb hml hts hown hK hP hD hA hZ hret hthr hesc hl
  have hCn := hZ.2.2.2
  obtain ⟨H, hHe⟩ : ∃ H : Heap, H = s.heap := ⟨_, rfl⟩
  have hS : va_S A s.heap H [] := by rw [hHe]; exact va_S.rf
  rw [← hHe] at hP ⊢
  have hl : lv_has ls 2 [(0, .ref a0), (1, .int (iI ship))] := hl
  have iX10 : ∀ v ∈ wsX100, v ∈ wsX10_litNightsOf := by decide +kernel
  have iX4 : ∀ v ∈ wsX40, v ∈ wsX10_litNightsOf := by decide +kernel
  have iX8 : ∀ v ∈ wsX80, v ∈ wsX10_litNightsOf := by decide +kernel
  have iX9 : ∀ v ∈ wsX90, v ∈ wsX10_litNightsOf := by decide +kernel
  have f_10 := hts (.fieldLink RX10 10 "HarborLights" "office" "LHarborLights$Office;") (by decide +kernel)
  have f_62 := hts (.fieldLink RX10 62 "HarborLights$Office" "now" "LHarborLights$State;") (by decide +kernel)
  have f_180 := hts (.fieldLink RX10 180 "HarborLights$State" "ships" "LHarborLights$Ships;") (by decide +kernel)
  have f_204 := hts (.fieldLink RX10 204 "HarborLights$Ships" "litNights" "[I") (by decide +kernel)
  refine lv_aload_n hx hb dX10_litNightsOf_0 rfl (lv_at hl 0 rfl) ?_
  refine lv_iload_n hx hb dX10_litNightsOf_1 rfl (lv_at hl 1 rfl) ?_
  refine zx_callVv (As := [.int (iI ship)]) (rest := []) (wf := fun u => bHLo tA a0 a1 a2 a3 a4 a5 a6 a7 a8 a9 a10 a11 a12 a13 a14 a15 a16 a17 a18 a19 a20 a21 a22 a23 a24 a25 a26 a27 a28 ports legs lower upper leng reach meter cnt strt goal money litN darkN rng nights fog fund refd brt shrt grp seen tp shr need ordr size hsv mal fai) (wfx := fun u => bHLo tA a0 a1 a2 a3 a4 a5 a6 a7 a8 a9 a10 a11 a12 a13 a14 a15 a16 a17 a18 a19 a20 a21 a22 a23 a24 a25 a26 a27 a28 ports legs lower upper leng reach meter cnt strt goal money litN darkN rng nights fog fund refd brt shrt grp seen tp shr need ordr size hsv mal fai) ⟨hx, hb, hml, hown, hts⟩ (c_X10_checkSubscriber l hst K D tA a0 a1 a2 a3 a4 a5 a6 a7 a8 a9 a10 a11 a12 a13 a14 a15 a16 a17 a18 a19 a20 a21 a22 a23 a24 a25 a26 a27 a28 H.size ports legs lower upper leng reach meter cnt strt goal money litN darkN rng nights fog fund refd brt shrt grp seen tp shr need ordr size hsv mal fai ship (by first | assumption | omega) (by first | assumption | omega)) (cwV 1 hts gX10_litNightsOf_X10_checkSubscriber rfl rfl rfl (by decide +kernel) ⟨Nat.le_of_ble_eq_true rfl, Nat.le_of_ble_eq_true rfl⟩) hK hP hD hS hA hZ [0, 1, 2, 3, 4, 5, 6, 7, 8, 9, 10, 11, 12, 13, 14, 15, 16, 17, 18, 19, 20, 21, 22, 23] [] [0, 1, 2, 3, 4, 5, 6, 7, 8, 9, 10, 11, 12, 13, 14, 15, 16, 17, 18, 19, 20, 21, 22, 23] [0, 1, 2, 3, 4, 5, 6, 7, 8, 9, 10, 11, 12, 13, 14, 15, 16, 17, 18, 19, 20, 21, 22, 23] rfl rfl (by decide) (by decide) (by decide) (by decide) (by decide) (fun _ => rfl) (fun _ => rfl) (ci := 12) (q0 := 0) rfl rfl rfl rfl rfl hl.1 (Nat.le_of_ble_eq_true rfl) dX10_litNightsOf_2 ⟨Nat.le_of_ble_eq_true rfl, Nat.le_of_ble_eq_true rfl⟩ ?_ ?_
  · intro E ce q9 u H locs hpx hP hD hS hce hcv hcl
    obtain ⟨k_2, rfl⟩ : ∃ q, q = u := ⟨_, rfl⟩
    have hP : va_P D vwCl (bHLo tA a0 a1 a2 a3 a4 a5 a6 a7 a8 a9 a10 a11 a12 a13 a14 a15 a16 a17 a18 a19 a20 a21 a22 a23 a24 a25 a26 a27 a28 ports legs lower upper leng reach meter cnt strt goal money litN darkN rng nights fog fund refd brt shrt grp seen tp shr need ordr size hsv mal fai) H := hP
    have hD : va_D A (bHLo tA a0 a1 a2 a3 a4 a5 a6 a7 a8 a9 a10 a11 a12 a13 a14 a15 a16 a17 a18 a19 a20 a21 a22 a23 a24 a25 a26 a27 a28 ports legs lower upper leng reach meter cnt strt goal money litN darkN rng nights fog fund refd brt shrt grp seen tp shr need ordr size hsv mal fai) := hD
    have x_2 : k_2 = 1 ∧ ¬ (0 ≤ ship ∧ ship < cnt) := hpx.2
    exact hesc E ce q9 k_2 H locs _ _ _ _ _ hce hcv hcl (Nat.le_of_ble_eq_true rfl) (Nat.le_of_ble_eq_true rfl) ⟨hpx.1, show k_2 = 1 ∧ ¬ (0 ≤ ship ∧ ship < cnt) from by exact x_2⟩ hP hD hS
  · intro u H locs p2_1 hP hD hS
    have hP : va_P D vwCl (bHLo tA a0 a1 a2 a3 a4 a5 a6 a7 a8 a9 a10 a11 a12 a13 a14 a15 a16 a17 a18 a19 a20 a21 a22 a23 a24 a25 a26 a27 a28 ports legs lower upper leng reach meter cnt strt goal money litN darkN rng nights fog fund refd brt shrt grp seen tp shr need ordr size hsv mal fai) H := hP
    have hD : va_D A (bHLo tA a0 a1 a2 a3 a4 a5 a6 a7 a8 a9 a10 a11 a12 a13 a14 a15 a16 a17 a18 a19 a20 a21 a22 a23 a24 a25 a26 a27 a28 ports legs lower upper leng reach meter cnt strt goal money litN darkN rng nights fog fund refd brt shrt grp seen tp shr need ordr size hsv mal fai) := hD
    have q_2 : 0 ≤ ship ∧ ship < cnt := p2_1
    refine lv_aload_n hx hb dX10_litNightsOf_5 rfl (lv_at hl 0 rfl) ?_
    refine va_get (D := D) (ci := 12) (v := .ref a1) (C := RX10) (T := TX10) (N := 9) hx hb hts iX10 hown hK hP 0 rfl rfl 0 (by decide) f_10 (fun _ h9 => h9) rfl dX10_litNightsOf_6 ?_
    refine va_get (D := D) (ci := 6) (v := .ref a2) (C := RX4) (T := TX4) (N := 3) hx hb hts iX4 hown hK hP 1 rfl rfl 0 (by decide) f_62 (fun _ h9 => h9) rfl dX10_litNightsOf_9 ?_
    refine va_get (D := D) (ci := 11) (v := .ref a9) (C := RX9) (T := TX9) (N := 8) hx hb hts iX9 hown hK hP 2 rfl rfl 1 (by decide) f_180 (fun _ h9 => h9) rfl dX10_litNightsOf_12 ?_
    refine va_get (D := D) (ci := 10) (v := .ref a13) (C := RX8) (T := TX8) (N := 6) hx hb hts iX8 hown hK hP 9 rfl rfl 4 (by decide) f_204 (fun _ h9 => h9) rfl dX10_litNightsOf_15 ?_
    refine lv_iload_n hx hb dX10_litNightsOf_18 rfl (lv_at hl 1 rfl) ?_
    refine zz_iald hx hb hK hP 13 rfl (by decide) (by omega) dX10_litNightsOf_19 ?_
    exact hret (litN ship) () _ _ _ _ _ _ (Nat.le_of_ble_eq_true rfl) (Nat.le_of_ble_eq_true rfl) dX10_litNightsOf_20 (show (0 ≤ ship ∧ ship < cnt) ∧ (litN ship) = litN ship from by exact ⟨q_2, rfl⟩) hP hD hS

set_option maxHeartbeats 4000000 in
set_option maxRecDepth 100000 in
theorem c_X10_darkNightsOf (l : Launch) (hst : l.stackTraces = false) (K : Nat → Nat) (D : va_G) (tA : Nat → ClassId) (a0 a1 a2 a3 a4 a5 a6 a7 a8 a9 a10 a11 a12 a13 a14 a15 a16 a17 a18 a19 a20 a21 a22 a23 a24 a25 a26 a27 a28 : Nat) (sz : Nat) (ports : Int) (legs : Int) (lower : Int → Int) (upper : Int → Int) (leng : Int → Int) (reach : Int → Int) (meter : Int → Int) (cnt : Int) (strt : Int → Int) (goal : Int → Int) (money : Int → Int) (litN : Int → Int) (darkN : Int → Int) (rng : Int) (nights : Int) (fog : Int) (fund : Int) (refd : Int) (brt : Int) (shrt : Int → Int) (grp : Int → Int) (seen : Int → Int) (tp : Int → Int) (shr : Int → Int) (need : Int → Int) (ordr : Int → Int) (size : Int) (hsv : Int) (mal : Int) (fai : Int) (ship : Int) (r_ship : -2147483648 ≤ ship ∧ ship ≤ 2147483647) (hc : 0 ≤ cnt ∧ cnt ≤ 6) : zXi l yX10_darkNightsOf wsX10_darkNightsOf ({ frames := 7, cells := 1, slots := 6, locals := 111 }) K D tA [.ref a0, .int (iI ship)] (bHLo tA a0 a1 a2 a3 a4 a5 a6 a7 a8 a9 a10 a11 a12 a13 a14 a15 a16 a17 a18 a19 a20 a21 a22 a23 a24 a25 a26 a27 a28 ports legs lower upper leng reach meter cnt strt goal money litN darkN rng nights fog fund refd brt shrt grp seen tp shr need ordr size hsv mal fai) sz (fun (z : Int) (u : Unit) => ((0 ≤ ship ∧ ship < cnt) ∧ z = darkN ship)) (fun (u : Unit) => bHLo tA a0 a1 a2 a3 a4 a5 a6 a7 a8 a9 a10 a11 a12 a13 a14 a15 a16 a17 a18 a19 a20 a21 a22 a23 a24 a25 a26 a27 a28 ports legs lower upper leng reach meter cnt strt goal money litN darkN rng nights fog fund refd brt shrt grp seen tp shr need ordr size hsv mal fai) (fun (E : String) (u : Int) => exC E u ∧ (u = 1 ∧ ¬ (0 ≤ ship ∧ ship < cnt))) (fun (u : Int) => bHLo tA a0 a1 a2 a3 a4 a5 a6 a7 a8 a9 a10 a11 a12 a13 a14 a15 a16 a17 a18 a19 a20 a21 a22 a23 a24 a25 a26 a27 a28 ports legs lower upper leng reach meter cnt strt goal money litN darkN rng nights fog fund refd brt shrt grp seen tp shr need ordr size hsv mal fai) 1 6 := by
  refine zXi_of (cc := cX10_darkNightsOf) (maxL := 2) hst rfl ⟨by decide, by decide, by decide, by decide⟩ (by decide) rfl (fun z u h => rfl) (Nat.le_of_ble_eq_true rfl) ?_
  intro p e s m args below meth c A Q ls hx hb hml hts hown hK hP hD hA hZ hret hthr hesc hl
  have hCn := hZ.2.2.2
  obtain ⟨H, hHe⟩ : ∃ H : Heap, H = s.heap := ⟨_, rfl⟩
  have hS : va_S A s.heap H [] := by rw [hHe]; exact va_S.rf
  rw [← hHe] at hP ⊢
  have hl : lv_has ls 2 [(0, .ref a0), (1, .int (iI ship))] := hl
  have iX10 : ∀ v ∈ wsX100, v ∈ wsX10_darkNightsOf := by decide +kernel
  have iX4 : ∀ v ∈ wsX40, v ∈ wsX10_darkNightsOf := by decide +kernel
  have iX8 : ∀ v ∈ wsX80, v ∈ wsX10_darkNightsOf := by decide +kernel
  have iX9 : ∀ v ∈ wsX90, v ∈ wsX10_darkNightsOf := by decide +kernel
  have f_10 := hts (.fieldLink RX10 10 "HarborLights" "office" "LHarborLights$Office;") (by decide +kernel)
  have f_62 := hts (.fieldLink RX10 62 "HarborLights$Office" "now" "LHarborLights$State;") (by decide +kernel)
  have f_180 := hts (.fieldLink RX10 180 "HarborLights$State" "ships" "LHarborLights$Ships;") (by decide +kernel)
  have f_207 := hts (.fieldLink RX10 207 "HarborLights$Ships" "darkNights" "[I") (by decide +kernel)
  refine lv_aload_n hx hb dX10_darkNightsOf_0 rfl (lv_at hl 0 rfl) ?_
  refine lv_iload_n hx hb dX10_darkNightsOf_1 rfl (lv_at hl 1 rfl) ?_
  refine zx_callVv (As := [.int (iI ship)]) (rest := []) (wf := fun u => bHLo tA a0 a1 a2 a3 a4 a5 a6 a7 a8 a9 a10 a11 a12 a13 a14 a15 a16 a17 a18 a19 a20 a21 a22 a23 a24 a25 a26 a27 a28 ports legs lower upper leng reach meter cnt strt goal money litN darkN rng nights fog fund refd brt shrt grp seen tp shr need ordr size hsv mal fai) (wfx := fun u => bHLo tA a0 a1 a2 a3 a4 a5 a6 a7 a8 a9 a10 a11 a12 a13 a14 a15 a16 a17 a18 a19 a20 a21 a22 a23 a24 a25 a26 a27 a28 ports legs lower upper leng reach meter cnt strt goal money litN darkN rng nights fog fund refd brt shrt grp seen tp shr need ordr size hsv mal fai) ⟨hx, hb, hml, hown, hts⟩ (c_X10_checkSubscriber l hst K D tA a0 a1 a2 a3 a4 a5 a6 a7 a8 a9 a10 a11 a12 a13 a14 a15 a16 a17 a18 a19 a20 a21 a22 a23 a24 a25 a26 a27 a28 H.size ports legs lower upper leng reach meter cnt strt goal money litN darkN rng nights fog fund refd brt shrt grp seen tp shr need ordr size hsv mal fai ship (by first | assumption | omega) (by first | assumption | omega)) (cwV 1 hts gX10_darkNightsOf_X10_checkSubscriber rfl rfl rfl (by decide +kernel) ⟨Nat.le_of_ble_eq_true rfl, Nat.le_of_ble_eq_true rfl⟩) hK hP hD hS hA hZ [0, 1, 2, 3, 4, 5, 6, 7, 8, 9, 10, 11, 12, 13, 14, 15, 16, 17, 18, 19, 20, 21, 22, 23] [] [0, 1, 2, 3, 4, 5, 6, 7, 8, 9, 10, 11, 12, 13, 14, 15, 16, 17, 18, 19, 20, 21, 22, 23] [0, 1, 2, 3, 4, 5, 6, 7, 8, 9, 10, 11, 12, 13, 14, 15, 16, 17, 18, 19, 20, 21, 22, 23] rfl rfl (by decide) (by decide) (by decide) (by decide) (by decide) (fun _ => rfl) (fun _ => rfl) (ci := 12) (q0 := 0) rfl rfl rfl rfl rfl hl.1 (Nat.le_of_ble_eq_true rfl) dX10_darkNightsOf_2 ⟨Nat.le_of_ble_eq_true rfl, Nat.le_of_ble_eq_true rfl⟩ ?_ ?_
  · intro E ce q9 u H locs hpx hP hD hS hce hcv hcl
    obtain ⟨k_2, rfl⟩ : ∃ q, q = u := ⟨_, rfl⟩
    have hP : va_P D vwCl (bHLo tA a0 a1 a2 a3 a4 a5 a6 a7 a8 a9 a10 a11 a12 a13 a14 a15 a16 a17 a18 a19 a20 a21 a22 a23 a24 a25 a26 a27 a28 ports legs lower upper leng reach meter cnt strt goal money litN darkN rng nights fog fund refd brt shrt grp seen tp shr need ordr size hsv mal fai) H := hP
    have hD : va_D A (bHLo tA a0 a1 a2 a3 a4 a5 a6 a7 a8 a9 a10 a11 a12 a13 a14 a15 a16 a17 a18 a19 a20 a21 a22 a23 a24 a25 a26 a27 a28 ports legs lower upper leng reach meter cnt strt goal money litN darkN rng nights fog fund refd brt shrt grp seen tp shr need ordr size hsv mal fai) := hD
    have x_2 : k_2 = 1 ∧ ¬ (0 ≤ ship ∧ ship < cnt) := hpx.2
    exact hesc E ce q9 k_2 H locs _ _ _ _ _ hce hcv hcl (Nat.le_of_ble_eq_true rfl) (Nat.le_of_ble_eq_true rfl) ⟨hpx.1, show k_2 = 1 ∧ ¬ (0 ≤ ship ∧ ship < cnt) from by exact x_2⟩ hP hD hS
  · intro u H locs p2_1 hP hD hS
    have hP : va_P D vwCl (bHLo tA a0 a1 a2 a3 a4 a5 a6 a7 a8 a9 a10 a11 a12 a13 a14 a15 a16 a17 a18 a19 a20 a21 a22 a23 a24 a25 a26 a27 a28 ports legs lower upper leng reach meter cnt strt goal money litN darkN rng nights fog fund refd brt shrt grp seen tp shr need ordr size hsv mal fai) H := hP
    have hD : va_D A (bHLo tA a0 a1 a2 a3 a4 a5 a6 a7 a8 a9 a10 a11 a12 a13 a14 a15 a16 a17 a18 a19 a20 a21 a22 a23 a24 a25 a26 a27 a28 ports legs lower upper leng reach meter cnt strt goal money litN darkN rng nights fog fund refd brt shrt grp seen tp shr need ordr size hsv mal fai) := hD
    have q_2 : 0 ≤ ship ∧ ship < cnt := p2_1
    refine lv_aload_n hx hb dX10_darkNightsOf_5 rfl (lv_at hl 0 rfl) ?_
    refine va_get (D := D) (ci := 12) (v := .ref a1) (C := RX10) (T := TX10) (N := 9) hx hb hts iX10 hown hK hP 0 rfl rfl 0 (by decide) f_10 (fun _ h9 => h9) rfl dX10_darkNightsOf_6 ?_
    refine va_get (D := D) (ci := 6) (v := .ref a2) (C := RX4) (T := TX4) (N := 3) hx hb hts iX4 hown hK hP 1 rfl rfl 0 (by decide) f_62 (fun _ h9 => h9) rfl dX10_darkNightsOf_9 ?_
    refine va_get (D := D) (ci := 11) (v := .ref a9) (C := RX9) (T := TX9) (N := 8) hx hb hts iX9 hown hK hP 2 rfl rfl 1 (by decide) f_180 (fun _ h9 => h9) rfl dX10_darkNightsOf_12 ?_
    refine va_get (D := D) (ci := 10) (v := .ref a14) (C := RX8) (T := TX8) (N := 6) hx hb hts iX8 hown hK hP 9 rfl rfl 5 (by decide) f_207 (fun _ h9 => h9) rfl dX10_darkNightsOf_15 ?_
    refine lv_iload_n hx hb dX10_darkNightsOf_18 rfl (lv_at hl 1 rfl) ?_
    refine zz_iald hx hb hK hP 14 rfl (by decide) (by omega) dX10_darkNightsOf_19 ?_
    exact hret (darkN ship) () _ _ _ _ _ _ (Nat.le_of_ble_eq_true rfl) (Nat.le_of_ble_eq_true rfl) dX10_darkNightsOf_20 (show (0 ≤ ship ∧ ship < cnt) ∧ (darkN ship) = darkN ship from by exact ⟨q_2, rfl⟩) hP hD hS
