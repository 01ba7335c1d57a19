/-! ===== HarborLightsModel, 1 ===== -/
set_option maxHeartbeats 4000000 in
set_option maxRecDepth 100000 in
theorem c_X11_thrown (l : Launch) (D : va_G) (tA : Nat → ClassId) (a0 a1 a2 a3 a4 a5 a6 a7 a8 a9 a10 : Nat) (sz : Nat) (ms : Int → Int) (mbef : Int → Int) (msav : Int → Int) (misv : Int) (mpast : Int → Int) (mpm : Int) (mthr : Int) (mways : Int → Int) (mnds : Int → Int) (mtkp : Int → Int) (mline : Int → Int) (mlm : Int) (mtxt : Int → Int) (mlen : Int) (mat : Int) (mwr : Int) (merr : Int) (mfail : Int) (mcmd : Int → Int) (mcm : Int) : zMi l yX11_thrown wsX11_thrown ({ frames := 0, cells := 0, slots := 0, locals := 0 }) D tA [.ref a0] (bModel tA a0 a1 a2 a3 a4 a5 a6 a7 a8 a9 a10 ms mbef msav misv mpast mpm mthr mways mnds mtkp mline mlm mtxt mlen mat mwr merr mfail mcmd mcm) sz (fun (z : Int) (u : Unit) => (z = mthr)) (fun (u : Unit) => bModel tA a0 a1 a2 a3 a4 a5 a6 a7 a8 a9 a10 ms mbef msav misv mpast mpm mthr mways mnds mtkp mline mlm mtxt mlen mat mwr merr mfail mcmd mcm) 0 0 := by
  refine zMi_of (cc := cX11_thrown) (maxL := 1) (by decide) rfl (fun z u h => rfl) (Nat.le_of_ble_eq_true rfl) ?_
  intro p e s m args below meth c A Q ls hx hb hml hts hown hK hP hD hA hret hl
  obtain ⟨H, hHe⟩ : ∃ H : Heap, H = s.heap := ⟨_, rfl⟩
  have hS : va_S A s.heap H [] := by rw [hHe]; exact va_S.rf
  rw [← hHe] at hP ⊢
  have hl : lv_has ls 1 [(0, .ref a0)] := hl
  have iX11 : ∀ v ∈ wsX110, v ∈ wsX11_thrown := by decide +kernel
  have f_49 := hts (.fieldLink RX11 49 "HarborLightsModel" "thrown" "I") (by decide +kernel)
  refine lv_aload_n hx hb dX11_thrown_0 rfl (lv_at hl 0 rfl) ?_
  refine va_get (D := D) (ci := 13) (v := .int (iI mthr)) (C := RX11) (T := TX11) (N := 20) hx hb hts iX11 hown hK hP 0 rfl rfl 6 (by decide) f_49 (fun _ h9 => h9) rfl dX11_thrown_1 ?_
  exact hret mthr () _ _ _ _ dX11_thrown_4 (show mthr = mthr from by rfl) hP hD hS

set_option maxHeartbeats 4000000 in
set_option maxRecDepth 100000 in
theorem c_X11_in (l : Launch) (D : va_G) (tA : Nat → ClassId) (sz : Nat) (v : Int) (lo : Int) (hi : Int) (r_v : -2147483648 ≤ v ∧ v ≤ 2147483647) (r_lo : -2147483648 ≤ lo ∧ lo ≤ 2147483647) (r_hi : -2147483648 ≤ hi ∧ hi ≤ 2147483647) : zMi l yX11_in wsX11_in ({ frames := 0, cells := 0, slots := 0, locals := 0 }) D tA [.int (iI v), .int (iI lo), .int (iI hi)] ([]) sz (fun (z : Int) (u : Unit) => ((z = 1 ∧ lo ≤ v ∧ v ≤ hi) ∨ (z = 0 ∧ ¬ (lo ≤ v ∧ v ≤ hi)))) (fun (u : Unit) => []) 0 0 := by
  refine zMi_of (cc := cX11_in) (maxL := 3) (by decide) rfl (fun z u h => zbool z (by omega)) (Nat.le_of_ble_eq_true rfl) ?_
  intro p e s m args below meth c A Q ls hx hb hml hts hown hK hP hD hA hret hl
  obtain ⟨H, hHe⟩ : ∃ H : Heap, H = s.heap := ⟨_, rfl⟩
  have hS : va_S A s.heap H [] := by rw [hHe]; exact va_S.rf
  rw [← hHe] at hP ⊢
  have hl : lv_has ls 3 [(0, .int (iI v)), (1, .int (iI lo)), (2, .int (iI hi))] := hl
  refine lv_iload_n hx hb dX11_in_0 rfl (lv_at hl 0 rfl) ?_
  refine lv_iload_n hx hb dX11_in_1 rfl (lv_at hl 1 rfl) ?_
  refine zz_icmp_lt (tgt := 14) hx hb dX11_in_2 (by decide) (by omega) (by omega) (fun c_2 => ?_) (fun c_2 => ?_)
  · refine zz_iconst hx hb dX11_in_14 ?_
    exact hret 0 () _ _ _ _ dX11_in_15 (show ((0 : Int) = 1 ∧ lo ≤ v ∧ v ≤ hi) ∨ ((0 : Int) = 0 ∧ ¬ (lo ≤ v ∧ v ≤ hi)) from by omega) hP hD hS
  · refine lv_iload_n hx hb dX11_in_5 rfl (lv_at hl 0 rfl) ?_
    refine lv_iload_n hx hb dX11_in_6 rfl (lv_at hl 2 rfl) ?_
    refine zz_icmp_gt (tgt := 14) hx hb dX11_in_7 (by decide) (by omega) (by omega) (fun c_7 => ?_) (fun c_7 => ?_)
    · refine zz_iconst hx hb dX11_in_14 ?_
      exact hret 0 () _ _ _ _ dX11_in_15 (show ((0 : Int) = 1 ∧ lo ≤ v ∧ v ≤ hi) ∨ ((0 : Int) = 0 ∧ ¬ (lo ≤ v ∧ v ≤ hi)) from by omega) hP hD hS
    · refine zz_iconst hx hb dX11_in_10 ?_
      refine lv_goto (tgt := 15) hx hb dX11_in_11 (by decide) ?_
      exact hret 1 () _ _ _ _ dX11_in_15 (show ((1 : Int) = 1 ∧ lo ≤ v ∧ v ≤ hi) ∨ ((1 : Int) = 0 ∧ ¬ (lo ≤ v ∧ v ≤ hi)) from by omega) hP hD hS

set_option maxHeartbeats 4000000 in
set_option maxRecDepth 100000 in
theorem c_X11_keep (l : Launch) (D : va_G) (tA : Nat → ClassId) (a0 a1 a2 a3 a4 a5 a6 a7 a8 a9 a10 : Nat) (sz : Nat) (ms : Int → Int) (mbef : Int → Int) (msav : Int → Int) (misv : Int) (mpast : Int → Int) (mpm : Int) (mthr : Int) (mways : Int → Int) (mnds : Int → Int) (mtkp : Int → Int) (mline : Int → Int) (mlm : Int) (mtxt : Int → Int) (mlen : Int) (mat : Int) (mwr : Int) (merr : Int) (mfail : Int) (mcmd : Int → Int) (mcm : Int) : zMv l yX11_keep wsX11_keep ({ frames := 1, cells := 0, slots := 0, locals := 40 }) D tA [.ref a0] (bModel tA a0 a1 a2 a3 a4 a5 a6 a7 a8 a9 a10 ms mbef msav misv mpast mpm mthr mways mnds mtkp mline mlm mtxt mlen mat mwr merr mfail mcmd mcm) sz (fun (u : Unit) => True) (fun (u : Unit) => bModel tA a0 a1 a2 a3 a4 a5 a6 a7 a8 a9 a10 ms ms msav misv mpast mpm 0 mways mnds mtkp mline mlm mtxt mlen mat mwr merr mfail mcmd mcm) 0 0 := by
  refine zMv_of (cc := cX11_keep) (maxL := 1) (by decide) rfl (Nat.le_of_ble_eq_true rfl) ?_
  intro p e s m args below meth c A Q ls hx hb hml hts hown hK hP hD hA hret hl
  obtain ⟨H, hHe⟩ : ∃ H : Heap, H = s.heap := ⟨_, rfl⟩
  have hS : va_S A s.heap H [] := by rw [hHe]; exact va_S.rf
  rw [← hHe] at hP ⊢
  have hl : lv_has ls 1 [(0, .ref a0)] := hl
  have iX11 : ∀ v ∈ wsX110, v ∈ wsX11_keep := by decide +kernel
  have f_9 := hts (.fieldLink RX11 9 "HarborLightsModel" "s" "[I") (by decide +kernel)
  have f_13 := hts (.fieldLink RX11 13 "HarborLightsModel" "before" "[I") (by decide +kernel)
  have f_49 := hts (.fieldLink RX11 49 "HarborLightsModel" "thrown" "I") (by decide +kernel)
  have l_52 := hts (.methodLink RX11 52 arraycopyName) (by decide +kernel)
  have ln_52 := hts (.native arraycopyName) (by decide +kernel)
  have ls_52 := hts (.static arraycopyName) (by decide +kernel)
  have li_52 := hts (.initialized "java/lang/System") (by decide +kernel)
  refine lv_aload_n hx hb dX11_keep_0 rfl (lv_at hl 0 rfl) ?_
  refine zz_iconst hx hb dX11_keep_1 ?_
  refine va_put (D := D) (ci := 13) (v := .int (iI 0)) (ty := .int) (C := RX11) (T := TX11) (N := 20) hx hb hts iX11 tyX11 tyX11_ok nmX11 hown hK hP hD hS 0 rfl rfl 6 (by decide) f_49 (fun _ h9 => h9) rfl (by decide +kernel) rfl rfl (Nat.le_of_ble_eq_true rfl) dX11_keep_2 (fun H locs hP hD hS => ?_)
  have hP : va_P D vwCl (bModel tA a0 a1 a2 a3 a4 a5 a6 a7 a8 a9 a10 ms mbef msav misv mpast mpm 0 mways mnds mtkp mline mlm mtxt mlen mat mwr merr mfail mcmd mcm) H := hP
  have hD : va_D A (bModel tA a0 a1 a2 a3 a4 a5 a6 a7 a8 a9 a10 ms mbef msav misv mpast mpm 0 mways mnds mtkp mline mlm mtxt mlen mat mwr merr mfail mcmd mcm) := hD
  refine lv_aload_n hx hb dX11_keep_5 rfl (lv_at hl 0 rfl) ?_
  refine va_get (D := D) (ci := 13) (v := .ref a1) (C := RX11) (T := TX11) (N := 20) hx hb hts iX11 hown hK hP 0 rfl rfl 0 (by decide) f_9 (fun _ h9 => h9) rfl dX11_keep_6 ?_
  refine zz_iconst hx hb dX11_keep_9 ?_
  refine lv_aload_n hx hb dX11_keep_10 rfl (lv_at hl 0 rfl) ?_
  refine va_get (D := D) (ci := 13) (v := .ref a2) (C := RX11) (T := TX11) (N := 20) hx hb hts iX11 hown hK hP 0 rfl rfl 1 (by decide) f_13 (fun _ h9 => h9) rfl dX11_keep_11 ?_
  refine zz_iconst hx hb dX11_keep_14 ?_
  refine zz_sipush hx hb dX11_keep_15 (by decide) ?_
  refine zz_copyAll hx hb (by rw [hml]; exact hl.1.symm) hown l_52 ln_52 ls_52 li_52 (Nat.le_of_ble_eq_true rfl) (Nat.le_of_ble_eq_true rfl) hK hP hD hS 1 2 rfl rfl (by decide) rfl dX11_keep_18 (fun H locs hP hD hS => ?_)
  have hP : va_P D vwCl (bModel tA a0 a1 a2 a3 a4 a5 a6 a7 a8 a9 a10 ms ms msav misv mpast mpm 0 mways mnds mtkp mline mlm mtxt mlen mat mwr merr mfail mcmd mcm) H := hP
  have hD : va_D A (bModel tA a0 a1 a2 a3 a4 a5 a6 a7 a8 a9 a10 ms ms msav misv mpast mpm 0 mways mnds mtkp mline mlm mtxt mlen mat mwr merr mfail mcmd mcm) := hD
  exact hret () _ _ _ _ dX11_keep_21 True.intro hP hD hS

set_option maxHeartbeats 4000000 in
set_option maxRecDepth 100000 in
theorem c_X11_fails (l : Launch) (D : va_G) (tA : Nat → ClassId) (a0 a1 a2 a3 a4 a5 a6 a7 a8 a9 a10 : Nat) (sz : Nat) (ms : Int → Int) (mbef : Int → Int) (msav : Int → Int) (misv : Int) (mpast : Int → Int) (mpm : Int) (mthr : Int) (mways : Int → Int) (mnds : Int → Int) (mtkp : Int → Int) (mline : Int → Int) (mlm : Int) (mtxt : Int → Int) (mlen : Int) (mat : Int) (mwr : Int) (merr : Int) (mfail : Int) (mcmd : Int → Int) (mcm : Int) (place : Int) (r_place : -2147483648 ≤ place ∧ place ≤ 2147483647) : zMi l yX11_fails wsX11_fails ({ frames := 0, cells := 0, slots := 0, locals := 0 }) D tA [.ref a0, .int (iI place)] (bModel tA a0 a1 a2 a3 a4 a5 a6 a7 a8 a9 a10 ms mbef msav misv mpast mpm mthr mways mnds mtkp mline mlm mtxt mlen mat mwr merr mfail mcmd mcm) sz (fun (z : Int) (u : Unit) => (z = 0)) (fun (u : Unit) => bModel tA a0 a1 a2 a3 a4 a5 a6 a7 a8 a9 a10 ms mbef msav misv mpast mpm place mways mnds mtkp mline mlm mtxt mlen mat mwr merr mfail mcmd mcm) 0 0 := by
  refine zMi_of (cc := cX11_fails) (maxL := 2) (by decide) rfl (fun z u h => rfl) (Nat.le_of_ble_eq_true rfl) ?_
  intro p e s m args below meth c A Q ls hx hb hml hts hown hK hP hD hA hret hl
  obtain ⟨H, hHe⟩ : ∃ H : Heap, H = s.heap := ⟨_, rfl⟩
  have hS : va_S A s.heap H [] := by rw [hHe]; exact va_S.rf
  rw [← hHe] at hP ⊢
  have hl : lv_has ls 2 [(0, .ref a0), (1, .int (iI place))] := hl
  have iX11 : ∀ v ∈ wsX110, v ∈ wsX11_fails := by decide +kernel
  have f_49 := hts (.fieldLink RX11 49 "HarborLightsModel" "thrown" "I") (by decide +kernel)
  refine lv_aload_n hx hb dX11_fails_0 rfl (lv_at hl 0 rfl) ?_
  refine lv_iload_n hx hb dX11_fails_1 rfl (lv_at hl 1 rfl) ?_
  refine va_put (D := D) (ci := 13) (v := .int (iI place)) (ty := .int) (C := RX11) (T := TX11) (N := 20) hx hb hts iX11 tyX11 tyX11_ok nmX11 hown hK hP hD hS 0 rfl rfl 6 (by decide) f_49 (fun _ h9 => h9) rfl (by decide +kernel) rfl rfl (Nat.le_of_ble_eq_true rfl) dX11_fails_2 (fun H locs hP hD hS => ?_)
  have hP : va_P D vwCl (bModel tA a0 a1 a2 a3 a4 a5 a6 a7 a8 a9 a10 ms mbef msav misv mpast mpm place mways mnds mtkp mline mlm mtxt mlen mat mwr merr mfail mcmd mcm) H := hP
  have hD : va_D A (bModel tA a0 a1 a2 a3 a4 a5 a6 a7 a8 a9 a10 ms mbef msav misv mpast mpm place mways mnds mtkp mline mlm mtxt mlen mat mwr merr mfail mcmd mcm) := hD
  refine zz_iconst hx hb dX11_fails_5 ?_
  exact hret 0 () _ _ _ _ dX11_fails_6 (show (0 : Int) = 0 from by omega) hP hD hS

set_option maxHeartbeats 4000000 in
set_option maxRecDepth 100000 in
theorem c_X11_isThere (l : Launch) (D : va_G) (tA : Nat → ClassId) (a0 a1 a2 a3 a4 a5 a6 a7 a8 a9 a10 : Nat) (sz : Nat) (ms : Int → Int) (mbef : Int → Int) (msav : Int → Int) (misv : Int) (mpast : Int → Int) (mpm : Int) (mthr : Int) (mways : Int → Int) (mnds : Int → Int) (mtkp : Int → Int) (mline : Int → Int) (mlm : Int) (mtxt : Int → Int) (mlen : Int) (mat : Int) (mwr : Int) (merr : Int) (mfail : Int) (mcmd : Int → Int) (mcm : Int) (b : Int) (r_b : b = 0 ∨ b = 1) : zMi l yX11_isThere wsX11_isThere ({ frames := 0, cells := 0, slots := 0, locals := 0 }) D tA [.ref a0, .int (iI b)] (bModel tA a0 a1 a2 a3 a4 a5 a6 a7 a8 a9 a10 ms mbef msav misv mpast mpm mthr mways mnds mtkp mline mlm mtxt mlen mat mwr merr mfail mcmd mcm) sz (fun (z : Int) (u : Unit) => (z = b)) (fun (u : Unit) => bModel tA a0 a1 a2 a3 a4 a5 a6 a7 a8 a9 a10 ms mbef msav misv mpast mpm (1 - b) mways mnds mtkp mline mlm mtxt mlen mat mwr merr mfail mcmd mcm) 0 0 := by
  refine zMi_of (cc := cX11_isThere) (maxL := 2) (by decide) rfl (fun z u h => zbool z (by omega)) (Nat.le_of_ble_eq_true rfl) ?_
  intro p e s m args below meth c A Q ls hx hb hml hts hown hK hP hD hA hret hl
  obtain ⟨H, hHe⟩ : ∃ H : Heap, H = s.heap := ⟨_, rfl⟩
  have hS : va_S A s.heap H [] := by rw [hHe]; exact va_S.rf
  rw [← hHe] at hP ⊢
  have hl : lv_has ls 2 [(0, .ref a0), (1, .int (iI b))] := hl
  have iX11 : ∀ v ∈ wsX110, v ∈ wsX11_isThere := by decide +kernel
  have f_49 := hts (.fieldLink RX11 49 "HarborLightsModel" "thrown" "I") (by decide +kernel)
  refine lv_aload_n hx hb dX11_isThere_0 rfl (lv_at hl 0 rfl) ?_
  refine lv_iload_n hx hb dX11_isThere_1 rfl (lv_at hl 1 rfl) ?_
  refine zz_if_eq (tgt := 9) hx hb dX11_isThere_2 (by decide) (by omega) (fun c_2 => ?_) (fun c_2 => ?_)
  · refine zz_iconst hx hb dX11_isThere_9 ?_
    refine va_put (D := D) (ci := 13) (v := .int (iI 1)) (ty := .int) (C := RX11) (T := TX11) (N := 20) hx hb hts iX11 tyX11 tyX11_ok nmX11 hown hK hP hD hS 0 rfl rfl 6 (by decide) f_49 (fun _ h9 => h9) rfl (by decide +kernel) rfl rfl (Nat.le_of_ble_eq_true rfl) dX11_isThere_10 (fun H locs hP hD hS => ?_)
    have hP : va_P D vwCl (bModel tA a0 a1 a2 a3 a4 a5 a6 a7 a8 a9 a10 ms mbef msav misv mpast mpm 1 mways mnds mtkp mline mlm mtxt mlen mat mwr merr mfail mcmd mcm) H := hP
    have hD : va_D A (bModel tA a0 a1 a2 a3 a4 a5 a6 a7 a8 a9 a10 ms mbef msav misv mpast mpm 1 mways mnds mtkp mline mlm mtxt mlen mat mwr merr mfail mcmd mcm) := hD
    refine lv_iload_n hx hb dX11_isThere_13 rfl (lv_at hl 1 rfl) ?_
    have e_mthr : (1 : Int) = (1 - b) := by omega
    have hP : va_P D vwCl (bModel tA a0 a1 a2 a3 a4 a5 a6 a7 a8 a9 a10 ms mbef msav misv mpast mpm (1 - b) mways mnds mtkp mline mlm mtxt mlen mat mwr merr mfail mcmd mcm) H := by rw [← e_mthr]; exact hP
    have hD : va_D A (bModel tA a0 a1 a2 a3 a4 a5 a6 a7 a8 a9 a10 ms mbef msav misv mpast mpm (1 - b) mways mnds mtkp mline mlm mtxt mlen mat mwr merr mfail mcmd mcm) := by rw [← e_mthr]; exact hD
    exact hret b () _ _ _ _ dX11_isThere_14 (show b = b from by rfl) hP hD hS
  · refine zz_iconst hx hb dX11_isThere_5 ?_
    refine lv_goto (tgt := 10) hx hb dX11_isThere_6 (by decide) ?_
    refine va_put (D := D) (ci := 13) (v := .int (iI 0)) (ty := .int) (C := RX11) (T := TX11) (N := 20) hx hb hts iX11 tyX11 tyX11_ok nmX11 hown hK hP hD hS 0 rfl rfl 6 (by decide) f_49 (fun _ h9 => h9) rfl (by decide +kernel) rfl rfl (Nat.le_of_ble_eq_true rfl) dX11_isThere_10 (fun H locs hP hD hS => ?_)
    have hP : va_P D vwCl (bModel tA a0 a1 a2 a3 a4 a5 a6 a7 a8 a9 a10 ms mbef msav misv mpast mpm 0 mways mnds mtkp mline mlm mtxt mlen mat mwr merr mfail mcmd mcm) H := hP
    have hD : va_D A (bModel tA a0 a1 a2 a3 a4 a5 a6 a7 a8 a9 a10 ms mbef msav misv mpast mpm 0 mways mnds mtkp mline mlm mtxt mlen mat mwr merr mfail mcmd mcm) := hD
    refine lv_iload_n hx hb dX11_isThere_13 rfl (lv_at hl 1 rfl) ?_
    have e_mthr : (0 : Int) = (1 - b) := by omega
    have hP : va_P D vwCl (bModel tA a0 a1 a2 a3 a4 a5 a6 a7 a8 a9 a10 ms mbef msav misv mpast mpm (1 - b) mways mnds mtkp mline mlm mtxt mlen mat mwr merr mfail mcmd mcm) H := by rw [← e_mthr]; exact hP
    have hD : va_D A (bModel tA a0 a1 a2 a3 a4 a5 a6 a7 a8 a9 a10 ms mbef msav misv mpast mpm (1 - b) mways mnds mtkp mline mlm mtxt mlen mat mwr merr mfail mcmd mcm) := by rw [← e_mthr]; exact hD
    exact hret b () _ _ _ _ dX11_isThere_14 (show b = b from by rfl) hP hD hS

set_option maxHeartbeats 4000000 in
set_option maxRecDepth 100000 in
theorem c_X11_ends (l : Launch) (D : va_G) (tA : Nat → ClassId) (a0 a1 a2 a3 a4 a5 a6 a7 a8 a9 a10 : Nat) (sz : Nat) (ms : Int → Int) (mbef : Int → Int) (msav : Int → Int) (misv : Int) (mpast : Int → Int) (mpm : Int) (mthr : Int) (mways : Int → Int) (mnds : Int → Int) (mtkp : Int → Int) (mline : Int → Int) (mlm : Int) (mtxt : Int → Int) (mlen : Int) (mat : Int) (mwr : Int) (merr : Int) (mfail : Int) (mcmd : Int → Int) (mcm : Int) (ans : Int) (hpm : 0 ≤ mpm ∧ mpm ≤ 8) (hth : 0 ≤ mthr ∧ mthr ≤ 10) : zMi l yX11_ends wsX11_ends ({ frames := 1, cells := 0, slots := 0, locals := 40 }) D tA [.ref a0, .int (iI ans)] (bModel tA a0 a1 a2 a3 a4 a5 a6 a7 a8 a9 a10 ms mbef msav misv mpast mpm mthr mways mnds mtkp mline mlm mtxt mlen mat mwr merr mfail mcmd mcm) sz (fun (z : Int) (u : Unit) => (((0 : Int) < mthr ∧ z = 0) ∨ (mthr = (0 : Int) ∧ z = ans))) (fun (u : Unit) => bModel tA a0 a1 a2 a3 a4 a5 a6 a7 a8 a9 a10 (if 0 < mthr then mbef else ms) mbef msav misv (if 0 < mthr then mpast else pastP mbef mpm mpast) (if 0 < mthr then mpm else if mpm = 8 then 8 else mpm + 1) mthr mways mnds mtkp mline mlm mtxt mlen mat mwr merr mfail mcmd mcm) 0 0 := by
  refine zMi_of (cc := cX11_ends) (maxL := 2) (by decide) rfl (fun z u h => rfl) (Nat.le_of_ble_eq_true rfl) ?_
  intro p e s m args below meth c A Q ls hx hb hml hts hown hK hP hD hA hret hl
  obtain ⟨H, hHe⟩ : ∃ H : Heap, H = s.heap := ⟨_, rfl⟩
  have hS : va_S A s.heap H [] := by rw [hHe]; exact va_S.rf
  rw [← hHe] at hP ⊢
  have hl : lv_has ls 2 [(0, .ref a0), (1, .int (iI ans))] := hl
  have iX11 : ∀ v ∈ wsX110, v ∈ wsX11_ends := by decide +kernel
  have f_9 := hts (.fieldLink RX11 9 "HarborLightsModel" "s" "[I") (by decide +kernel)
  have f_13 := hts (.fieldLink RX11 13 "HarborLightsModel" "before" "[I") (by decide +kernel)
  have f_19 := hts (.fieldLink RX11 19 "HarborLightsModel" "past" "[I") (by decide +kernel)
  have f_49 := hts (.fieldLink RX11 49 "HarborLightsModel" "thrown" "I") (by decide +kernel)
  have f_58 := hts (.fieldLink RX11 58 "HarborLightsModel" "pastMany" "I") (by decide +kernel)
  have l_52 := hts (.methodLink RX11 52 arraycopyName) (by decide +kernel)
  have ln_52 := hts (.native arraycopyName) (by decide +kernel)
  have ls_52 := hts (.static arraycopyName) (by decide +kernel)
  have li_52 := hts (.initialized "java/lang/System") (by decide +kernel)
  refine lv_aload_n hx hb dX11_ends_0 rfl (lv_at hl 0 rfl) ?_
  refine va_get (D := D) (ci := 13) (v := .int (iI mthr)) (C := RX11) (T := TX11) (N := 20) hx hb hts iX11 hown hK hP 0 rfl rfl 6 (by decide) f_49 (fun _ h9 => h9) rfl dX11_ends_1 ?_
  refine zz_if_le (tgt := 25) hx hb dX11_ends_4 (by decide) (by omega) (fun c_4 => ?_) (fun c_4 => ?_)
  · refine lv_aload_n hx hb dX11_ends_25 rfl (lv_at hl 0 rfl) ?_
    refine va_get (D := D) (ci := 13) (v := .int (iI mpm)) (C := RX11) (T := TX11) (N := 20) hx hb hts iX11 hown hK hP 0 rfl rfl 5 (by decide) f_58 (fun _ h9 => h9) rfl dX11_ends_26 ?_
    refine zz_bipush hx hb dX11_ends_29 (by decide) ?_
    refine zz_icmp_ne (tgt := 62) hx hb dX11_ends_31 (by decide) (by omega) (by decide) (fun c_31 => ?_) (fun c_31 => ?_)
    · refine lv_aload_n hx hb dX11_ends_62 rfl (lv_at hl 0 rfl) ?_
      refine va_get (D := D) (ci := 13) (v := .ref a2) (C := RX11) (T := TX11) (N := 20) hx hb hts iX11 hown hK hP 0 rfl rfl 1 (by decide) f_13 (fun _ h9 => h9) rfl dX11_ends_63 ?_
      refine zz_iconst hx hb dX11_ends_66 ?_
      refine lv_aload_n hx hb dX11_ends_67 rfl (lv_at hl 0 rfl) ?_
      refine va_get (D := D) (ci := 13) (v := .ref a4) (C := RX11) (T := TX11) (N := 20) hx hb hts iX11 hown hK hP 0 rfl rfl 4 (by decide) f_19 (fun _ h9 => h9) rfl dX11_ends_68 ?_
      refine zz_sipush hx hb dX11_ends_71 (by decide) ?_
      refine lv_aload_n hx hb dX11_ends_74 rfl (lv_at hl 0 rfl) ?_
      refine va_get (D := D) (ci := 13) (v := .int (iI mpm)) (C := RX11) (T := TX11) (N := 20) hx hb hts iX11 hown hK hP 0 rfl rfl 5 (by decide) f_58 (fun _ h9 => h9) rfl dX11_ends_75 ?_
      refine zz_imul hx hb dX11_ends_78 ?_
      refine zz_sipush hx hb dX11_ends_79 (by decide) ?_
      refine zz_copyi hx hb (by rw [hml]; exact hl.1.symm) hown l_52 ln_52 ls_52 li_52 (Nat.le_of_ble_eq_true rfl) (Nat.le_of_ble_eq_true rfl) hK hP hD hS 2 4 rfl rfl (by decide) (by decide) (by omega) dX11_ends_82 (fun H locs hP hD hS => ?_)
      have hP : va_P D vwCl (bModel tA a0 a1 a2 a3 a4 a5 a6 a7 a8 a9 a10 ms mbef msav misv (zCpy mbef mpast 0 (337 * mpm) 337) mpm mthr mways mnds mtkp mline mlm mtxt mlen mat mwr merr mfail mcmd mcm) H := hP
      have hD : va_D A (bModel tA a0 a1 a2 a3 a4 a5 a6 a7 a8 a9 a10 ms mbef msav misv (zCpy mbef mpast 0 (337 * mpm) 337) mpm mthr mways mnds mtkp mline mlm mtxt mlen mat mwr merr mfail mcmd mcm) := hD
      refine lv_aload_n hx hb dX11_ends_85 rfl (lv_at hl 0 rfl) ?_
      refine lv_dup hx hb dX11_ends_86 rfl ?_
      refine va_get (D := D) (ci := 13) (v := .int (iI mpm)) (C := RX11) (T := TX11) (N := 20) hx hb hts iX11 hown hK hP 0 rfl rfl 5 (by decide) f_58 (fun _ h9 => h9) rfl dX11_ends_87 ?_
      refine zz_iconst hx hb dX11_ends_90 ?_
      refine zz_iadd hx hb dX11_ends_91 ?_
      refine va_put (D := D) (ci := 13) (v := .int (iI (mpm + 1))) (ty := .int) (C := RX11) (T := TX11) (N := 20) hx hb hts iX11 tyX11 tyX11_ok nmX11 hown hK hP hD hS 0 rfl rfl 5 (by decide) f_58 (fun _ h9 => h9) rfl (by decide +kernel) rfl rfl (Nat.le_of_ble_eq_true rfl) dX11_ends_92 (fun H locs hP hD hS => ?_)
      have hP : va_P D vwCl (bModel tA a0 a1 a2 a3 a4 a5 a6 a7 a8 a9 a10 ms mbef msav misv (zCpy mbef mpast 0 (337 * mpm) 337) (mpm + 1) mthr mways mnds mtkp mline mlm mtxt mlen mat mwr merr mfail mcmd mcm) H := hP
      have hD : va_D A (bModel tA a0 a1 a2 a3 a4 a5 a6 a7 a8 a9 a10 ms mbef msav misv (zCpy mbef mpast 0 (337 * mpm) 337) (mpm + 1) mthr mways mnds mtkp mline mlm mtxt mlen mat mwr merr mfail mcmd mcm) := hD
      refine lv_iload_n hx hb dX11_ends_95 rfl (lv_at hl 1 rfl) ?_
      have e_ms : (ms : Int → Int) = (if 0 < mthr then mbef else ms) := by first | rw [if_pos (by omega)] | rw [if_neg (by omega)]
      have hP : va_P D vwCl (bModel tA a0 a1 a2 a3 a4 a5 a6 a7 a8 a9 a10 (if 0 < mthr then mbef else ms) mbef msav misv (zCpy mbef mpast 0 (337 * mpm) 337) (mpm + 1) mthr mways mnds mtkp mline mlm mtxt mlen mat mwr merr mfail mcmd mcm) H := by rw [← e_ms]; exact hP
      have hD : va_D A (bModel tA a0 a1 a2 a3 a4 a5 a6 a7 a8 a9 a10 (if 0 < mthr then mbef else ms) mbef msav misv (zCpy mbef mpast 0 (337 * mpm) 337) (mpm + 1) mthr mways mnds mtkp mline mlm mtxt mlen mat mwr merr mfail mcmd mcm) := by rw [← e_ms]; exact hD
      have e_mpast : ((zCpy mbef mpast 0 (337 * mpm) 337) : Int → Int) = (if 0 < mthr then mpast else pastP mbef mpm mpast) := by first | rw [if_pos (by omega)] | (rw [if_neg (by omega)]; unfold pastP; first | (rw [c_31]; exact (if_pos rfl).symm) | exact (if_neg c_31).symm)
      rw [e_mpast] at hP hD
      have e_mpm : ((mpm + 1) : Int) = (if 0 < mthr then mpm else if mpm = 8 then 8 else mpm + 1) := by first | rw [if_pos (by omega)] | (rw [if_neg (by omega)]; first | (rw [if_pos (by omega)]; omega) | (rw [if_neg (by omega)]))
      rw [e_mpm] at hP hD
      exact hret ans () _ _ _ _ dX11_ends_96 (show ((0 : Int) < mthr ∧ ans = 0) ∨ (mthr = (0 : Int) ∧ ans = ans) from by omega) hP hD hS
    · refine lv_aload_n hx hb dX11_ends_34 rfl (lv_at hl 0 rfl) ?_
      refine va_get (D := D) (ci := 13) (v := .ref a4) (C := RX11) (T := TX11) (N := 20) hx hb hts iX11 hown hK hP 0 rfl rfl 4 (by decide) f_19 (fun _ h9 => h9) rfl dX11_ends_35 ?_
      refine zz_sipush hx hb dX11_ends_38 (by decide) ?_
      refine lv_aload_n hx hb dX11_ends_41 rfl (lv_at hl 0 rfl) ?_
      refine va_get (D := D) (ci := 13) (v := .ref a4) (C := RX11) (T := TX11) (N := 20) hx hb hts iX11 hown hK hP 0 rfl rfl 4 (by decide) f_19 (fun _ h9 => h9) rfl dX11_ends_42 ?_
      refine zz_iconst hx hb dX11_ends_45 ?_
      refine zz_sipush hx hb dX11_ends_46 (by decide) ?_
      refine zz_copyi hx hb (by rw [hml]; exact hl.1.symm) hown l_52 ln_52 ls_52 li_52 (Nat.le_of_ble_eq_true rfl) (Nat.le_of_ble_eq_true rfl) hK hP hD hS 4 4 rfl rfl (by decide) (by decide) (by omega) dX11_ends_49 (fun H locs hP hD hS => ?_)
      have hP : va_P D vwCl (bModel tA a0 a1 a2 a3 a4 a5 a6 a7 a8 a9 a10 ms mbef msav misv (zCpy mpast mpast 337 0 2359) mpm mthr mways mnds mtkp mline mlm mtxt mlen mat mwr merr mfail mcmd mcm) H := hP
      have hD : va_D A (bModel tA a0 a1 a2 a3 a4 a5 a6 a7 a8 a9 a10 ms mbef msav misv (zCpy mpast mpast 337 0 2359) mpm mthr mways mnds mtkp mline mlm mtxt mlen mat mwr merr mfail mcmd mcm) := hD
      refine lv_aload_n hx hb dX11_ends_52 rfl (lv_at hl 0 rfl) ?_
      refine lv_dup hx hb dX11_ends_53 rfl ?_
      refine va_get (D := D) (ci := 13) (v := .int (iI mpm)) (C := RX11) (T := TX11) (N := 20) hx hb hts iX11 hown hK hP 0 rfl rfl 5 (by decide) f_58 (fun _ h9 => h9) rfl dX11_ends_54 ?_
      refine zz_iconst hx hb dX11_ends_57 ?_
      refine zz_isub hx hb dX11_ends_58 ?_
      refine va_put (D := D) (ci := 13) (v := .int (iI (mpm - 1))) (ty := .int) (C := RX11) (T := TX11) (N := 20) hx hb hts iX11 tyX11 tyX11_ok nmX11 hown hK hP hD hS 0 rfl rfl 5 (by decide) f_58 (fun _ h9 => h9) rfl (by decide +kernel) rfl rfl (Nat.le_of_ble_eq_true rfl) dX11_ends_59 (fun H locs hP hD hS => ?_)
      have hP : va_P D vwCl (bModel tA a0 a1 a2 a3 a4 a5 a6 a7 a8 a9 a10 ms mbef msav misv (zCpy mpast mpast 337 0 2359) (mpm - 1) mthr mways mnds mtkp mline mlm mtxt mlen mat mwr merr mfail mcmd mcm) H := hP
      have hD : va_D A (bModel tA a0 a1 a2 a3 a4 a5 a6 a7 a8 a9 a10 ms mbef msav misv (zCpy mpast mpast 337 0 2359) (mpm - 1) mthr mways mnds mtkp mline mlm mtxt mlen mat mwr merr mfail mcmd mcm) := hD
      refine lv_aload_n hx hb dX11_ends_62 rfl (lv_at hl 0 rfl) ?_
      refine va_get (D := D) (ci := 13) (v := .ref a2) (C := RX11) (T := TX11) (N := 20) hx hb hts iX11 hown hK hP 0 rfl rfl 1 (by decide) f_13 (fun _ h9 => h9) rfl dX11_ends_63 ?_
      refine zz_iconst hx hb dX11_ends_66 ?_
      refine lv_aload_n hx hb dX11_ends_67 rfl (lv_at hl 0 rfl) ?_
      refine va_get (D := D) (ci := 13) (v := .ref a4) (C := RX11) (T := TX11) (N := 20) hx hb hts iX11 hown hK hP 0 rfl rfl 4 (by decide) f_19 (fun _ h9 => h9) rfl dX11_ends_68 ?_
      refine zz_sipush hx hb dX11_ends_71 (by decide) ?_
      refine lv_aload_n hx hb dX11_ends_74 rfl (lv_at hl 0 rfl) ?_
      refine va_get (D := D) (ci := 13) (v := .int (iI (mpm - 1))) (C := RX11) (T := TX11) (N := 20) hx hb hts iX11 hown hK hP 0 rfl rfl 5 (by decide) f_58 (fun _ h9 => h9) rfl dX11_ends_75 ?_
      refine zz_imul hx hb dX11_ends_78 ?_
      refine zz_sipush hx hb dX11_ends_79 (by decide) ?_
      refine zz_copyi hx hb (by rw [hml]; exact hl.1.symm) hown l_52 ln_52 ls_52 li_52 (Nat.le_of_ble_eq_true rfl) (Nat.le_of_ble_eq_true rfl) hK hP hD hS 2 4 rfl rfl (by decide) (by decide) (by omega) dX11_ends_82 (fun H locs hP hD hS => ?_)
      have hP : va_P D vwCl (bModel tA a0 a1 a2 a3 a4 a5 a6 a7 a8 a9 a10 ms mbef msav misv (zCpy mbef (zCpy mpast mpast 337 0 2359) 0 (337 * (mpm - 1)) 337) (mpm - 1) mthr mways mnds mtkp mline mlm mtxt mlen mat mwr merr mfail mcmd mcm) H := hP
      have hD : va_D A (bModel tA a0 a1 a2 a3 a4 a5 a6 a7 a8 a9 a10 ms mbef msav misv (zCpy mbef (zCpy mpast mpast 337 0 2359) 0 (337 * (mpm - 1)) 337) (mpm - 1) mthr mways mnds mtkp mline mlm mtxt mlen mat mwr merr mfail mcmd mcm) := hD
      refine lv_aload_n hx hb dX11_ends_85 rfl (lv_at hl 0 rfl) ?_
      refine lv_dup hx hb dX11_ends_86 rfl ?_
      refine va_get (D := D) (ci := 13) (v := .int (iI (mpm - 1))) (C := RX11) (T := TX11) (N := 20) hx hb hts iX11 hown hK hP 0 rfl rfl 5 (by decide) f_58 (fun _ h9 => h9) rfl dX11_ends_87 ?_
      refine zz_iconst hx hb dX11_ends_90 ?_
      refine zz_iadd hx hb dX11_ends_91 ?_
      refine va_put (D := D) (ci := 13) (v := .int (iI ((mpm - 1) + 1))) (ty := .int) (C := RX11) (T := TX11) (N := 20) hx hb hts iX11 tyX11 tyX11_ok nmX11 hown hK hP hD hS 0 rfl rfl 5 (by decide) f_58 (fun _ h9 => h9) rfl (by decide +kernel) rfl rfl (Nat.le_of_ble_eq_true rfl) dX11_ends_92 (fun H locs hP hD hS => ?_)
      have hP : va_P D vwCl (bModel tA a0 a1 a2 a3 a4 a5 a6 a7 a8 a9 a10 ms mbef msav misv (zCpy mbef (zCpy mpast mpast 337 0 2359) 0 (337 * (mpm - 1)) 337) ((mpm - 1) + 1) mthr mways mnds mtkp mline mlm mtxt mlen mat mwr merr mfail mcmd mcm) H := hP
      have hD : va_D A (bModel tA a0 a1 a2 a3 a4 a5 a6 a7 a8 a9 a10 ms mbef msav misv (zCpy mbef (zCpy mpast mpast 337 0 2359) 0 (337 * (mpm - 1)) 337) ((mpm - 1) + 1) mthr mways mnds mtkp mline mlm mtxt mlen mat mwr merr mfail mcmd mcm) := hD
      refine lv_iload_n hx hb dX11_ends_95 rfl (lv_at hl 1 rfl) ?_
      have e_ms : (ms : Int → Int) = (if 0 < mthr then mbef else ms) := by first | rw [if_pos (by omega)] | rw [if_neg (by omega)]
      have hP : va_P D vwCl (bModel tA a0 a1 a2 a3 a4 a5 a6 a7 a8 a9 a10 (if 0 < mthr then mbef else ms) mbef msav misv (zCpy mbef (zCpy mpast mpast 337 0 2359) 0 (337 * (mpm - 1)) 337) ((mpm - 1) + 1) mthr mways mnds mtkp mline mlm mtxt mlen mat mwr merr mfail mcmd mcm) H := by rw [← e_ms]; exact hP
      have hD : va_D A (bModel tA a0 a1 a2 a3 a4 a5 a6 a7 a8 a9 a10 (if 0 < mthr then mbef else ms) mbef msav misv (zCpy mbef (zCpy mpast mpast 337 0 2359) 0 (337 * (mpm - 1)) 337) ((mpm - 1) + 1) mthr mways mnds mtkp mline mlm mtxt mlen mat mwr merr mfail mcmd mcm) := by rw [← e_ms]; exact hD
      have e_mpast : ((zCpy mbef (zCpy mpast mpast 337 0 2359) 0 (337 * (mpm - 1)) 337) : Int → Int) = (if 0 < mthr then mpast else pastP mbef mpm mpast) := by first | rw [if_pos (by omega)] | (rw [if_neg (by omega)]; unfold pastP; first | (rw [c_31]; exact (if_pos rfl).symm) | exact (if_neg c_31).symm)
      rw [e_mpast] at hP hD
      have e_mpm : (((mpm - 1) + 1) : Int) = (if 0 < mthr then mpm else if mpm = 8 then 8 else mpm + 1) := by first | rw [if_pos (by omega)] | (rw [if_neg (by omega)]; first | (rw [if_pos (by omega)]; omega) | (rw [if_neg (by omega)]))
      rw [e_mpm] at hP hD
      exact hret ans () _ _ _ _ dX11_ends_96 (show ((0 : Int) < mthr ∧ ans = 0) ∨ (mthr = (0 : Int) ∧ ans = ans) from by omega) hP hD hS
  · refine lv_aload_n hx hb dX11_ends_7 rfl (lv_at hl 0 rfl) ?_
    refine va_get (D := D) (ci := 13) (v := .ref a2) (C := RX11) (T := TX11) (N := 20) hx hb hts iX11 hown hK hP 0 rfl rfl 1 (by decide) f_13 (fun _ h9 => h9) rfl dX11_ends_8 ?_
    refine zz_iconst hx hb dX11_ends_11 ?_
    refine lv_aload_n hx hb dX11_ends_12 rfl (lv_at hl 0 rfl) ?_
    refine va_get (D := D) (ci := 13) (v := .ref a1) (C := RX11) (T := TX11) (N := 20) hx hb hts iX11 hown hK hP 0 rfl rfl 0 (by decide) f_9 (fun _ h9 => h9) rfl dX11_ends_13 ?_
    refine zz_iconst hx hb dX11_ends_16 ?_
    refine zz_sipush hx hb dX11_ends_17 (by decide) ?_
    refine zz_copyAll hx hb (by rw [hml]; exact hl.1.symm) hown l_52 ln_52 ls_52 li_52 (Nat.le_of_ble_eq_true rfl) (Nat.le_of_ble_eq_true rfl) hK hP hD hS 2 1 rfl rfl (by decide) rfl dX11_ends_20 (fun H locs hP hD hS => ?_)
    have hP : va_P D vwCl (bModel tA a0 a1 a2 a3 a4 a5 a6 a7 a8 a9 a10 mbef mbef msav misv mpast mpm mthr mways mnds mtkp mline mlm mtxt mlen mat mwr merr mfail mcmd mcm) H := hP
    have hD : va_D A (bModel tA a0 a1 a2 a3 a4 a5 a6 a7 a8 a9 a10 mbef mbef msav misv mpast mpm mthr mways mnds mtkp mline mlm mtxt mlen mat mwr merr mfail mcmd mcm) := hD
    refine zz_iconst hx hb dX11_ends_23 ?_
    have e_ms : (mbef : Int → Int) = (if 0 < mthr then mbef else ms) := by first | rw [if_pos (by omega)] | rw [if_neg (by omega)]
    have hP : va_P D vwCl (bModel tA a0 a1 a2 a3 a4 a5 a6 a7 a8 a9 a10 (if 0 < mthr then mbef else ms) mbef msav misv mpast mpm mthr mways mnds mtkp mline mlm mtxt mlen mat mwr merr mfail mcmd mcm) H := by rw [← e_ms]; exact hP
    have hD : va_D A (bModel tA a0 a1 a2 a3 a4 a5 a6 a7 a8 a9 a10 (if 0 < mthr then mbef else ms) mbef msav misv mpast mpm mthr mways mnds mtkp mline mlm mtxt mlen mat mwr merr mfail mcmd mcm) := by rw [← e_ms]; exact hD
    have e_mpast : (mpast : Int → Int) = (if 0 < mthr then mpast else pastP mbef mpm mpast) := by first | rw [if_pos (by omega)] | (rw [if_neg (by omega)]; unfold pastP; first | (rw [c_31]; exact (if_pos rfl).symm) | exact (if_neg c_31).symm)
    have hP : va_P D vwCl (bModel tA a0 a1 a2 a3 a4 a5 a6 a7 a8 a9 a10 (if 0 < mthr then mbef else ms) mbef msav misv (if 0 < mthr then mpast else pastP mbef mpm mpast) mpm mthr mways mnds mtkp mline mlm mtxt mlen mat mwr merr mfail mcmd mcm) H := by rw [← e_mpast]; exact hP
    have hD : va_D A (bModel tA a0 a1 a2 a3 a4 a5 a6 a7 a8 a9 a10 (if 0 < mthr then mbef else ms) mbef msav misv (if 0 < mthr then mpast else pastP mbef mpm mpast) mpm mthr mways mnds mtkp mline mlm mtxt mlen mat mwr merr mfail mcmd mcm) := by rw [← e_mpast]; exact hD
    have e_mpm : (mpm : Int) = (if 0 < mthr then mpm else if mpm = 8 then 8 else mpm + 1) := by first | rw [if_pos (by omega)] | (rw [if_neg (by omega)]; first | (rw [if_pos (by omega)]; omega) | (rw [if_neg (by omega)]))
    have hP : va_P D vwCl (bModel tA a0 a1 a2 a3 a4 a5 a6 a7 a8 a9 a10 (if 0 < mthr then mbef else ms) mbef msav misv (if 0 < mthr then mpast else pastP mbef mpm mpast) (if 0 < mthr then mpm else if mpm = 8 then 8 else mpm + 1) mthr mways mnds mtkp mline mlm mtxt mlen mat mwr merr mfail mcmd mcm) H := by rw [← e_mpm]; exact hP
    have hD : va_D A (bModel tA a0 a1 a2 a3 a4 a5 a6 a7 a8 a9 a10 (if 0 < mthr then mbef else ms) mbef msav misv (if 0 < mthr then mpast else pastP mbef mpm mpast) (if 0 < mthr then mpm else if mpm = 8 then 8 else mpm + 1) mthr mways mnds mtkp mline mlm mtxt mlen mat mwr merr mfail mcmd mcm) := by rw [← e_mpm]; exact hD
    exact hret 0 () _ _ _ _ dX11_ends_24 (show ((0 : Int) < mthr ∧ (0 : Int) = 0) ∨ (mthr = (0 : Int) ∧ (0 : Int) = ans) from by omega) hP hD hS

set_option maxHeartbeats 4000000 in
set_option maxRecDepth 100000 in
theorem c_X11_arePorts (l : Launch) (D : va_G) (tA : Nat → ClassId) (a0 a1 a2 a3 a4 a5 a6 a7 a8 a9 a10 : Nat) (sz : Nat) (ms : Int → Int) (mbef : Int → Int) (msav : Int → Int) (misv : Int) (mpast : Int → Int) (mpm : Int) (mthr : Int) (mways : Int → Int) (mnds : Int → Int) (mtkp : Int → Int) (mline : Int → Int) (mlm : Int) (mtxt : Int → Int) (mlen : Int) (mat : Int) (mwr : Int) (merr : Int) (mfail : Int) (mcmd : Int → Int) (mcm : Int) (frm : Int) (too : Int) (r_frm : -2147483648 ≤ frm ∧ frm ≤ 2147483647) (r_too : -2147483648 ≤ too ∧ too ≤ 2147483647) (hp : 0 ≤ ms 0 ∧ ms 0 ≤ 10) : zMi l yX11_arePorts wsX11_arePorts ({ frames := 1, cells := 0, slots := 0, locals := 22 }) D tA [.ref a0, .int (iI frm), .int (iI too)] (bModel tA a0 a1 a2 a3 a4 a5 a6 a7 a8 a9 a10 ms mbef msav misv mpast mpm mthr mways mnds mtkp mline mlm mtxt mlen mat mwr merr mfail mcmd mcm) sz (fun (z : Int) (u : Unit) => ((z = 1 ∧ inP (ms 0) frm too) ∨ (z = 0 ∧ ¬ inP (ms 0) frm too))) (fun (u : Unit) => bModel tA a0 a1 a2 a3 a4 a5 a6 a7 a8 a9 a10 ms mbef msav misv mpast mpm mthr mways mnds mtkp mline mlm mtxt mlen mat mwr merr mfail mcmd mcm) 0 0 := by
  refine zMi_of (cc := cX11_arePorts) (maxL := 3) (by decide) rfl (fun z u h => zbool z (by omega)) (Nat.le_of_ble_eq_true rfl) ?_
  intro p e s m args below meth c A Q ls hx hb hml hts hown hK hP hD hA hret hl
  obtain ⟨H, hHe⟩ : ∃ H : Heap, H = s.heap := ⟨_, rfl⟩
  have hS : va_S A s.heap H [] := by rw [hHe]; exact va_S.rf
  rw [← hHe] at hP ⊢
  have hl : lv_has ls 3 [(0, .ref a0), (1, .int (iI frm)), (2, .int (iI too))] := hl
  have iX11 : ∀ v ∈ wsX110, v ∈ wsX11_arePorts := by decide +kernel
  have f_9 := hts (.fieldLink RX11 9 "HarborLightsModel" "s" "[I") (by decide +kernel)
  refine lv_iload_n hx hb dX11_arePorts_0 rfl (lv_at hl 1 rfl) ?_
  refine zz_iconst hx hb dX11_arePorts_1 ?_
  refine lv_aload_n hx hb dX11_arePorts_2 rfl (lv_at hl 0 rfl) ?_
  refine va_get (D := D) (ci := 13) (v := .ref a1) (C := RX11) (T := TX11) (N := 20) hx hb hts iX11 hown hK hP 0 rfl rfl 0 (by decide) f_9 (fun _ h9 => h9) rfl dX11_arePorts_3 ?_
  refine zz_iconst hx hb dX11_arePorts_6 ?_
  refine zz_iald hx hb hK hP 1 rfl (by decide) (by omega) dX11_arePorts_7 ?_
  refine zz_iconst hx hb dX11_arePorts_8 ?_
  refine zz_isub hx hb dX11_arePorts_9 ?_
  refine zz_callSi (As := [.int (iI frm), .int (iI 0), .int (iI ((ms 0) - 1))]) (rest := []) (wf := fun u => bModel tA a0 a1 a2 a3 a4 a5 a6 a7 a8 a9 a10 ms mbef msav misv mpast mpm mthr mways mnds mtkp mline mlm mtxt mlen mat mwr merr mfail mcmd mcm) ⟨hx, hb, hml, hown, hts⟩ (c_X11_in l D tA  H.size frm 0 ((ms 0) - 1) (by first | assumption | omega) (by first | assumption | omega) (by first | assumption | omega)) (va_cwS 3 hts gX11_arePorts_X11_in rfl rfl rfl (by decide +kernel) ⟨Nat.le_of_ble_eq_true rfl, Nat.le_of_ble_eq_true rfl⟩) hK hP hD hS hA [] [0, 1, 2, 3, 4, 5, 6, 7, 8, 9, 10] [0, 1, 2, 3, 4, 5, 6, 7, 8, 9, 10] rfl rfl (by decide) (by decide) (by decide) (by decide) (fun _ => rfl) rfl rfl hl.1 (Nat.le_of_ble_eq_true rfl) dX11_arePorts_10 ⟨Nat.le_of_ble_eq_true rfl, Nat.le_of_ble_eq_true rfl⟩ ?_
  intro z10_1 u H locs p10_2 hP hD hS
  have hP : va_P D vwCl (bModel tA a0 a1 a2 a3 a4 a5 a6 a7 a8 a9 a10 ms mbef msav misv mpast mpm mthr mways mnds mtkp mline mlm mtxt mlen mat mwr merr mfail mcmd mcm) H := hP
  have hD : va_D A (bModel tA a0 a1 a2 a3 a4 a5 a6 a7 a8 a9 a10 ms mbef msav misv mpast mpm mthr mways mnds mtkp mline mlm mtxt mlen mat mwr merr mfail mcmd mcm) := hD
  have q_10 : (z10_1 = 1 ∧ 0 ≤ frm ∧ frm ≤ ((ms 0) - 1)) ∨ (z10_1 = 0 ∧ ¬ (0 ≤ frm ∧ frm ≤ ((ms 0) - 1))) := p10_2
  refine zz_if_eq (tgt := 36) hx hb dX11_arePorts_13 (by decide) (by omega) (fun c_13 => ?_) (fun c_13 => ?_)
  · refine zz_iconst hx hb dX11_arePorts_36 ?_
    exact hret 0 () _ _ _ _ dX11_arePorts_37 (show ((0 : Int) = 1 ∧ inP (ms 0) frm too) ∨ ((0 : Int) = 0 ∧ ¬ inP (ms 0) frm too) from by unfold inP; omega) hP hD hS
  · refine lv_iload_n hx hb dX11_arePorts_16 rfl (lv_at hl 2 rfl) ?_
    refine zz_iconst hx hb dX11_arePorts_17 ?_
    refine lv_aload_n hx hb dX11_arePorts_18 rfl (lv_at hl 0 rfl) ?_
    refine va_get (D := D) (ci := 13) (v := .ref a1) (C := RX11) (T := TX11) (N := 20) hx hb hts iX11 hown hK hP 0 rfl rfl 0 (by decide) f_9 (fun _ h9 => h9) rfl dX11_arePorts_19 ?_
    refine zz_iconst hx hb dX11_arePorts_22 ?_
    refine zz_iald hx hb hK hP 1 rfl (by decide) (by omega) dX11_arePorts_23 ?_
    refine zz_iconst hx hb dX11_arePorts_24 ?_
    refine zz_isub hx hb dX11_arePorts_25 ?_
    refine zz_callSi (As := [.int (iI too), .int (iI 0), .int (iI ((ms 0) - 1))]) (rest := []) (wf := fun u => bModel tA a0 a1 a2 a3 a4 a5 a6 a7 a8 a9 a10 ms mbef msav misv mpast mpm mthr mways mnds mtkp mline mlm mtxt mlen mat mwr merr mfail mcmd mcm) ⟨hx, hb, hml, hown, hts⟩ (c_X11_in l D tA  H.size too 0 ((ms 0) - 1) (by first | assumption | omega) (by first | assumption | omega) (by first | assumption | omega)) (va_cwS 3 hts gX11_arePorts_X11_in rfl rfl rfl (by decide +kernel) ⟨Nat.le_of_ble_eq_true rfl, Nat.le_of_ble_eq_true rfl⟩) hK hP hD hS hA [] [0, 1, 2, 3, 4, 5, 6, 7, 8, 9, 10] [0, 1, 2, 3, 4, 5, 6, 7, 8, 9, 10] rfl rfl (by decide) (by decide) (by decide) (by decide) (fun _ => rfl) rfl rfl hl.1 (Nat.le_of_ble_eq_true rfl) dX11_arePorts_26 ⟨Nat.le_of_ble_eq_true rfl, Nat.le_of_ble_eq_true rfl⟩ ?_
    intro z26_3 u H locs p26_4 hP hD hS
    have hP : va_P D vwCl (bModel tA a0 a1 a2 a3 a4 a5 a6 a7 a8 a9 a10 ms mbef msav misv mpast mpm mthr mways mnds mtkp mline mlm mtxt mlen mat mwr merr mfail mcmd mcm) H := hP
    have hD : va_D A (bModel tA a0 a1 a2 a3 a4 a5 a6 a7 a8 a9 a10 ms mbef msav misv mpast mpm mthr mways mnds mtkp mline mlm mtxt mlen mat mwr merr mfail mcmd mcm) := hD
    have q_26 : (z26_3 = 1 ∧ 0 ≤ too ∧ too ≤ ((ms 0) - 1)) ∨ (z26_3 = 0 ∧ ¬ (0 ≤ too ∧ too ≤ ((ms 0) - 1))) := p26_4
    refine zz_if_eq (tgt := 36) hx hb dX11_arePorts_29 (by decide) (by omega) (fun c_29 => ?_) (fun c_29 => ?_)
    · refine zz_iconst hx hb dX11_arePorts_36 ?_
      exact hret 0 () _ _ _ _ dX11_arePorts_37 (show ((0 : Int) = 1 ∧ inP (ms 0) frm too) ∨ ((0 : Int) = 0 ∧ ¬ inP (ms 0) frm too) from by unfold inP; omega) hP hD hS
    · refine zz_iconst hx hb dX11_arePorts_32 ?_
      refine lv_goto (tgt := 37) hx hb dX11_arePorts_33 (by decide) ?_
      exact hret 1 () _ _ _ _ dX11_arePorts_37 (show ((1 : Int) = 1 ∧ inP (ms 0) frm too) ∨ ((1 : Int) = 0 ∧ ¬ inP (ms 0) frm too) from by unfold inP; omega) hP hD hS

set_option maxHeartbeats 4000000 in
set_option maxRecDepth 100000 in
theorem c_X11_isSubscriber (l : Launch) (D : va_G) (tA : Nat → ClassId) (a0 a1 a2 a3 a4 a5 a6 a7 a8 a9 a10 : Nat) (sz : Nat) (ms : Int → Int) (mbef : Int → Int) (msav : Int → Int) (misv : Int) (mpast : Int → Int) (mpm : Int) (mthr : Int) (mways : Int → Int) (mnds : Int → Int) (mtkp : Int → Int) (mline : Int → Int) (mlm : Int) (mtxt : Int → Int) (mlen : Int) (mat : Int) (mwr : Int) (merr : Int) (mfail : Int) (mcmd : Int → Int) (mcm : Int) (ship : Int) (r_ship : -2147483648 ≤ ship ∧ ship ≤ 2147483647) (hc : 0 ≤ ms 1 ∧ ms 1 ≤ 6) : zMi l yX11_isSubscriber wsX11_isSubscriber ({ frames := 1, cells := 0, slots := 0, locals := 22 }) D tA [.ref a0, .int (iI ship)] (bModel tA a0 a1 a2 a3 a4 a5 a6 a7 a8 a9 a10 ms mbef msav misv mpast mpm mthr mways mnds mtkp mline mlm mtxt mlen mat mwr merr mfail mcmd mcm) sz (fun (z : Int) (u : Unit) => ((z = 1 ∧ 0 ≤ ship ∧ ship < ms 1) ∨ (z = 0 ∧ ¬ (0 ≤ ship ∧ ship < ms 1)))) (fun (u : Unit) => bModel tA a0 a1 a2 a3 a4 a5 a6 a7 a8 a9 a10 ms mbef msav misv mpast mpm mthr mways mnds mtkp mline mlm mtxt mlen mat mwr merr mfail mcmd mcm) 0 0 := by
  refine zMi_of (cc := cX11_isSubscriber) (maxL := 2) (by decide) rfl (fun z u h => zbool z (by omega)) (Nat.le_of_ble_eq_true rfl) ?_
  intro p e s m args below meth c A Q ls hx hb hml hts hown hK hP hD hA hret hl
  obtain ⟨H, hHe⟩ : ∃ H : Heap, H = s.heap := ⟨_, rfl⟩
  have hS : va_S A s.heap H [] := by rw [hHe]; exact va_S.rf
  rw [← hHe] at hP ⊢
  have hl : lv_has ls 2 [(0, .ref a0), (1, .int (iI ship))] := hl
  have iX11 : ∀ v ∈ wsX110, v ∈ wsX11_isSubscriber := by decide +kernel
  have f_9 := hts (.fieldLink RX11 9 "HarborLightsModel" "s" "[I") (by decide +kernel)
  refine lv_iload_n hx hb dX11_isSubscriber_0 rfl (lv_at hl 1 rfl) ?_
  refine zz_iconst hx hb dX11_isSubscriber_1 ?_
  refine lv_aload_n hx hb dX11_isSubscriber_2 rfl (lv_at hl 0 rfl) ?_
  refine va_get (D := D) (ci := 13) (v := .ref a1) (C := RX11) (T := TX11) (N := 20) hx hb hts iX11 hown hK hP 0 rfl rfl 0 (by decide) f_9 (fun _ h9 => h9) rfl dX11_isSubscriber_3 ?_
  refine zz_iconst hx hb dX11_isSubscriber_6 ?_
  refine zz_iald hx hb hK hP 1 rfl (by decide) (by omega) dX11_isSubscriber_7 ?_
  refine zz_iconst hx hb dX11_isSubscriber_8 ?_
  refine zz_isub hx hb dX11_isSubscriber_9 ?_
  refine zz_callSi (As := [.int (iI ship), .int (iI 0), .int (iI ((ms 1) - 1))]) (rest := []) (wf := fun u => bModel tA a0 a1 a2 a3 a4 a5 a6 a7 a8 a9 a10 ms mbef msav misv mpast mpm mthr mways mnds mtkp mline mlm mtxt mlen mat mwr merr mfail mcmd mcm) ⟨hx, hb, hml, hown, hts⟩ (c_X11_in l D tA  H.size ship 0 ((ms 1) - 1) (by first | assumption | omega) (by first | assumption | omega) (by first | assumption | omega)) (va_cwS 3 hts gX11_isSubscriber_X11_in rfl rfl rfl (by decide +kernel) ⟨Nat.le_of_ble_eq_true rfl, Nat.le_of_ble_eq_true rfl⟩) hK hP hD hS hA [] [0, 1, 2, 3, 4, 5, 6, 7, 8, 9, 10] [0, 1, 2, 3, 4, 5, 6, 7, 8, 9, 10] rfl rfl (by decide) (by decide) (by decide) (by decide) (fun _ => rfl) rfl rfl hl.1 (Nat.le_of_ble_eq_true rfl) dX11_isSubscriber_10 ⟨Nat.le_of_ble_eq_true rfl, Nat.le_of_ble_eq_true rfl⟩ ?_
  intro z10_1 u H locs p10_2 hP hD hS
  have hP : va_P D vwCl (bModel tA a0 a1 a2 a3 a4 a5 a6 a7 a8 a9 a10 ms mbef msav misv mpast mpm mthr mways mnds mtkp mline mlm mtxt mlen mat mwr merr mfail mcmd mcm) H := hP
  have hD : va_D A (bModel tA a0 a1 a2 a3 a4 a5 a6 a7 a8 a9 a10 ms mbef msav misv mpast mpm mthr mways mnds mtkp mline mlm mtxt mlen mat mwr merr mfail mcmd mcm) := hD
  have q_10 : (z10_1 = 1 ∧ 0 ≤ ship ∧ ship ≤ ((ms 1) - 1)) ∨ (z10_1 = 0 ∧ ¬ (0 ≤ ship ∧ ship ≤ ((ms 1) - 1))) := p10_2
  exact hret z10_1 () _ _ _ _ dX11_isSubscriber_13 (show (z10_1 = 1 ∧ 0 ≤ ship ∧ ship < ms 1) ∨ (z10_1 = 0 ∧ ¬ (0 ≤ ship ∧ ship < ms 1)) from by omega) hP hD hS

set_option maxHeartbeats 4000000 in
set_option maxRecDepth 100000 in
theorem c_X11_leg (l : Launch) (D : va_G) (tA : Nat → ClassId) (a0 a1 a2 a3 a4 a5 a6 a7 a8 a9 a10 : Nat) (sz : Nat) (ms : Int → Int) (mbef : Int → Int) (msav : Int → Int) (misv : Int) (mpast : Int → Int) (mpm : Int) (mthr : Int) (mways : Int → Int) (mnds : Int → Int) (mtkp : Int → Int) (mline : Int → Int) (mlm : Int) (mtxt : Int → Int) (mlen : Int) (mat : Int) (mwr : Int) (merr : Int) (mfail : Int) (mcmd : Int → Int) (mcm : Int) (frm : Int) (too : Int) (w : Int) (r_frm : -2147483648 ≤ frm ∧ frm ≤ 2147483647) (r_too : -2147483648 ≤ too ∧ too ≤ 2147483647) (r_w : -2147483648 ≤ w ∧ w ≤ 2147483647) (h_frm : 0 ≤ frm ∧ frm < 10) (h_too : 0 ≤ too ∧ too < 10) (hw : 0 ≤ w ∧ w ≤ 2) : zMi l yX11_leg wsX11_leg ({ frames := 0, cells := 0, slots := 0, locals := 0 }) D tA [.ref a0, .int (iI frm), .int (iI too), .int (iI w)] (bModel tA a0 a1 a2 a3 a4 a5 a6 a7 a8 a9 a10 ms mbef msav misv mpast mpm mthr mways mnds mtkp mline mlm mtxt mlen mat mwr merr mfail mcmd mcm) sz (fun (z : Int) (u : Unit) => (z = lgM ms frm too w)) (fun (u : Unit) => bModel tA a0 a1 a2 a3 a4 a5 a6 a7 a8 a9 a10 ms mbef msav misv mpast mpm mthr mways mnds mtkp mline mlm mtxt mlen mat mwr merr mfail mcmd mcm) 0 0 := by
  refine zMi_of (cc := cX11_leg) (maxL := 4) (by decide) rfl (fun z u h => rfl) (Nat.le_of_ble_eq_true rfl) ?_
  intro p e s m args below meth c A Q ls hx hb hml hts hown hK hP hD hA hret hl
  obtain ⟨H, hHe⟩ : ∃ H : Heap, H = s.heap := ⟨_, rfl⟩
  have hS : va_S A s.heap H [] := by rw [hHe]; exact va_S.rf
  rw [← hHe] at hP ⊢
  have hl : lv_has ls 4 [(0, .ref a0), (1, .int (iI frm)), (2, .int (iI too)), (3, .int (iI w))] := hl
  have iX11 : ∀ v ∈ wsX110, v ∈ wsX11_leg := by decide +kernel
  have f_9 := hts (.fieldLink RX11 9 "HarborLightsModel" "s" "[I") (by decide +kernel)
  refine lv_aload_n hx hb dX11_leg_0 rfl (lv_at hl 0 rfl) ?_
  refine va_get (D := D) (ci := 13) (v := .ref a1) (C := RX11) (T := TX11) (N := 20) hx hb hts iX11 hown hK hP 0 rfl rfl 0 (by decide) f_9 (fun _ h9 => h9) rfl dX11_leg_1 ?_
  refine zz_bipush hx hb dX11_leg_4 (by decide) ?_
  refine zz_iconst hx hb dX11_leg_6 ?_
  refine zz_bipush hx hb dX11_leg_7 (by decide) ?_
  refine lv_iload_n hx hb dX11_leg_9 rfl (lv_at hl 1 rfl) ?_
  refine zz_imul hx hb dX11_leg_10 ?_
  refine lv_iload_n hx hb dX11_leg_11 rfl (lv_at hl 2 rfl) ?_
  refine zz_iadd hx hb dX11_leg_12 ?_
  refine zz_imul hx hb dX11_leg_13 ?_
  refine zz_iadd hx hb dX11_leg_14 ?_
  refine lv_iload_n hx hb dX11_leg_15 rfl (lv_at hl 3 rfl) ?_
  refine zz_iadd hx hb dX11_leg_16 ?_
  refine zz_iald hx hb hK hP 1 rfl (by decide) (by omega) dX11_leg_17 ?_
  exact hret (ms ((7 + (3 * ((10 * frm) + too))) + w)) () _ _ _ _ dX11_leg_18 (show (ms ((7 + (3 * ((10 * frm) + too))) + w)) = lgM ms frm too w from by rfl) hP hD hS

set_option maxHeartbeats 4000000 in
set_option maxRecDepth 100000 in
theorem c_X11_setsLeg (l : Launch) (D : va_G) (tA : Nat → ClassId) (a0 a1 a2 a3 a4 a5 a6 a7 a8 a9 a10 : Nat) (sz : Nat) (ms : Int → Int) (mbef : Int → Int) (msav : Int → Int) (misv : Int) (mpast : Int → Int) (mpm : Int) (mthr : Int) (mways : Int → Int) (mnds : Int → Int) (mtkp : Int → Int) (mline : Int → Int) (mlm : Int) (mtxt : Int → Int) (mlen : Int) (mat : Int) (mwr : Int) (merr : Int) (mfail : Int) (mcmd : Int → Int) (mcm : Int) (frm : Int) (too : Int) (w : Int) (v : Int) (r_frm : -2147483648 ≤ frm ∧ frm ≤ 2147483647) (r_too : -2147483648 ≤ too ∧ too ≤ 2147483647) (r_w : -2147483648 ≤ w ∧ w ≤ 2147483647) (r_v : -2147483648 ≤ v ∧ v ≤ 2147483647) (h_frm : 0 ≤ frm ∧ frm < 10) (h_too : 0 ≤ too ∧ too < 10) (hw : 0 ≤ w ∧ w ≤ 2) : zMv l yX11_setsLeg wsX11_setsLeg ({ frames := 0, cells := 0, slots := 0, locals := 0 }) D tA [.ref a0, .int (iI frm), .int (iI too), .int (iI w), .int (iI v)] (bModel tA a0 a1 a2 a3 a4 a5 a6 a7 a8 a9 a10 ms mbef msav misv mpast mpm mthr mways mnds mtkp mline mlm mtxt mlen mat mwr merr mfail mcmd mcm) sz (fun (u : Unit) => True) (fun (u : Unit) => bModel tA a0 a1 a2 a3 a4 a5 a6 a7 a8 a9 a10 (setL ms frm too w v) mbef msav misv mpast mpm mthr mways mnds mtkp mline mlm mtxt mlen mat mwr merr mfail mcmd mcm) 0 0 := by
  refine zMv_of (cc := cX11_setsLeg) (maxL := 5) (by decide) rfl (Nat.le_of_ble_eq_true rfl) ?_
  intro p e s m args below meth c A Q ls hx hb hml hts hown hK hP hD hA hret hl
  obtain ⟨H, hHe⟩ : ∃ H : Heap, H = s.heap := ⟨_, rfl⟩
  have hS : va_S A s.heap H [] := by rw [hHe]; exact va_S.rf
  rw [← hHe] at hP ⊢
  have hl : lv_has ls 5 [(0, .ref a0), (1, .int (iI frm)), (2, .int (iI too)), (3, .int (iI w)), (4, .int (iI v))] := hl
  have iX11 : ∀ v ∈ wsX110, v ∈ wsX11_setsLeg := by decide +kernel
  have f_9 := hts (.fieldLink RX11 9 "HarborLightsModel" "s" "[I") (by decide +kernel)
  refine lv_aload_n hx hb dX11_setsLeg_0 rfl (lv_at hl 0 rfl) ?_
  refine va_get (D := D) (ci := 13) (v := .ref a1) (C := RX11) (T := TX11) (N := 20) hx hb hts iX11 hown hK hP 0 rfl rfl 0 (by decide) f_9 (fun _ h9 => h9) rfl dX11_setsLeg_1 ?_
  refine zz_bipush hx hb dX11_setsLeg_4 (by decide) ?_
  refine zz_iconst hx hb dX11_setsLeg_6 ?_
  refine zz_bipush hx hb dX11_setsLeg_7 (by decide) ?_
  refine lv_iload_n hx hb dX11_setsLeg_9 rfl (lv_at hl 1 rfl) ?_
  refine zz_imul hx hb dX11_setsLeg_10 ?_
  refine lv_iload_n hx hb dX11_setsLeg_11 rfl (lv_at hl 2 rfl) ?_
  refine zz_iadd hx hb dX11_setsLeg_12 ?_
  refine zz_imul hx hb dX11_setsLeg_13 ?_
  refine zz_iadd hx hb dX11_setsLeg_14 ?_
  refine lv_iload_n hx hb dX11_setsLeg_15 rfl (lv_at hl 3 rfl) ?_
  refine zz_iadd hx hb dX11_setsLeg_16 ?_
  refine lv_iload hx hb dX11_setsLeg_17 (lv_at hl 4 rfl) ?_
  refine zz_iast hx hb hK hP hD hS 1 rfl (by decide) (by omega) dX11_setsLeg_19 (fun H locs hP hD hS => ?_)
  have hP : va_P D vwCl (bModel tA a0 a1 a2 a3 a4 a5 a6 a7 a8 a9 a10 (zU ms ((7 + (3 * ((10 * frm) + too))) + w) v) mbef msav misv mpast mpm mthr mways mnds mtkp mline mlm mtxt mlen mat mwr merr mfail mcmd mcm) H := hP
  have hD : va_D A (bModel tA a0 a1 a2 a3 a4 a5 a6 a7 a8 a9 a10 (zU ms ((7 + (3 * ((10 * frm) + too))) + w) v) mbef msav misv mpast mpm mthr mways mnds mtkp mline mlm mtxt mlen mat mwr merr mfail mcmd mcm) := hD
  refine lv_aload_n hx hb dX11_setsLeg_20 rfl (lv_at hl 0 rfl) ?_
  refine va_get (D := D) (ci := 13) (v := .ref a1) (C := RX11) (T := TX11) (N := 20) hx hb hts iX11 hown hK hP 0 rfl rfl 0 (by decide) f_9 (fun _ h9 => h9) rfl dX11_setsLeg_21 ?_
  refine zz_bipush hx hb dX11_setsLeg_24 (by decide) ?_
  refine zz_iconst hx hb dX11_setsLeg_26 ?_
  refine zz_bipush hx hb dX11_setsLeg_27 (by decide) ?_
  refine lv_iload_n hx hb dX11_setsLeg_29 rfl (lv_at hl 2 rfl) ?_
  refine zz_imul hx hb dX11_setsLeg_30 ?_
  refine lv_iload_n hx hb dX11_setsLeg_31 rfl (lv_at hl 1 rfl) ?_
  refine zz_iadd hx hb dX11_setsLeg_32 ?_
  refine zz_imul hx hb dX11_setsLeg_33 ?_
  refine zz_iadd hx hb dX11_setsLeg_34 ?_
  refine lv_iload_n hx hb dX11_setsLeg_35 rfl (lv_at hl 3 rfl) ?_
  refine zz_iadd hx hb dX11_setsLeg_36 ?_
  refine lv_iload hx hb dX11_setsLeg_37 (lv_at hl 4 rfl) ?_
  refine zz_iast hx hb hK hP hD hS 1 rfl (by decide) (by omega) dX11_setsLeg_39 (fun H locs hP hD hS => ?_)
  have hP : va_P D vwCl (bModel tA a0 a1 a2 a3 a4 a5 a6 a7 a8 a9 a10 (zU (zU ms ((7 + (3 * ((10 * frm) + too))) + w) v) ((7 + (3 * ((10 * too) + frm))) + w) v) mbef msav misv mpast mpm mthr mways mnds mtkp mline mlm mtxt mlen mat mwr merr mfail mcmd mcm) H := hP
  have hD : va_D A (bModel tA a0 a1 a2 a3 a4 a5 a6 a7 a8 a9 a10 (zU (zU ms ((7 + (3 * ((10 * frm) + too))) + w) v) ((7 + (3 * ((10 * too) + frm))) + w) v) mbef msav misv mpast mpm mthr mways mnds mtkp mline mlm mtxt mlen mat mwr merr mfail mcmd mcm) := hD
  have e_ms : ((zU (zU ms ((7 + (3 * ((10 * frm) + too))) + w) v) ((7 + (3 * ((10 * too) + frm))) + w) v) : Int → Int) = (setL ms frm too w v) := by rfl
  rw [e_ms] at hP hD
  exact hret () _ _ _ _ dX11_setsLeg_40 True.intro hP hD hS

set_option maxHeartbeats 4000000 in
set_option maxRecDepth 100000 in
theorem c_X11_of (l : Launch) (D : va_G) (tA : Nat → ClassId) (a0 a1 a2 a3 a4 a5 a6 a7 a8 a9 a10 : Nat) (sz : Nat) (ms : Int → Int) (mbef : Int → Int) (msav : Int → Int) (misv : Int) (mpast : Int → Int) (mpm : Int) (mthr : Int) (mways : Int → Int) (mnds : Int → Int) (mtkp : Int → Int) (mline : Int → Int) (mlm : Int) (mtxt : Int → Int) (mlen : Int) (mat : Int) (mwr : Int) (merr : Int) (mfail : Int) (mcmd : Int → Int) (mcm : Int) (ship : Int) (w : Int) (r_ship : -2147483648 ≤ ship ∧ ship ≤ 2147483647) (r_w : -2147483648 ≤ w ∧ w ≤ 2147483647) (hs : 0 ≤ ship ∧ ship < 6) (hw : 0 ≤ w ∧ w ≤ 4) : zMi l yX11_of wsX11_of ({ frames := 0, cells := 0, slots := 0, locals := 0 }) D tA [.ref a0, .int (iI ship), .int (iI w)] (bModel tA a0 a1 a2 a3 a4 a5 a6 a7 a8 a9 a10 ms mbef msav misv mpast mpm mthr mways mnds mtkp mline mlm mtxt mlen mat mwr merr mfail mcmd mcm) sz (fun (z : Int) (u : Unit) => (z = suM ms ship w)) (fun (u : Unit) => bModel tA a0 a1 a2 a3 a4 a5 a6 a7 a8 a9 a10 ms mbef msav misv mpast mpm mthr mways mnds mtkp mline mlm mtxt mlen mat mwr merr mfail mcmd mcm) 0 0 := by
  refine zMi_of (cc := cX11_of) (maxL := 3) (by decide) rfl (fun z u h => rfl) (Nat.le_of_ble_eq_true rfl) ?_
  intro p e s m args below meth c A Q ls hx hb hml hts hown hK hP hD hA hret hl
  obtain ⟨H, hHe⟩ : ∃ H : Heap, H = s.heap := ⟨_, rfl⟩
  have hS : va_S A s.heap H [] := by rw [hHe]; exact va_S.rf
  rw [← hHe] at hP ⊢
  have hl : lv_has ls 3 [(0, .ref a0), (1, .int (iI ship)), (2, .int (iI w))] := hl
  have iX11 : ∀ v ∈ wsX110, v ∈ wsX11_of := by decide +kernel
  have f_9 := hts (.fieldLink RX11 9 "HarborLightsModel" "s" "[I") (by decide +kernel)
  refine lv_aload_n hx hb dX11_of_0 rfl (lv_at hl 0 rfl) ?_
  refine va_get (D := D) (ci := 13) (v := .ref a1) (C := RX11) (T := TX11) (N := 20) hx hb hts iX11 hown hK hP 0 rfl rfl 0 (by decide) f_9 (fun _ h9 => h9) rfl dX11_of_1 ?_
  refine zz_sipush hx hb dX11_of_4 (by decide) ?_
  refine zz_iconst hx hb dX11_of_7 ?_
  refine lv_iload_n hx hb dX11_of_8 rfl (lv_at hl 1 rfl) ?_
  refine zz_imul hx hb dX11_of_9 ?_
  refine zz_iadd hx hb dX11_of_10 ?_
  refine lv_iload_n hx hb dX11_of_11 rfl (lv_at hl 2 rfl) ?_
  refine zz_iadd hx hb dX11_of_12 ?_
  refine zz_iald hx hb hK hP 1 rfl (by decide) (by omega) dX11_of_13 ?_
  exact hret (ms ((307 + (5 * ship)) + w)) () _ _ _ _ dX11_of_14 (show (ms ((307 + (5 * ship)) + w)) = suM ms ship w from by rfl) hP hD hS

set_option maxHeartbeats 4000000 in
set_option maxRecDepth 100000 in
theorem c_X11_adds (l : Launch) (D : va_G) (tA : Nat → ClassId) (a0 a1 a2 a3 a4 a5 a6 a7 a8 a9 a10 : Nat) (sz : Nat) (ms : Int → Int) (mbef : Int → Int) (msav : Int → Int) (misv : Int) (mpast : Int → Int) (mpm : Int) (mthr : Int) (mways : Int → Int) (mnds : Int → Int) (mtkp : Int → Int) (mline : Int → Int) (mlm : Int) (mtxt : Int → Int) (mlen : Int) (mat : Int) (mwr : Int) (merr : Int) (mfail : Int) (mcmd : Int → Int) (mcm : Int) (ship : Int) (w : Int) (v : Int) (r_ship : -2147483648 ≤ ship ∧ ship ≤ 2147483647) (r_w : -2147483648 ≤ w ∧ w ≤ 2147483647) (r_v : -2147483648 ≤ v ∧ v ≤ 2147483647) (hs : 0 ≤ ship ∧ ship < 6) (hw : 0 ≤ w ∧ w ≤ 4) : zMv l yX11_adds wsX11_adds ({ frames := 0, cells := 0, slots := 0, locals := 0 }) D tA [.ref a0, .int (iI ship), .int (iI w), .int (iI v)] (bModel tA a0 a1 a2 a3 a4 a5 a6 a7 a8 a9 a10 ms mbef msav misv mpast mpm mthr mways mnds mtkp mline mlm mtxt mlen mat mwr merr mfail mcmd mcm) sz (fun (u : Unit) => True) (fun (u : Unit) => bModel tA a0 a1 a2 a3 a4 a5 a6 a7 a8 a9 a10 (addM ms ship w v) mbef msav misv mpast mpm mthr mways mnds mtkp mline mlm mtxt mlen mat mwr merr mfail mcmd mcm) 0 0 := by
  refine zMv_of (cc := cX11_adds) (maxL := 4) (by decide) rfl (Nat.le_of_ble_eq_true rfl) ?_
  intro p e s m args below meth c A Q ls hx hb hml hts hown hK hP hD hA hret hl
  obtain ⟨H, hHe⟩ : ∃ H : Heap, H = s.heap := ⟨_, rfl⟩
  have hS : va_S A s.heap H [] := by rw [hHe]; exact va_S.rf
  rw [← hHe] at hP ⊢
  have hl : lv_has ls 4 [(0, .ref a0), (1, .int (iI ship)), (2, .int (iI w)), (3, .int (iI v))] := hl
  have iX11 : ∀ v ∈ wsX110, v ∈ wsX11_adds := by decide +kernel
  have f_9 := hts (.fieldLink RX11 9 "HarborLightsModel" "s" "[I") (by decide +kernel)
  refine lv_aload_n hx hb dX11_adds_0 rfl (lv_at hl 0 rfl) ?_
  refine va_get (D := D) (ci := 13) (v := .ref a1) (C := RX11) (T := TX11) (N := 20) hx hb hts iX11 hown hK hP 0 rfl rfl 0 (by decide) f_9 (fun _ h9 => h9) rfl dX11_adds_1 ?_
  refine zz_sipush hx hb dX11_adds_4 (by decide) ?_
  refine zz_iconst hx hb dX11_adds_7 ?_
  refine lv_iload_n hx hb dX11_adds_8 rfl (lv_at hl 1 rfl) ?_
  refine zz_imul hx hb dX11_adds_9 ?_
  refine zz_iadd hx hb dX11_adds_10 ?_
  refine lv_iload_n hx hb dX11_adds_11 rfl (lv_at hl 2 rfl) ?_
  refine zz_iadd hx hb dX11_adds_12 ?_
  refine lv_dup2_11 hx hb dX11_adds_13 rfl rfl ?_
  refine zz_iald hx hb hK hP 1 rfl (by decide) (by omega) dX11_adds_14 ?_
  refine lv_iload_n hx hb dX11_adds_15 rfl (lv_at hl 3 rfl) ?_
  refine zz_iadd hx hb dX11_adds_16 ?_
  refine zz_iast hx hb hK hP hD hS 1 rfl (by decide) (by omega) dX11_adds_17 (fun H locs hP hD hS => ?_)
  have hP : va_P D vwCl (bModel tA a0 a1 a2 a3 a4 a5 a6 a7 a8 a9 a10 (zU ms ((307 + (5 * ship)) + w) ((ms ((307 + (5 * ship)) + w)) + v)) mbef msav misv mpast mpm mthr mways mnds mtkp mline mlm mtxt mlen mat mwr merr mfail mcmd mcm) H := hP
  have hD : va_D A (bModel tA a0 a1 a2 a3 a4 a5 a6 a7 a8 a9 a10 (zU ms ((307 + (5 * ship)) + w) ((ms ((307 + (5 * ship)) + w)) + v)) mbef msav misv mpast mpm mthr mways mnds mtkp mline mlm mtxt mlen mat mwr merr mfail mcmd mcm) := hD
  have e_ms : ((zU ms ((307 + (5 * ship)) + w) ((ms ((307 + (5 * ship)) + w)) + v)) : Int → Int) = (addM ms ship w v) := by rfl
  rw [e_ms] at hP hD
  exact hret () _ _ _ _ dX11_adds_18 True.intro hP hD hS

set_option maxHeartbeats 4000000 in
set_option maxRecDepth 100000 in
theorem c_X11_legs (l : Launch) (D : va_G) (tA : Nat → ClassId) (a0 a1 a2 a3 a4 a5 a6 a7 a8 a9 a10 : Nat) (sz : Nat) (ms : Int → Int) (mbef : Int → Int) (msav : Int → Int) (misv : Int) (mpast : Int → Int) (mpm : Int) (mthr : Int) (mways : Int → Int) (mnds : Int → Int) (mtkp : Int → Int) (mline : Int → Int) (mlm : Int) (mtxt : Int → Int) (mlen : Int) (mat : Int) (mwr : Int) (merr : Int) (mfail : Int) (mcmd : Int → Int) (mcm : Int) (hlr : MLr ms) : zMi l yX11_legs wsX11_legs ({ frames := 1, cells := 0, slots := 0, locals := 23 }) D tA [.ref a0] (bModel tA a0 a1 a2 a3 a4 a5 a6 a7 a8 a9 a10 ms mbef msav misv mpast mpm mthr mways mnds mtkp mline mlm mtxt mlen mat mwr merr mfail mcmd mcm) sz (fun (z : Int) (u : Unit) => (z = lgsM ms) ∧ (0 ≤ z ∧ z ≤ 100)) (fun (u : Unit) => bModel tA a0 a1 a2 a3 a4 a5 a6 a7 a8 a9 a10 ms mbef msav misv mpast mpm mthr mways mnds mtkp mline mlm mtxt mlen mat mwr merr mfail mcmd mcm) 0 0 := by
  refine zMi_of (cc := cX11_legs) (maxL := 4) (by decide) rfl (fun z u h => rfl) (Nat.le_of_ble_eq_true rfl) ?_
  intro p e s m args below meth c A Q ls hx hb hml hts hown hK hP hD hA hret hl
  obtain ⟨H, hHe⟩ : ∃ H : Heap, H = s.heap := ⟨_, rfl⟩
  have hS : va_S A s.heap H [] := by rw [hHe]; exact va_S.rf
  rw [← hHe] at hP ⊢
  have hl : lv_has ls 4 [(0, .ref a0)] := hl
  refine zz_iconst hx hb dX11_legs_0 ?_
  refine lv_istore_n (lv' := [(1, .int (iI 0)), (0, .ref a0)]) hx hb dX11_legs_1 rfl hl (by decide) rfl (fun ls hl => ?_)
  refine zz_iconst hx hb dX11_legs_2 ?_
  refine lv_istore_n (lv' := [(2, .int (iI 0)), (1, .int (iI 0)), (0, .ref a0)]) hx hb dX11_legs_3 rfl hl (by decide) rfl (fun ls hl => ?_)
  have L4 : ∀ (n : Nat) (a : Int) (n1 : Int) (H : Heap) (locs : List Loc) (ls : Array Slot), (0 ≤ a ∧ a ≤ 10) → (n1 = sm (fun a => sm (fun b => if 0 < lgM ms a b 0 then 1 else 0) a.toNat) a.toNat) → (0 ≤ n1 ∧ n1 ≤ 10 * a) → (10 - a).toNat < n → va_P D vwCl (bModel tA a0 a1 a2 a3 a4 a5 a6 a7 a8 a9 a10 ms mbef msav misv mpast mpm mthr mways mnds mtkp mline mlm mtxt mlen mat mwr merr mfail mcmd mcm) H → va_D A (bModel tA a0 a1 a2 a3 a4 a5 a6 a7 a8 a9 a10 ms mbef msav misv mpast mpm mthr mways mnds mtkp mline mlm mtxt mlen mat mwr merr mfail mcmd mcm) → va_S A s.heap H locs → lv_has ls 4 [(2, .int (iI a)), (1, .int (iI n1)), (0, .ref a0)] → W p l e (headSpec wsX11_legs ({ frames := 1, cells := 0, slots := 0, locals := 23 })).room s m args below meth c H locs 0 0 Q (F0 m 4 ls []) := by
    intro n
    induction n with
    | zero => intro a n1 H locs ls i0 i1 i2 hmz; exact absurd hmz (Nat.not_lt_zero _)
    | succ n ih4 =>
      intro a n1 H locs ls i0 i1 i2 hmz hP hD hS hl
      refine lv_iload_n hx hb dX11_legs_4 rfl (lv_at hl 0 rfl) ?_
      refine zz_bipush hx hb dX11_legs_5 (by decide) ?_
      refine zz_icmp_ge (tgt := 47) hx hb dX11_legs_7 (by decide) (by omega) (by decide) (fun c_7 => ?_) (fun c_7 => ?_)
      · refine lv_iload_n hx hb dX11_legs_47 rfl (lv_at hl 1 rfl) ?_
        exact hret n1 () _ _ _ _ dX11_legs_48 ⟨(show n1 = lgsM ms from by rw [i1, show a = 10 by omega]; rfl), (show 0 ≤ n1 ∧ n1 ≤ 100 from by omega)⟩ hP hD hS
      · refine zz_iconst hx hb dX11_legs_10 ?_
        refine lv_istore_n (lv' := [(3, .int (iI 0)), (2, .int (iI a)), (1, .int (iI n1)), (0, .ref a0)]) hx hb dX11_legs_11 rfl hl (by decide) rfl (fun ls hl => ?_)
        have L12 : ∀ (n : Nat) (b : Int) (n2 : Int) (H : Heap) (locs : List Loc) (ls : Array Slot), (0 ≤ b ∧ b ≤ a) → (n2 - n1 = sm (fun b => if 0 < lgM ms a b 0 then 1 else 0) b.toNat) → (n1 ≤ n2 ∧ n2 ≤ n1 + b) → (a - b).toNat < n → va_P D vwCl (bModel tA a0 a1 a2 a3 a4 a5 a6 a7 a8 a9 a10 ms mbef msav misv mpast mpm mthr mways mnds mtkp mline mlm mtxt mlen mat mwr merr mfail mcmd mcm) H → va_D A (bModel tA a0 a1 a2 a3 a4 a5 a6 a7 a8 a9 a10 ms mbef msav misv mpast mpm mthr mways mnds mtkp mline mlm mtxt mlen mat mwr merr mfail mcmd mcm) → va_S A s.heap H locs → lv_has ls 4 [(3, .int (iI b)), (2, .int (iI a)), (1, .int (iI n2)), (0, .ref a0)] → W p l e (headSpec wsX11_legs ({ frames := 1, cells := 0, slots := 0, locals := 23 })).room s m args below meth c H locs 0 0 Q (F0 m 12 ls []) := by
          intro n
          induction n with
          | zero => intro b n2 H locs ls j0 j1 j2 hmz; exact absurd hmz (Nat.not_lt_zero _)
          | succ n ih12 =>
            intro b n2 H locs ls j0 j1 j2 hmz hP hD hS hl
            refine lv_iload_n hx hb dX11_legs_12 rfl (lv_at hl 0 rfl) ?_
            refine lv_iload_n hx hb dX11_legs_13 rfl (lv_at hl 1 rfl) ?_
            refine zz_icmp_ge (tgt := 41) hx hb dX11_legs_14 (by decide) (by omega) (by omega) (fun c_14 => ?_) (fun c_14 => ?_)
            · refine zz_iinc (lv' := [(2, .int (iI (a + 1))), (3, .int (iI b)), (1, .int (iI n2)), (0, .ref a0)]) hx hb dX11_legs_41 hl (k := 1) rfl (by decide) rfl (fun ls hl => ?_)
              refine lv_goto (tgt := 4) hx hb dX11_legs_44 (by decide) ?_
              exact ih4 (a + 1) n2 _ _ _ (by omega) (by rw [show b = a by omega] at j1; rw [← sm_next (by omega), ← i1]; show n2 = n1 + sm (fun b => if 0 < lgM ms a b 0 then 1 else 0) a.toNat; omega) (by omega) (by omega) hP hD hS (lv_sub hl [0, 2, 3] rfl)
            · refine lv_iload_n hx hb dX11_legs_17 rfl (lv_at hl 2 rfl) ?_
              refine lv_aload_n hx hb dX11_legs_18 rfl (lv_at hl 3 rfl) ?_
              refine lv_iload_n hx hb dX11_legs_19 rfl (lv_at hl 1 rfl) ?_
              refine lv_iload_n hx hb dX11_legs_20 rfl (lv_at hl 0 rfl) ?_
              refine zz_iconst hx hb dX11_legs_21 ?_
              refine zz_callVi (As := [.int (iI a), .int (iI b), .int (iI 0)]) (rest := [.int (iI n2)]) (wf := fun u => bModel tA a0 a1 a2 a3 a4 a5 a6 a7 a8 a9 a10 ms mbef msav misv mpast mpm mthr mways mnds mtkp mline mlm mtxt mlen mat mwr merr mfail mcmd mcm) ⟨hx, hb, hml, hown, hts⟩ (c_X11_leg l D tA a0 a1 a2 a3 a4 a5 a6 a7 a8 a9 a10 H.size ms mbef msav misv mpast mpm mthr mways mnds mtkp mline mlm mtxt mlen mat mwr merr mfail mcmd mcm a b 0 (by first | assumption | omega) (by first | assumption | omega) (by first | assumption | omega) (by first | assumption | omega) (by first | assumption | omega) (by first | assumption | omega)) (cwV 3 hts gX11_legs_X11_leg rfl rfl rfl (by decide +kernel) ⟨Nat.le_of_ble_eq_true rfl, Nat.le_of_ble_eq_true rfl⟩) hK hP hD hS hA [0, 1, 2, 3, 4, 5, 6, 7, 8, 9, 10] [] [0, 1, 2, 3, 4, 5, 6, 7, 8, 9, 10] rfl rfl (by decide) (by decide) (by decide) (by decide) (fun _ => rfl) (ci := 13) (q0 := 0) rfl rfl rfl rfl rfl hl.1 (Nat.le_of_ble_eq_true rfl) dX11_legs_22 ⟨Nat.le_of_ble_eq_true rfl, Nat.le_of_ble_eq_true rfl⟩ ?_
              intro z22_1 u H locs p22_2 hP hD hS
              have hP : va_P D vwCl (bModel tA a0 a1 a2 a3 a4 a5 a6 a7 a8 a9 a10 ms mbef msav misv mpast mpm mthr mways mnds mtkp mline mlm mtxt mlen mat mwr merr mfail mcmd mcm) H := hP
              have hD : va_D A (bModel tA a0 a1 a2 a3 a4 a5 a6 a7 a8 a9 a10 ms mbef msav misv mpast mpm mthr mways mnds mtkp mline mlm mtxt mlen mat mwr merr mfail mcmd mcm) := hD
              have q_22 : z22_1 = lgM ms a b 0 := p22_2
              have rl := hlr (a) (b) (0) (by omega) (by omega) (by omega) (by omega) (by omega) (by omega)
              refine zz_if_le (tgt := 32) hx hb dX11_legs_25 (by decide) (by omega) (fun c_25 => ?_) (fun c_25 => ?_)
              · refine zz_iconst hx hb dX11_legs_32 ?_
                refine zz_iadd hx hb dX11_legs_33 ?_
                refine lv_istore_n (lv' := [(1, .int (iI (n2 + 0))), (3, .int (iI b)), (2, .int (iI a)), (0, .ref a0)]) hx hb dX11_legs_34 rfl hl (by decide) rfl (fun ls hl => ?_)
                refine zz_iinc (lv' := [(3, .int (iI (b + 1))), (1, .int (iI (n2 + 0))), (2, .int (iI a)), (0, .ref a0)]) hx hb dX11_legs_35 hl (k := 1) rfl (by decide) rfl (fun ls hl => ?_)
                refine lv_goto (tgt := 12) hx hb dX11_legs_38 (by decide) ?_
                exact ih12 (b + 1) (n2 + 0) _ _ _ (by omega) (by first | (have e := sm_next1 (f := (fun b => if 0 < lgM ms a b 0 then 1 else 0)) (i := b) (by omega) (if_pos (by omega)); omega) | (have e := sm_next0 (f := (fun b => if 0 < lgM ms a b 0 then 1 else 0)) (i := b) (by omega) (if_neg (by omega)); omega)) (by omega) (by omega) hP hD hS (lv_sub hl [0, 2, 1, 3] rfl)
              · refine zz_iconst hx hb dX11_legs_28 ?_
                refine lv_goto (tgt := 33) hx hb dX11_legs_29 (by decide) ?_
                refine zz_iadd hx hb dX11_legs_33 ?_
                refine lv_istore_n (lv' := [(1, .int (iI (n2 + 1))), (3, .int (iI b)), (2, .int (iI a)), (0, .ref a0)]) hx hb dX11_legs_34 rfl hl (by decide) rfl (fun ls hl => ?_)
                refine zz_iinc (lv' := [(3, .int (iI (b + 1))), (1, .int (iI (n2 + 1))), (2, .int (iI a)), (0, .ref a0)]) hx hb dX11_legs_35 hl (k := 1) rfl (by decide) rfl (fun ls hl => ?_)
                refine lv_goto (tgt := 12) hx hb dX11_legs_38 (by decide) ?_
                exact ih12 (b + 1) (n2 + 1) _ _ _ (by omega) (by first | (have e := sm_next1 (f := (fun b => if 0 < lgM ms a b 0 then 1 else 0)) (i := b) (by omega) (if_pos (by omega)); omega) | (have e := sm_next0 (f := (fun b => if 0 < lgM ms a b 0 then 1 else 0)) (i := b) (by omega) (if_neg (by omega)); omega)) (by omega) (by omega) hP hD hS (lv_sub hl [0, 2, 1, 3] rfl)
        exact L12 _ 0 n1 _ _ _ (by omega) (by show n1 - n1 = 0; omega) (by omega) (Nat.lt_succ_self _) hP hD hS (lv_sub hl [0, 1, 2, 3] rfl)
  exact L4 _ 0 0 _ _ _ (by omega) (by rfl) (by omega) (Nat.lt_succ_self _) hP hD hS (lv_sub hl [0, 1, 2] rfl)

set_option maxHeartbeats 4000000 in
set_option maxRecDepth 100000 in
theorem c_X11_shines (l : Launch) (D : va_G) (tA : Nat → ClassId) (a0 a1 a2 a3 a4 a5 a6 a7 a8 a9 a10 : Nat) (sz : Nat) (ms : Int → Int) (mbef : Int → Int) (msav : Int → Int) (misv : Int) (mpast : Int → Int) (mpm : Int) (mthr : Int) (mways : Int → Int) (mnds : Int → Int) (mtkp : Int → Int) (mline : Int → Int) (mlm : Int) (mtxt : Int → Int) (mlen : Int) (mat : Int) (mwr : Int) (merr : Int) (mfail : Int) (mcmd : Int → Int) (mcm : Int) (frm : Int) (too : Int) (r_frm : -2147483648 ≤ frm ∧ frm ≤ 2147483647) (r_too : -2147483648 ≤ too ∧ too ≤ 2147483647) (h_frm : 0 ≤ frm ∧ frm < 10) (h_too : 0 ≤ too ∧ too < 10) (hlr : MLr ms) (hrg : -1000000000 ≤ ms 3 ∧ ms 3 ≤ 1000000000) : zMi l yX11_shines wsX11_shines ({ frames := 1, cells := 0, slots := 0, locals := 23 }) D tA [.ref a0, .int (iI frm), .int (iI too)] (bModel tA a0 a1 a2 a3 a4 a5 a6 a7 a8 a9 a10 ms mbef msav misv mpast mpm mthr mways mnds mtkp mline mlm mtxt mlen mat mwr merr mfail mcmd mcm) sz (fun (z : Int) (u : Unit) => ((z = 1 ∧ 0 < lgM ms frm too 0 ∧ lgM ms frm too 1 ≤ ms 3) ∨ (z = 0 ∧ ¬ (0 < lgM ms frm too 0 ∧ lgM ms frm too 1 ≤ ms 3)))) (fun (u : Unit) => bModel tA a0 a1 a2 a3 a4 a5 a6 a7 a8 a9 a10 ms mbef msav misv mpast mpm mthr mways mnds mtkp mline mlm mtxt mlen mat mwr merr mfail mcmd mcm) 0 0 := by
  refine zMi_of (cc := cX11_shines) (maxL := 3) (by decide) rfl (fun z u h => zbool z (by omega)) (Nat.le_of_ble_eq_true rfl) ?_
  intro p e s m args below meth c A Q ls hx hb hml hts hown hK hP hD hA hret hl
  obtain ⟨H, hHe⟩ : ∃ H : Heap, H = s.heap := ⟨_, rfl⟩
  have hS : va_S A s.heap H [] := by rw [hHe]; exact va_S.rf
  rw [← hHe] at hP ⊢
  have hl : lv_has ls 3 [(0, .ref a0), (1, .int (iI frm)), (2, .int (iI too))] := hl
  have iX11 : ∀ v ∈ wsX110, v ∈ wsX11_shines := by decide +kernel
  have f_9 := hts (.fieldLink RX11 9 "HarborLightsModel" "s" "[I") (by decide +kernel)
  refine lv_aload_n hx hb dX11_shines_0 rfl (lv_at hl 0 rfl) ?_
  refine lv_iload_n hx hb dX11_shines_1 rfl (lv_at hl 1 rfl) ?_
  refine lv_iload_n hx hb dX11_shines_2 rfl (lv_at hl 2 rfl) ?_
  refine zz_iconst hx hb dX11_shines_3 ?_
  refine zz_callVi (As := [.int (iI frm), .int (iI too), .int (iI 0)]) (rest := []) (wf := fun u => bModel tA a0 a1 a2 a3 a4 a5 a6 a7 a8 a9 a10 ms mbef msav misv mpast mpm mthr mways mnds mtkp mline mlm mtxt mlen mat mwr merr mfail mcmd mcm) ⟨hx, hb, hml, hown, hts⟩ (c_X11_leg l D tA a0 a1 a2 a3 a4 a5 a6 a7 a8 a9 a10 H.size ms mbef msav misv mpast mpm mthr mways mnds mtkp mline mlm mtxt mlen mat mwr merr mfail mcmd mcm frm too 0 (by first | assumption | omega) (by first | assumption | omega) (by first | assumption | omega) (by first | assumption | omega) (by first | assumption | omega) (by first | assumption | omega)) (cwV 3 hts gX11_shines_X11_leg rfl rfl rfl (by decide +kernel) ⟨Nat.le_of_ble_eq_true rfl, Nat.le_of_ble_eq_true rfl⟩) hK hP hD hS hA [0, 1, 2, 3, 4, 5, 6, 7, 8, 9, 10] [] [0, 1, 2, 3, 4, 5, 6, 7, 8, 9, 10] rfl rfl (by decide) (by decide) (by decide) (by decide) (fun _ => rfl) (ci := 13) (q0 := 0) rfl rfl rfl rfl rfl hl.1 (Nat.le_of_ble_eq_true rfl) dX11_shines_4 ⟨Nat.le_of_ble_eq_true rfl, Nat.le_of_ble_eq_true rfl⟩ ?_
  intro z4_1 u H locs p4_2 hP hD hS
  have hP : va_P D vwCl (bModel tA a0 a1 a2 a3 a4 a5 a6 a7 a8 a9 a10 ms mbef msav misv mpast mpm mthr mways mnds mtkp mline mlm mtxt mlen mat mwr merr mfail mcmd mcm) H := hP
  have hD : va_D A (bModel tA a0 a1 a2 a3 a4 a5 a6 a7 a8 a9 a10 ms mbef msav misv mpast mpm mthr mways mnds mtkp mline mlm mtxt mlen mat mwr merr mfail mcmd mcm) := hD
  have q_4 : z4_1 = lgM ms frm too 0 := p4_2
  have rl := hlr (frm) (too) (0) (by omega) (by omega) (by omega) (by omega) (by omega) (by omega)
  refine zz_if_le (tgt := 30) hx hb dX11_shines_7 (by decide) (by omega) (fun c_7 => ?_) (fun c_7 => ?_)
  · refine zz_iconst hx hb dX11_shines_30 ?_
    exact hret 0 () _ _ _ _ dX11_shines_31 (show ((0 : Int) = 1 ∧ 0 < lgM ms frm too 0 ∧ lgM ms frm too 1 ≤ ms 3) ∨ ((0 : Int) = 0 ∧ ¬ (0 < lgM ms frm too 0 ∧ lgM ms frm too 1 ≤ ms 3)) from by omega) hP hD hS
  · refine lv_aload_n hx hb dX11_shines_10 rfl (lv_at hl 0 rfl) ?_
    refine lv_iload_n hx hb dX11_shines_11 rfl (lv_at hl 1 rfl) ?_
    refine lv_iload_n hx hb dX11_shines_12 rfl (lv_at hl 2 rfl) ?_
    refine zz_iconst hx hb dX11_shines_13 ?_
    refine zz_callVi (As := [.int (iI frm), .int (iI too), .int (iI 1)]) (rest := []) (wf := fun u => bModel tA a0 a1 a2 a3 a4 a5 a6 a7 a8 a9 a10 ms mbef msav misv mpast mpm mthr mways mnds mtkp mline mlm mtxt mlen mat mwr merr mfail mcmd mcm) ⟨hx, hb, hml, hown, hts⟩ (c_X11_leg l D tA a0 a1 a2 a3 a4 a5 a6 a7 a8 a9 a10 H.size ms mbef msav misv mpast mpm mthr mways mnds mtkp mline mlm mtxt mlen mat mwr merr mfail mcmd mcm frm too 1 (by first | assumption | omega) (by first | assumption | omega) (by first | assumption | omega) (by first | assumption | omega) (by first | assumption | omega) (by first | assumption | omega)) (cwV 3 hts gX11_shines_X11_leg rfl rfl rfl (by decide +kernel) ⟨Nat.le_of_ble_eq_true rfl, Nat.le_of_ble_eq_true rfl⟩) hK hP hD hS hA [0, 1, 2, 3, 4, 5, 6, 7, 8, 9, 10] [] [0, 1, 2, 3, 4, 5, 6, 7, 8, 9, 10] rfl rfl (by decide) (by decide) (by decide) (by decide) (fun _ => rfl) (ci := 13) (q0 := 0) rfl rfl rfl rfl rfl hl.1 (Nat.le_of_ble_eq_true rfl) dX11_shines_14 ⟨Nat.le_of_ble_eq_true rfl, Nat.le_of_ble_eq_true rfl⟩ ?_
    intro z14_3 u H locs p14_4 hP hD hS
    have hP : va_P D vwCl (bModel tA a0 a1 a2 a3 a4 a5 a6 a7 a8 a9 a10 ms mbef msav misv mpast mpm mthr mways mnds mtkp mline mlm mtxt mlen mat mwr merr mfail mcmd mcm) H := hP
    have hD : va_D A (bModel tA a0 a1 a2 a3 a4 a5 a6 a7 a8 a9 a10 ms mbef msav misv mpast mpm mthr mways mnds mtkp mline mlm mtxt mlen mat mwr merr mfail mcmd mcm) := hD
    have q_14 : z14_3 = lgM ms frm too 1 := p14_4
    have rl2 := hlr (frm) (too) (1) (by omega) (by omega) (by omega) (by omega) (by omega) (by omega)
    refine lv_aload_n hx hb dX11_shines_17 rfl (lv_at hl 0 rfl) ?_
    refine va_get (D := D) (ci := 13) (v := .ref a1) (C := RX11) (T := TX11) (N := 20) hx hb hts iX11 hown hK hP 0 rfl rfl 0 (by decide) f_9 (fun _ h9 => h9) rfl dX11_shines_18 ?_
    refine zz_iconst hx hb dX11_shines_21 ?_
    refine zz_iald hx hb hK hP 1 rfl (by decide) (by omega) dX11_shines_22 ?_
    refine zz_icmp_gt (tgt := 30) hx hb dX11_shines_23 (by decide) (by omega) (by omega) (fun c_23 => ?_) (fun c_23 => ?_)
    · refine zz_iconst hx hb dX11_shines_30 ?_
      exact hret 0 () _ _ _ _ dX11_shines_31 (show ((0 : Int) = 1 ∧ 0 < lgM ms frm too 0 ∧ lgM ms frm too 1 ≤ ms 3) ∨ ((0 : Int) = 0 ∧ ¬ (0 < lgM ms frm too 0 ∧ lgM ms frm too 1 ≤ ms 3)) from by omega) hP hD hS
    · refine zz_iconst hx hb dX11_shines_26 ?_
      refine lv_goto (tgt := 31) hx hb dX11_shines_27 (by decide) ?_
      exact hret 1 () _ _ _ _ dX11_shines_31 (show ((1 : Int) = 1 ∧ 0 < lgM ms frm too 0 ∧ lgM ms frm too 1 ≤ ms 3) ∨ ((1 : Int) = 0 ∧ ¬ (0 < lgM ms frm too 0 ∧ lgM ms frm too 1 ≤ ms 3)) from by omega) hP hD hS

set_option maxHeartbeats 4000000 in
set_option maxRecDepth 100000 in
theorem c_X11_doAddPort (l : Launch) (D : va_G) (tA : Nat → ClassId) (a0 a1 a2 a3 a4 a5 a6 a7 a8 a9 a10 : Nat) (sz : Nat) (ms : Int → Int) (mbef : Int → Int) (msav : Int → Int) (misv : Int) (mpast : Int → Int) (mpm : Int) (mthr : Int) (mways : Int → Int) (mnds : Int → Int) (mtkp : Int → Int) (mline : Int → Int) (mlm : Int) (mtxt : Int → Int) (mlen : Int) (mat : Int) (mwr : Int) (merr : Int) (mfail : Int) (mcmd : Int → Int) (mcm : Int) (hp : 0 ≤ ms 0 ∧ ms 0 ≤ 10) (hth : mthr = 0) : zMi l yX11_doAddPort wsX11_doAddPort ({ frames := 1, cells := 0, slots := 0, locals := 21 }) D tA [.ref a0] (bModel tA a0 a1 a2 a3 a4 a5 a6 a7 a8 a9 a10 ms mbef msav misv mpast mpm mthr mways mnds mtkp mline mlm mtxt mlen mat mwr merr mfail mcmd mcm) sz (fun (z : Int) (u : (Int → Int) × (Int)) => (mAddPort ms z u.2 u.1)) (fun (u : (Int → Int) × (Int)) => bModel tA a0 a1 a2 a3 a4 a5 a6 a7 a8 a9 a10 u.1 mbef msav misv mpast mpm u.2 mways mnds mtkp mline mlm mtxt mlen mat mwr merr mfail mcmd mcm) 0 0 := by
  refine zMi_of (cc := cX11_doAddPort) (maxL := 1) (by decide) rfl (fun z u h => rfl) (Nat.le_of_ble_eq_true rfl) ?_
  intro p e s m args below meth c A Q ls hx hb hml hts hown hK hP hD hA hret hl
  obtain ⟨H, hHe⟩ : ∃ H : Heap, H = s.heap := ⟨_, rfl⟩
  have hS : va_S A s.heap H [] := by rw [hHe]; exact va_S.rf
  rw [← hHe] at hP ⊢
  have hl : lv_has ls 1 [(0, .ref a0)] := hl
  have iX11 : ∀ v ∈ wsX110, v ∈ wsX11_doAddPort := by decide +kernel
  have f_9 := hts (.fieldLink RX11 9 "HarborLightsModel" "s" "[I") (by decide +kernel)
  refine lv_aload_n hx hb dX11_doAddPort_0 rfl (lv_at hl 0 rfl) ?_
  refine va_get (D := D) (ci := 13) (v := .ref a1) (C := RX11) (T := TX11) (N := 20) hx hb hts iX11 hown hK hP 0 rfl rfl 0 (by decide) f_9 (fun _ h9 => h9) rfl dX11_doAddPort_1 ?_
  refine zz_iconst hx hb dX11_doAddPort_4 ?_
  refine zz_iald hx hb hK hP 1 rfl (by decide) (by omega) dX11_doAddPort_5 ?_
  refine zz_bipush hx hb dX11_doAddPort_6 (by decide) ?_
  refine zz_icmp_ne (tgt := 17) hx hb dX11_doAddPort_8 (by decide) (by omega) (by decide) (fun c_8 => ?_) (fun c_8 => ?_)
  · refine lv_aload_n hx hb dX11_doAddPort_17 rfl (lv_at hl 0 rfl) ?_
    refine va_get (D := D) (ci := 13) (v := .ref a1) (C := RX11) (T := TX11) (N := 20) hx hb hts iX11 hown hK hP 0 rfl rfl 0 (by decide) f_9 (fun _ h9 => h9) rfl dX11_doAddPort_18 ?_
    refine zz_iconst hx hb dX11_doAddPort_21 ?_
    refine lv_dup2_11 hx hb dX11_doAddPort_22 rfl rfl ?_
    refine zz_iald hx hb hK hP 1 rfl (by decide) (by omega) dX11_doAddPort_23 ?_
    refine zz_iconst hx hb dX11_doAddPort_24 ?_
    refine zz_iadd hx hb dX11_doAddPort_25 ?_
    refine zz_iast hx hb hK hP hD hS 1 rfl (by decide) (by omega) dX11_doAddPort_26 (fun H locs hP hD hS => ?_)
    have hP : va_P D vwCl (bModel tA a0 a1 a2 a3 a4 a5 a6 a7 a8 a9 a10 (zU ms 0 ((ms 0) + 1)) mbef msav misv mpast mpm mthr mways mnds mtkp mline mlm mtxt mlen mat mwr merr mfail mcmd mcm) H := hP
    have hD : va_D A (bModel tA a0 a1 a2 a3 a4 a5 a6 a7 a8 a9 a10 (zU ms 0 ((ms 0) + 1)) mbef msav misv mpast mpm mthr mways mnds mtkp mline mlm mtxt mlen mat mwr merr mfail mcmd mcm) := hD
    refine lv_aload_n hx hb dX11_doAddPort_27 rfl (lv_at hl 0 rfl) ?_
    refine va_get (D := D) (ci := 13) (v := .ref a1) (C := RX11) (T := TX11) (N := 20) hx hb hts iX11 hown hK hP 0 rfl rfl 0 (by decide) f_9 (fun _ h9 => h9) rfl dX11_doAddPort_28 ?_
    refine zz_iconst hx hb dX11_doAddPort_31 ?_
    refine zz_iald hx hb hK hP 1 rfl (by decide) (by omega) dX11_doAddPort_32 ?_
    refine zz_iconst hx hb dX11_doAddPort_33 ?_
    refine zz_isub hx hb dX11_doAddPort_34 ?_
    exact hret (((zU ms 0 ((ms 0) + 1)) 0) - 1) ((zU ms 0 ((ms 0) + 1)), mthr) _ _ _ _ dX11_doAddPort_35 (show mAddPort ms (((zU ms 0 ((ms 0) + 1)) 0) - 1) mthr (zU ms 0 ((ms 0) + 1)) from by exact Or.inr ⟨hth, by omega, by rw [zU_same]; omega, rfl⟩) hP hD hS
  · refine lv_aload_n hx hb dX11_doAddPort_11 rfl (lv_at hl 0 rfl) ?_
    refine zz_iconst hx hb dX11_doAddPort_12 ?_
    refine zz_callVi (As := [.int (iI 1)]) (rest := []) (wf := fun u => bModel tA a0 a1 a2 a3 a4 a5 a6 a7 a8 a9 a10 ms mbef msav misv mpast mpm 1 mways mnds mtkp mline mlm mtxt mlen mat mwr merr mfail mcmd mcm) ⟨hx, hb, hml, hown, hts⟩ (c_X11_fails l D tA a0 a1 a2 a3 a4 a5 a6 a7 a8 a9 a10 H.size ms mbef msav misv mpast mpm mthr mways mnds mtkp mline mlm mtxt mlen mat mwr merr mfail mcmd mcm 1 (by first | assumption | omega)) (cwV 1 hts gX11_doAddPort_X11_fails rfl rfl rfl (by decide +kernel) ⟨Nat.le_of_ble_eq_true rfl, Nat.le_of_ble_eq_true rfl⟩) hK hP hD hS hA [0, 1, 2, 3, 4, 5, 6, 7, 8, 9, 10] [] [0, 1, 2, 3, 4, 5, 6, 7, 8, 9, 10] rfl rfl (by decide) (by decide) (by decide) (by decide) (fun _ => rfl) (ci := 13) (q0 := 0) rfl rfl rfl rfl rfl hl.1 (Nat.le_of_ble_eq_true rfl) dX11_doAddPort_13 ⟨Nat.le_of_ble_eq_true rfl, Nat.le_of_ble_eq_true rfl⟩ ?_
    intro z13_1 u H locs p13_2 hP hD hS
    have hP : va_P D vwCl (bModel tA a0 a1 a2 a3 a4 a5 a6 a7 a8 a9 a10 ms mbef msav misv mpast mpm 1 mways mnds mtkp mline mlm mtxt mlen mat mwr merr mfail mcmd mcm) H := hP
    have hD : va_D A (bModel tA a0 a1 a2 a3 a4 a5 a6 a7 a8 a9 a10 ms mbef msav misv mpast mpm 1 mways mnds mtkp mline mlm mtxt mlen mat mwr merr mfail mcmd mcm) := hD
    have q_13 : z13_1 = 0 := p13_2
    exact hret z13_1 (ms, 1) _ _ _ _ dX11_doAddPort_16 (show mAddPort ms z13_1 1 ms from by exact Or.inl ⟨rfl, c_8, rfl⟩) hP hD hS

set_option maxHeartbeats 4000000 in
set_option maxRecDepth 100000 in
theorem c_X11_doAddLeg (l : Launch) (D : va_G) (tA : Nat → ClassId) (a0 a1 a2 a3 a4 a5 a6 a7 a8 a9 a10 : Nat) (sz : Nat) (ms : Int → Int) (mbef : Int → Int) (msav : Int → Int) (misv : Int) (mpast : Int → Int) (mpm : Int) (mthr : Int) (mways : Int → Int) (mnds : Int → Int) (mtkp : Int → Int) (mline : Int → Int) (mlm : Int) (mtxt : Int → Int) (mlen : Int) (mat : Int) (mwr : Int) (merr : Int) (mfail : Int) (mcmd : Int → Int) (mcm : Int) (frm : Int) (too : Int) (w : Int) (r : Int) (r_frm : -2147483648 ≤ frm ∧ frm ≤ 2147483647) (r_too : -2147483648 ≤ too ∧ too ≤ 2147483647) (r_w : -2147483648 ≤ w ∧ w ≤ 2147483647) (r_r : -2147483648 ≤ r ∧ r ≤ 2147483647) (hp : 0 ≤ ms 0 ∧ ms 0 ≤ 10) (hlr : MLr ms) (hth : mthr = 0) : zMi l yX11_doAddLeg wsX11_doAddLeg ({ frames := 2, cells := 0, slots := 0, locals := 46 }) D tA [.ref a0, .int (iI frm), .int (iI too), .int (iI w), .int (iI r)] (bModel tA a0 a1 a2 a3 a4 a5 a6 a7 a8 a9 a10 ms mbef msav misv mpast mpm mthr mways mnds mtkp mline mlm mtxt mlen mat mwr merr mfail mcmd mcm) sz (fun (z : Int) (u : (Int → Int) × (Int)) => (mAddLeg ms frm too w r z u.2 u.1)) (fun (u : (Int → Int) × (Int)) => bModel tA a0 a1 a2 a3 a4 a5 a6 a7 a8 a9 a10 u.1 mbef msav misv mpast mpm u.2 mways mnds mtkp mline mlm mtxt mlen mat mwr merr mfail mcmd mcm) 0 0 := by
  refine zMi_of (cc := cX11_doAddLeg) (maxL := 5) (by decide) rfl (fun z u h => rfl) (Nat.le_of_ble_eq_true rfl) ?_
  intro p e s m args below meth c A Q ls hx hb hml hts hown hK hP hD hA hret hl
  obtain ⟨H, hHe⟩ : ∃ H : Heap, H = s.heap := ⟨_, rfl⟩
  have hS : va_S A s.heap H [] := by rw [hHe]; exact va_S.rf
  rw [← hHe] at hP ⊢
  have hl : lv_has ls 5 [(0, .ref a0), (1, .int (iI frm)), (2, .int (iI too)), (3, .int (iI w)), (4, .int (iI r))] := hl
  refine lv_aload_n hx hb dX11_doAddLeg_0 rfl (lv_at hl 0 rfl) ?_
  refine lv_iload_n hx hb dX11_doAddLeg_1 rfl (lv_at hl 1 rfl) ?_
  refine lv_iload_n hx hb dX11_doAddLeg_2 rfl (lv_at hl 2 rfl) ?_
  refine zz_callVi (As := [.int (iI frm), .int (iI too)]) (rest := []) (wf := fun u => bModel tA a0 a1 a2 a3 a4 a5 a6 a7 a8 a9 a10 ms mbef msav misv mpast mpm mthr mways mnds mtkp mline mlm mtxt mlen mat mwr merr mfail mcmd mcm) ⟨hx, hb, hml, hown, hts⟩ (c_X11_arePorts l D tA a0 a1 a2 a3 a4 a5 a6 a7 a8 a9 a10 H.size ms mbef msav misv mpast mpm mthr mways mnds mtkp mline mlm mtxt mlen mat mwr merr mfail mcmd mcm frm too (by first | assumption | omega) (by first | assumption | omega) (by first | assumption | omega)) (cwV 2 hts gX11_doAddLeg_X11_arePorts rfl rfl rfl (by decide +kernel) ⟨Nat.le_of_ble_eq_true rfl, Nat.le_of_ble_eq_true rfl⟩) hK hP hD hS hA [0, 1, 2, 3, 4, 5, 6, 7, 8, 9, 10] [] [0, 1, 2, 3, 4, 5, 6, 7, 8, 9, 10] rfl rfl (by decide) (by decide) (by decide) (by decide) (fun _ => rfl) (ci := 13) (q0 := 0) rfl rfl rfl rfl rfl hl.1 (Nat.le_of_ble_eq_true rfl) dX11_doAddLeg_3 ⟨Nat.le_of_ble_eq_true rfl, Nat.le_of_ble_eq_true rfl⟩ ?_
  intro z3_1 u H locs p3_2 hP hD hS
  have hP : va_P D vwCl (bModel tA a0 a1 a2 a3 a4 a5 a6 a7 a8 a9 a10 ms mbef msav misv mpast mpm mthr mways mnds mtkp mline mlm mtxt mlen mat mwr merr mfail mcmd mcm) H := hP
  have hD : va_D A (bModel tA a0 a1 a2 a3 a4 a5 a6 a7 a8 a9 a10 ms mbef msav misv mpast mpm mthr mways mnds mtkp mline mlm mtxt mlen mat mwr merr mfail mcmd mcm) := hD
  have q_3 : (z3_1 = 1 ∧ inP (ms 0) frm too) ∨ (z3_1 = 0 ∧ ¬ inP (ms 0) frm too) := p3_2
  have hip : z3_1 = 1 → 0 ≤ frm ∧ frm < 10 ∧ 0 ≤ too ∧ too < 10 := fun h => q_3.elim (fun g => by obtain ⟨x0, x1, x2, x3⟩ := id g.2; omega) (fun g => absurd g.1 (by omega))
  refine zz_if_ne (tgt := 15) hx hb dX11_doAddLeg_6 (by decide) (by omega) (fun c_6 => ?_) (fun c_6 => ?_)
  · refine lv_iload_n hx hb dX11_doAddLeg_15 rfl (lv_at hl 1 rfl) ?_
    refine lv_iload_n hx hb dX11_doAddLeg_16 rfl (lv_at hl 2 rfl) ?_
    refine zz_icmp_eq (tgt := 41) hx hb dX11_doAddLeg_17 (by decide) (by omega) (by omega) (fun c_17 => ?_) (fun c_17 => ?_)
    · refine lv_aload_n hx hb dX11_doAddLeg_41 rfl (lv_at hl 0 rfl) ?_
      refine zz_iconst hx hb dX11_doAddLeg_42 ?_
      refine zz_callVi (As := [.int (iI 2)]) (rest := []) (wf := fun u => bModel tA a0 a1 a2 a3 a4 a5 a6 a7 a8 a9 a10 ms mbef msav misv mpast mpm 2 mways mnds mtkp mline mlm mtxt mlen mat mwr merr mfail mcmd mcm) ⟨hx, hb, hml, hown, hts⟩ (c_X11_fails l D tA a0 a1 a2 a3 a4 a5 a6 a7 a8 a9 a10 H.size ms mbef msav misv mpast mpm mthr mways mnds mtkp mline mlm mtxt mlen mat mwr merr mfail mcmd mcm 2 (by first | assumption | omega)) (cwV 1 hts gX11_doAddLeg_X11_fails rfl rfl rfl (by decide +kernel) ⟨Nat.le_of_ble_eq_true rfl, Nat.le_of_ble_eq_true rfl⟩) hK hP hD hS hA [0, 1, 2, 3, 4, 5, 6, 7, 8, 9, 10] [] [0, 1, 2, 3, 4, 5, 6, 7, 8, 9, 10] rfl rfl (by decide) (by decide) (by decide) (by decide) (fun _ => rfl) (ci := 13) (q0 := 0) rfl rfl rfl rfl rfl hl.1 (Nat.le_of_ble_eq_true rfl) dX11_doAddLeg_43 ⟨Nat.le_of_ble_eq_true rfl, Nat.le_of_ble_eq_true rfl⟩ ?_
      intro z43_3 u H locs p43_4 hP hD hS
      have hP : va_P D vwCl (bModel tA a0 a1 a2 a3 a4 a5 a6 a7 a8 a9 a10 ms mbef msav misv mpast mpm 2 mways mnds mtkp mline mlm mtxt mlen mat mwr merr mfail mcmd mcm) H := hP
      have hD : va_D A (bModel tA a0 a1 a2 a3 a4 a5 a6 a7 a8 a9 a10 ms mbef msav misv mpast mpm 2 mways mnds mtkp mline mlm mtxt mlen mat mwr merr mfail mcmd mcm) := hD
      have q_43 : z43_3 = 0 := p43_4
      exact hret z43_3 (ms, 2) _ _ _ _ dX11_doAddLeg_46 (show mAddLeg ms frm too w r z43_3 2 ms from by exact Or.inr ⟨q_3.elim (fun g => g.2) (fun g => absurd g.1 (by omega)), Or.inl ⟨rfl, by omega, rfl⟩⟩) hP hD hS
    · refine lv_iload_n hx hb dX11_doAddLeg_20 rfl (lv_at hl 3 rfl) ?_
      refine zz_iconst hx hb dX11_doAddLeg_21 ?_
      refine zz_bipush hx hb dX11_doAddLeg_22 (by decide) ?_
      refine zz_callSi (As := [.int (iI w), .int (iI 1), .int (iI 99)]) (rest := []) (wf := fun u => bModel tA a0 a1 a2 a3 a4 a5 a6 a7 a8 a9 a10 ms mbef msav misv mpast mpm mthr mways mnds mtkp mline mlm mtxt mlen mat mwr merr mfail mcmd mcm) ⟨hx, hb, hml, hown, hts⟩ (c_X11_in l D tA  H.size w 1 99 (by first | assumption | omega) (by first | assumption | omega) (by first | assumption | omega)) (va_cwS 3 hts gX11_doAddLeg_X11_in rfl rfl rfl (by decide +kernel) ⟨Nat.le_of_ble_eq_true rfl, Nat.le_of_ble_eq_true rfl⟩) hK hP hD hS hA [] [0, 1, 2, 3, 4, 5, 6, 7, 8, 9, 10] [0, 1, 2, 3, 4, 5, 6, 7, 8, 9, 10] rfl rfl (by decide) (by decide) (by decide) (by decide) (fun _ => rfl) rfl rfl hl.1 (Nat.le_of_ble_eq_true rfl) dX11_doAddLeg_24 ⟨Nat.le_of_ble_eq_true rfl, Nat.le_of_ble_eq_true rfl⟩ ?_
      intro z24_5 u H locs p24_6 hP hD hS
      have hP : va_P D vwCl (bModel tA a0 a1 a2 a3 a4 a5 a6 a7 a8 a9 a10 ms mbef msav misv mpast mpm mthr mways mnds mtkp mline mlm mtxt mlen mat mwr merr mfail mcmd mcm) H := hP
      have hD : va_D A (bModel tA a0 a1 a2 a3 a4 a5 a6 a7 a8 a9 a10 ms mbef msav misv mpast mpm mthr mways mnds mtkp mline mlm mtxt mlen mat mwr merr mfail mcmd mcm) := hD
      have q_24 : (z24_5 = 1 ∧ 1 ≤ w ∧ w ≤ 99) ∨ (z24_5 = 0 ∧ ¬ (1 ≤ w ∧ w ≤ 99)) := p24_6
      refine zz_if_eq (tgt := 41) hx hb dX11_doAddLeg_27 (by decide) (by omega) (fun c_27 => ?_) (fun c_27 => ?_)
      · refine lv_aload_n hx hb dX11_doAddLeg_41 rfl (lv_at hl 0 rfl) ?_
        refine zz_iconst hx hb dX11_doAddLeg_42 ?_
        refine zz_callVi (As := [.int (iI 2)]) (rest := []) (wf := fun u => bModel tA a0 a1 a2 a3 a4 a5 a6 a7 a8 a9 a10 ms mbef msav misv mpast mpm 2 mways mnds mtkp mline mlm mtxt mlen mat mwr merr mfail mcmd mcm) ⟨hx, hb, hml, hown, hts⟩ (c_X11_fails l D tA a0 a1 a2 a3 a4 a5 a6 a7 a8 a9 a10 H.size ms mbef msav misv mpast mpm mthr mways mnds mtkp mline mlm mtxt mlen mat mwr merr mfail mcmd mcm 2 (by first | assumption | omega)) (cwV 1 hts gX11_doAddLeg_X11_fails rfl rfl rfl (by decide +kernel) ⟨Nat.le_of_ble_eq_true rfl, Nat.le_of_ble_eq_true rfl⟩) hK hP hD hS hA [0, 1, 2, 3, 4, 5, 6, 7, 8, 9, 10] [] [0, 1, 2, 3, 4, 5, 6, 7, 8, 9, 10] rfl rfl (by decide) (by decide) (by decide) (by decide) (fun _ => rfl) (ci := 13) (q0 := 0) rfl rfl rfl rfl rfl hl.1 (Nat.le_of_ble_eq_true rfl) dX11_doAddLeg_43 ⟨Nat.le_of_ble_eq_true rfl, Nat.le_of_ble_eq_true rfl⟩ ?_
        intro z43_7 u H locs p43_8 hP hD hS
        have hP : va_P D vwCl (bModel tA a0 a1 a2 a3 a4 a5 a6 a7 a8 a9 a10 ms mbef msav misv mpast mpm 2 mways mnds mtkp mline mlm mtxt mlen mat mwr merr mfail mcmd mcm) H := hP
        have hD : va_D A (bModel tA a0 a1 a2 a3 a4 a5 a6 a7 a8 a9 a10 ms mbef msav misv mpast mpm 2 mways mnds mtkp mline mlm mtxt mlen mat mwr merr mfail mcmd mcm) := hD
        have q_43 : z43_7 = 0 := p43_8
        exact hret z43_7 (ms, 2) _ _ _ _ dX11_doAddLeg_46 (show mAddLeg ms frm too w r z43_7 2 ms from by exact Or.inr ⟨q_3.elim (fun g => g.2) (fun g => absurd g.1 (by omega)), Or.inl ⟨rfl, by omega, rfl⟩⟩) hP hD hS
      · refine lv_iload hx hb dX11_doAddLeg_30 (lv_at hl 4 rfl) ?_
        refine zz_iconst hx hb dX11_doAddLeg_32 ?_
        refine zz_bipush hx hb dX11_doAddLeg_33 (by decide) ?_
        refine zz_callSi (As := [.int (iI r), .int (iI 1), .int (iI 20)]) (rest := []) (wf := fun u => bModel tA a0 a1 a2 a3 a4 a5 a6 a7 a8 a9 a10 ms mbef msav misv mpast mpm mthr mways mnds mtkp mline mlm mtxt mlen mat mwr merr mfail mcmd mcm) ⟨hx, hb, hml, hown, hts⟩ (c_X11_in l D tA  H.size r 1 20 (by first | assumption | omega) (by first | assumption | omega) (by first | assumption | omega)) (va_cwS 3 hts gX11_doAddLeg_X11_in rfl rfl rfl (by decide +kernel) ⟨Nat.le_of_ble_eq_true rfl, Nat.le_of_ble_eq_true rfl⟩) hK hP hD hS hA [] [0, 1, 2, 3, 4, 5, 6, 7, 8, 9, 10] [0, 1, 2, 3, 4, 5, 6, 7, 8, 9, 10] rfl rfl (by decide) (by decide) (by decide) (by decide) (fun _ => rfl) rfl rfl hl.1 (Nat.le_of_ble_eq_true rfl) dX11_doAddLeg_35 ⟨Nat.le_of_ble_eq_true rfl, Nat.le_of_ble_eq_true rfl⟩ ?_
        intro z35_9 u H locs p35_10 hP hD hS
        have hP : va_P D vwCl (bModel tA a0 a1 a2 a3 a4 a5 a6 a7 a8 a9 a10 ms mbef msav misv mpast mpm mthr mways mnds mtkp mline mlm mtxt mlen mat mwr merr mfail mcmd mcm) H := hP
        have hD : va_D A (bModel tA a0 a1 a2 a3 a4 a5 a6 a7 a8 a9 a10 ms mbef msav misv mpast mpm mthr mways mnds mtkp mline mlm mtxt mlen mat mwr merr mfail mcmd mcm) := hD
        have q_35 : (z35_9 = 1 ∧ 1 ≤ r ∧ r ≤ 20) ∨ (z35_9 = 0 ∧ ¬ (1 ≤ r ∧ r ≤ 20)) := p35_10
        refine zz_if_ne (tgt := 47) hx hb dX11_doAddLeg_38 (by decide) (by omega) (fun c_38 => ?_) (fun c_38 => ?_)
        · have hpp := hip (by omega)
          have hin := q_3.elim (fun g => g.2) (fun g => absurd g.1 (by omega))
          refine lv_aload_n hx hb dX11_doAddLeg_47 rfl (lv_at hl 0 rfl) ?_
          refine zz_callVi (As := []) (rest := []) (wf := fun u => bModel tA a0 a1 a2 a3 a4 a5 a6 a7 a8 a9 a10 ms mbef msav misv mpast mpm mthr mways mnds mtkp mline mlm mtxt mlen mat mwr merr mfail mcmd mcm) ⟨hx, hb, hml, hown, hts⟩ (c_X11_legs l D tA a0 a1 a2 a3 a4 a5 a6 a7 a8 a9 a10 H.size ms mbef msav misv mpast mpm mthr mways mnds mtkp mline mlm mtxt mlen mat mwr merr mfail mcmd mcm (by first | assumption | omega)) (cwV 0 hts gX11_doAddLeg_X11_legs rfl rfl rfl (by decide +kernel) ⟨Nat.le_of_ble_eq_true rfl, Nat.le_of_ble_eq_true rfl⟩) hK hP hD hS hA [0, 1, 2, 3, 4, 5, 6, 7, 8, 9, 10] [] [0, 1, 2, 3, 4, 5, 6, 7, 8, 9, 10] rfl rfl (by decide) (by decide) (by decide) (by decide) (fun _ => rfl) (ci := 13) (q0 := 0) rfl rfl rfl rfl rfl hl.1 (Nat.le_of_ble_eq_true rfl) dX11_doAddLeg_48 ⟨Nat.le_of_ble_eq_true rfl, Nat.le_of_ble_eq_true rfl⟩ ?_
          intro z48_11 u H locs p48_12 hP hD hS
          have hP : va_P D vwCl (bModel tA a0 a1 a2 a3 a4 a5 a6 a7 a8 a9 a10 ms mbef msav misv mpast mpm mthr mways mnds mtkp mline mlm mtxt mlen mat mwr merr mfail mcmd mcm) H := hP
          have hD : va_D A (bModel tA a0 a1 a2 a3 a4 a5 a6 a7 a8 a9 a10 ms mbef msav misv mpast mpm mthr mways mnds mtkp mline mlm mtxt mlen mat mwr merr mfail mcmd mcm) := hD
          have q_48 : z48_11 = lgsM ms := p48_12.1
          have q2_48 : 0 ≤ z48_11 ∧ z48_11 ≤ 100 := p48_12.2
          refine zz_bipush hx hb dX11_doAddLeg_51 (by decide) ?_
          refine zz_icmp_eq (tgt := 66) hx hb dX11_doAddLeg_53 (by decide) (by omega) (by decide) (fun c_53 => ?_) (fun c_53 => ?_)
          · refine lv_aload_n hx hb dX11_doAddLeg_66 rfl (lv_at hl 0 rfl) ?_
            refine zz_iconst hx hb dX11_doAddLeg_67 ?_
            refine zz_callVi (As := [.int (iI 3)]) (rest := []) (wf := fun u => bModel tA a0 a1 a2 a3 a4 a5 a6 a7 a8 a9 a10 ms mbef msav misv mpast mpm 3 mways mnds mtkp mline mlm mtxt mlen mat mwr merr mfail mcmd mcm) ⟨hx, hb, hml, hown, hts⟩ (c_X11_fails l D tA a0 a1 a2 a3 a4 a5 a6 a7 a8 a9 a10 H.size ms mbef msav misv mpast mpm mthr mways mnds mtkp mline mlm mtxt mlen mat mwr merr mfail mcmd mcm 3 (by first | assumption | omega)) (cwV 1 hts gX11_doAddLeg_X11_fails rfl rfl rfl (by decide +kernel) ⟨Nat.le_of_ble_eq_true rfl, Nat.le_of_ble_eq_true rfl⟩) hK hP hD hS hA [0, 1, 2, 3, 4, 5, 6, 7, 8, 9, 10] [] [0, 1, 2, 3, 4, 5, 6, 7, 8, 9, 10] rfl rfl (by decide) (by decide) (by decide) (by decide) (fun _ => rfl) (ci := 13) (q0 := 0) rfl rfl rfl rfl rfl hl.1 (Nat.le_of_ble_eq_true rfl) dX11_doAddLeg_68 ⟨Nat.le_of_ble_eq_true rfl, Nat.le_of_ble_eq_true rfl⟩ ?_
            intro z68_13 u H locs p68_14 hP hD hS
            have hP : va_P D vwCl (bModel tA a0 a1 a2 a3 a4 a5 a6 a7 a8 a9 a10 ms mbef msav misv mpast mpm 3 mways mnds mtkp mline mlm mtxt mlen mat mwr merr mfail mcmd mcm) H := hP
            have hD : va_D A (bModel tA a0 a1 a2 a3 a4 a5 a6 a7 a8 a9 a10 ms mbef msav misv mpast mpm 3 mways mnds mtkp mline mlm mtxt mlen mat mwr merr mfail mcmd mcm) := hD
            have q_68 : z68_13 = 0 := p68_14
            exact hret z68_13 (ms, 3) _ _ _ _ dX11_doAddLeg_71 (show mAddLeg ms frm too w r z68_13 3 ms from by exact Or.inr ⟨hin, Or.inr ⟨by omega, Or.inl ⟨rfl, by omega, rfl⟩⟩⟩) hP hD hS
          · refine lv_aload_n hx hb dX11_doAddLeg_56 rfl (lv_at hl 0 rfl) ?_
            refine lv_iload_n hx hb dX11_doAddLeg_57 rfl (lv_at hl 1 rfl) ?_
            refine lv_iload_n hx hb dX11_doAddLeg_58 rfl (lv_at hl 2 rfl) ?_
            refine zz_iconst hx hb dX11_doAddLeg_59 ?_
            refine zz_callVi (As := [.int (iI frm), .int (iI too), .int (iI 0)]) (rest := []) (wf := fun u => bModel tA a0 a1 a2 a3 a4 a5 a6 a7 a8 a9 a10 ms mbef msav misv mpast mpm mthr mways mnds mtkp mline mlm mtxt mlen mat mwr merr mfail mcmd mcm) ⟨hx, hb, hml, hown, hts⟩ (c_X11_leg l D tA a0 a1 a2 a3 a4 a5 a6 a7 a8 a9 a10 H.size ms mbef msav misv mpast mpm mthr mways mnds mtkp mline mlm mtxt mlen mat mwr merr mfail mcmd mcm frm too 0 (by first | assumption | omega) (by first | assumption | omega) (by first | assumption | omega) (by first | assumption | omega) (by first | assumption | omega) (by first | assumption | omega)) (cwV 3 hts gX11_doAddLeg_X11_leg rfl rfl rfl (by decide +kernel) ⟨Nat.le_of_ble_eq_true rfl, Nat.le_of_ble_eq_true rfl⟩) hK hP hD hS hA [0, 1, 2, 3, 4, 5, 6, 7, 8, 9, 10] [] [0, 1, 2, 3, 4, 5, 6, 7, 8, 9, 10] rfl rfl (by decide) (by decide) (by decide) (by decide) (fun _ => rfl) (ci := 13) (q0 := 0) rfl rfl rfl rfl rfl hl.1 (Nat.le_of_ble_eq_true rfl) dX11_doAddLeg_60 ⟨Nat.le_of_ble_eq_true rfl, Nat.le_of_ble_eq_true rfl⟩ ?_
            intro z60_15 u H locs p60_16 hP hD hS
            have hP : va_P D vwCl (bModel tA a0 a1 a2 a3 a4 a5 a6 a7 a8 a9 a10 ms mbef msav misv mpast mpm mthr mways mnds mtkp mline mlm mtxt mlen mat mwr merr mfail mcmd mcm) H := hP
            have hD : va_D A (bModel tA a0 a1 a2 a3 a4 a5 a6 a7 a8 a9 a10 ms mbef msav misv mpast mpm mthr mways mnds mtkp mline mlm mtxt mlen mat mwr merr mfail mcmd mcm) := hD
            have q_60 : z60_15 = lgM ms frm too 0 := p60_16
            have rl := hlr (frm) (too) (0) (by omega) (by omega) (by omega) (by omega) (by omega) (by omega)
            refine zz_if_le (tgt := 72) hx hb dX11_doAddLeg_63 (by decide) (by omega) (fun c_63 => ?_) (fun c_63 => ?_)
            · refine lv_aload_n hx hb dX11_doAddLeg_72 rfl (lv_at hl 0 rfl) ?_
              refine lv_iload_n hx hb dX11_doAddLeg_73 rfl (lv_at hl 1 rfl) ?_
              refine lv_iload_n hx hb dX11_doAddLeg_74 rfl (lv_at hl 2 rfl) ?_
              refine zz_iconst hx hb dX11_doAddLeg_75 ?_
              refine lv_iload_n hx hb dX11_doAddLeg_76 rfl (lv_at hl 3 rfl) ?_
              refine zz_callVv (As := [.int (iI frm), .int (iI too), .int (iI 0), .int (iI w)]) (rest := []) (wf := fun u => bModel tA a0 a1 a2 a3 a4 a5 a6 a7 a8 a9 a10 (setL ms frm too 0 w) mbef msav misv mpast mpm mthr mways mnds mtkp mline mlm mtxt mlen mat mwr merr mfail mcmd mcm) ⟨hx, hb, hml, hown, hts⟩ (c_X11_setsLeg l D tA a0 a1 a2 a3 a4 a5 a6 a7 a8 a9 a10 H.size ms mbef msav misv mpast mpm mthr mways mnds mtkp mline mlm mtxt mlen mat mwr merr mfail mcmd mcm frm too 0 w (by first | assumption | omega) (by first | assumption | omega) (by first | assumption | omega) (by first | assumption | omega) (by first | assumption | omega) (by first | assumption | omega) (by first | assumption | omega)) (cwV 4 hts gX11_doAddLeg_X11_setsLeg rfl rfl rfl (by decide +kernel) ⟨Nat.le_of_ble_eq_true rfl, Nat.le_of_ble_eq_true rfl⟩) hK hP hD hS hA [0, 1, 2, 3, 4, 5, 6, 7, 8, 9, 10] [] [0, 1, 2, 3, 4, 5, 6, 7, 8, 9, 10] rfl rfl (by decide) (by decide) (by decide) (by decide) (fun _ => rfl) (ci := 13) (q0 := 0) rfl rfl rfl rfl rfl hl.1 (Nat.le_of_ble_eq_true rfl) dX11_doAddLeg_77 ⟨Nat.le_of_ble_eq_true rfl, Nat.le_of_ble_eq_true rfl⟩ ?_
              intro u H locs p77_17 hP hD hS
              have hP : va_P D vwCl (bModel tA a0 a1 a2 a3 a4 a5 a6 a7 a8 a9 a10 (setL ms frm too 0 w) mbef msav misv mpast mpm mthr mways mnds mtkp mline mlm mtxt mlen mat mwr merr mfail mcmd mcm) H := hP
              have hD : va_D A (bModel tA a0 a1 a2 a3 a4 a5 a6 a7 a8 a9 a10 (setL ms frm too 0 w) mbef msav misv mpast mpm mthr mways mnds mtkp mline mlm mtxt mlen mat mwr merr mfail mcmd mcm) := hD
              refine lv_aload_n hx hb dX11_doAddLeg_80 rfl (lv_at hl 0 rfl) ?_
              refine lv_iload_n hx hb dX11_doAddLeg_81 rfl (lv_at hl 1 rfl) ?_
              refine lv_iload_n hx hb dX11_doAddLeg_82 rfl (lv_at hl 2 rfl) ?_
              refine zz_iconst hx hb dX11_doAddLeg_83 ?_
              refine lv_iload hx hb dX11_doAddLeg_84 (lv_at hl 4 rfl) ?_
              refine zz_callVv (As := [.int (iI frm), .int (iI too), .int (iI 1), .int (iI r)]) (rest := []) (wf := fun u => bModel tA a0 a1 a2 a3 a4 a5 a6 a7 a8 a9 a10 (setL (setL ms frm too 0 w) frm too 1 r) mbef msav misv mpast mpm mthr mways mnds mtkp mline mlm mtxt mlen mat mwr merr mfail mcmd mcm) ⟨hx, hb, hml, hown, hts⟩ (c_X11_setsLeg l D tA a0 a1 a2 a3 a4 a5 a6 a7 a8 a9 a10 H.size (setL ms frm too 0 w) mbef msav misv mpast mpm mthr mways mnds mtkp mline mlm mtxt mlen mat mwr merr mfail mcmd mcm frm too 1 r (by first | assumption | omega) (by first | assumption | omega) (by first | assumption | omega) (by first | assumption | omega) (by first | assumption | omega) (by first | assumption | omega) (by first | assumption | omega)) (cwV 4 hts gX11_doAddLeg_X11_setsLeg rfl rfl rfl (by decide +kernel) ⟨Nat.le_of_ble_eq_true rfl, Nat.le_of_ble_eq_true rfl⟩) hK hP hD hS hA [0, 1, 2, 3, 4, 5, 6, 7, 8, 9, 10] [] [0, 1, 2, 3, 4, 5, 6, 7, 8, 9, 10] rfl rfl (by decide) (by decide) (by decide) (by decide) (fun _ => rfl) (ci := 13) (q0 := 0) rfl rfl rfl rfl rfl hl.1 (Nat.le_of_ble_eq_true rfl) dX11_doAddLeg_86 ⟨Nat.le_of_ble_eq_true rfl, Nat.le_of_ble_eq_true rfl⟩ ?_
              intro u H locs p86_18 hP hD hS
              have hP : va_P D vwCl (bModel tA a0 a1 a2 a3 a4 a5 a6 a7 a8 a9 a10 (setL (setL ms frm too 0 w) frm too 1 r) mbef msav misv mpast mpm mthr mways mnds mtkp mline mlm mtxt mlen mat mwr merr mfail mcmd mcm) H := hP
              have hD : va_D A (bModel tA a0 a1 a2 a3 a4 a5 a6 a7 a8 a9 a10 (setL (setL ms frm too 0 w) frm too 1 r) mbef msav misv mpast mpm mthr mways mnds mtkp mline mlm mtxt mlen mat mwr merr mfail mcmd mcm) := hD
              refine lv_aload_n hx hb dX11_doAddLeg_89 rfl (lv_at hl 0 rfl) ?_
              refine lv_iload_n hx hb dX11_doAddLeg_90 rfl (lv_at hl 1 rfl) ?_
              refine lv_iload_n hx hb dX11_doAddLeg_91 rfl (lv_at hl 2 rfl) ?_
              refine zz_iconst hx hb dX11_doAddLeg_92 ?_
              refine zz_iconst hx hb dX11_doAddLeg_93 ?_
              refine zz_callVv (As := [.int (iI frm), .int (iI too), .int (iI 2), .int (iI 0)]) (rest := []) (wf := fun u => bModel tA a0 a1 a2 a3 a4 a5 a6 a7 a8 a9 a10 (setL (setL (setL ms frm too 0 w) frm too 1 r) frm too 2 0) mbef msav misv mpast mpm mthr mways mnds mtkp mline mlm mtxt mlen mat mwr merr mfail mcmd mcm) ⟨hx, hb, hml, hown, hts⟩ (c_X11_setsLeg l D tA a0 a1 a2 a3 a4 a5 a6 a7 a8 a9 a10 H.size (setL (setL ms frm too 0 w) frm too 1 r) mbef msav misv mpast mpm mthr mways mnds mtkp mline mlm mtxt mlen mat mwr merr mfail mcmd mcm frm too 2 0 (by first | assumption | omega) (by first | assumption | omega) (by first | assumption | omega) (by first | assumption | omega) (by first | assumption | omega) (by first | assumption | omega) (by first | assumption | omega)) (cwV 4 hts gX11_doAddLeg_X11_setsLeg rfl rfl rfl (by decide +kernel) ⟨Nat.le_of_ble_eq_true rfl, Nat.le_of_ble_eq_true rfl⟩) hK hP hD hS hA [0, 1, 2, 3, 4, 5, 6, 7, 8, 9, 10] [] [0, 1, 2, 3, 4, 5, 6, 7, 8, 9, 10] rfl rfl (by decide) (by decide) (by decide) (by decide) (fun _ => rfl) (ci := 13) (q0 := 0) rfl rfl rfl rfl rfl hl.1 (Nat.le_of_ble_eq_true rfl) dX11_doAddLeg_94 ⟨Nat.le_of_ble_eq_true rfl, Nat.le_of_ble_eq_true rfl⟩ ?_
              intro u H locs p94_19 hP hD hS
              have hP : va_P D vwCl (bModel tA a0 a1 a2 a3 a4 a5 a6 a7 a8 a9 a10 (setL (setL (setL ms frm too 0 w) frm too 1 r) frm too 2 0) mbef msav misv mpast mpm mthr mways mnds mtkp mline mlm mtxt mlen mat mwr merr mfail mcmd mcm) H := hP
              have hD : va_D A (bModel tA a0 a1 a2 a3 a4 a5 a6 a7 a8 a9 a10 (setL (setL (setL ms frm too 0 w) frm too 1 r) frm too 2 0) mbef msav misv mpast mpm mthr mways mnds mtkp mline mlm mtxt mlen mat mwr merr mfail mcmd mcm) := hD
              have hl3 := MLr_set (a := frm) (b := too) (w := 0) (v := w) hlr (by omega) (by omega) (by omega) (by omega)
              have hl4 := MLr_set (a := frm) (b := too) (w := 1) (v := r) hl3 (by omega) (by omega) (by omega) (by omega)
              have hl5 := MLr_set (a := frm) (b := too) (w := 2) (v := 0) hl4 (by omega) (by omega) (by omega) (by omega)
              refine lv_aload_n hx hb dX11_doAddLeg_97 rfl (lv_at hl 0 rfl) ?_
              refine zz_callVi (As := []) (rest := []) (wf := fun u => bModel tA a0 a1 a2 a3 a4 a5 a6 a7 a8 a9 a10 (setL (setL (setL ms frm too 0 w) frm too 1 r) frm too 2 0) mbef msav misv mpast mpm mthr mways mnds mtkp mline mlm mtxt mlen mat mwr merr mfail mcmd mcm) ⟨hx, hb, hml, hown, hts⟩ (c_X11_legs l D tA a0 a1 a2 a3 a4 a5 a6 a7 a8 a9 a10 H.size (setL (setL (setL ms frm too 0 w) frm too 1 r) frm too 2 0) mbef msav misv mpast mpm mthr mways mnds mtkp mline mlm mtxt mlen mat mwr merr mfail mcmd mcm hl5) (cwV 0 hts gX11_doAddLeg_X11_legs rfl rfl rfl (by decide +kernel) ⟨Nat.le_of_ble_eq_true rfl, Nat.le_of_ble_eq_true rfl⟩) hK hP hD hS hA [0, 1, 2, 3, 4, 5, 6, 7, 8, 9, 10] [] [0, 1, 2, 3, 4, 5, 6, 7, 8, 9, 10] rfl rfl (by decide) (by decide) (by decide) (by decide) (fun _ => rfl) (ci := 13) (q0 := 0) rfl rfl rfl rfl rfl hl.1 (Nat.le_of_ble_eq_true rfl) dX11_doAddLeg_98 ⟨Nat.le_of_ble_eq_true rfl, Nat.le_of_ble_eq_true rfl⟩ ?_
              intro z98_20 u H locs p98_21 hP hD hS
              have hP : va_P D vwCl (bModel tA a0 a1 a2 a3 a4 a5 a6 a7 a8 a9 a10 (setL (setL (setL ms frm too 0 w) frm too 1 r) frm too 2 0) mbef msav misv mpast mpm mthr mways mnds mtkp mline mlm mtxt mlen mat mwr merr mfail mcmd mcm) H := hP
              have hD : va_D A (bModel tA a0 a1 a2 a3 a4 a5 a6 a7 a8 a9 a10 (setL (setL (setL ms frm too 0 w) frm too 1 r) frm too 2 0) mbef msav misv mpast mpm mthr mways mnds mtkp mline mlm mtxt mlen mat mwr merr mfail mcmd mcm) := hD
              have q_98 : z98_20 = lgsM (setL (setL (setL ms frm too 0 w) frm too 1 r) frm too 2 0) := p98_21.1
              have q2_98 : 0 ≤ z98_20 ∧ z98_20 ≤ 100 := p98_21.2
              exact hret z98_20 ((setL (setL (setL ms frm too 0 w) frm too 1 r) frm too 2 0), mthr) _ _ _ _ dX11_doAddLeg_101 (show mAddLeg ms frm too w r z98_20 mthr (setL (setL (setL ms frm too 0 w) frm too 1 r) frm too 2 0) from by exact Or.inr ⟨hin, Or.inr ⟨by omega, Or.inr ⟨hth, by omega, by omega, rfl, q_98⟩⟩⟩) hP hD hS
            · refine lv_aload_n hx hb dX11_doAddLeg_66 rfl (lv_at hl 0 rfl) ?_
              refine zz_iconst hx hb dX11_doAddLeg_67 ?_
              refine zz_callVi (As := [.int (iI 3)]) (rest := []) (wf := fun u => bModel tA a0 a1 a2 a3 a4 a5 a6 a7 a8 a9 a10 ms mbef msav misv mpast mpm 3 mways mnds mtkp mline mlm mtxt mlen mat mwr merr mfail mcmd mcm) ⟨hx, hb, hml, hown, hts⟩ (c_X11_fails l D tA a0 a1 a2 a3 a4 a5 a6 a7 a8 a9 a10 H.size ms mbef msav misv mpast mpm mthr mways mnds mtkp mline mlm mtxt mlen mat mwr merr mfail mcmd mcm 3 (by first | assumption | omega)) (cwV 1 hts gX11_doAddLeg_X11_fails rfl rfl rfl (by decide +kernel) ⟨Nat.le_of_ble_eq_true rfl, Nat.le_of_ble_eq_true rfl⟩) hK hP hD hS hA [0, 1, 2, 3, 4, 5, 6, 7, 8, 9, 10] [] [0, 1, 2, 3, 4, 5, 6, 7, 8, 9, 10] rfl rfl (by decide) (by decide) (by decide) (by decide) (fun _ => rfl) (ci := 13) (q0 := 0) rfl rfl rfl rfl rfl hl.1 (Nat.le_of_ble_eq_true rfl) dX11_doAddLeg_68 ⟨Nat.le_of_ble_eq_true rfl, Nat.le_of_ble_eq_true rfl⟩ ?_
              intro z68_22 u H locs p68_23 hP hD hS
              have hP : va_P D vwCl (bModel tA a0 a1 a2 a3 a4 a5 a6 a7 a8 a9 a10 ms mbef msav misv mpast mpm 3 mways mnds mtkp mline mlm mtxt mlen mat mwr merr mfail mcmd mcm) H := hP
              have hD : va_D A (bModel tA a0 a1 a2 a3 a4 a5 a6 a7 a8 a9 a10 ms mbef msav misv mpast mpm 3 mways mnds mtkp mline mlm mtxt mlen mat mwr merr mfail mcmd mcm) := hD
              have q_68 : z68_22 = 0 := p68_23
              exact hret z68_22 (ms, 3) _ _ _ _ dX11_doAddLeg_71 (show mAddLeg ms frm too w r z68_22 3 ms from by exact Or.inr ⟨hin, Or.inr ⟨by omega, Or.inl ⟨rfl, by omega, rfl⟩⟩⟩) hP hD hS
        · refine lv_aload_n hx hb dX11_doAddLeg_41 rfl (lv_at hl 0 rfl) ?_
          refine zz_iconst hx hb dX11_doAddLeg_42 ?_
          refine zz_callVi (As := [.int (iI 2)]) (rest := []) (wf := fun u => bModel tA a0 a1 a2 a3 a4 a5 a6 a7 a8 a9 a10 ms mbef msav misv mpast mpm 2 mways mnds mtkp mline mlm mtxt mlen mat mwr merr mfail mcmd mcm) ⟨hx, hb, hml, hown, hts⟩ (c_X11_fails l D tA a0 a1 a2 a3 a4 a5 a6 a7 a8 a9 a10 H.size ms mbef msav misv mpast mpm mthr mways mnds mtkp mline mlm mtxt mlen mat mwr merr mfail mcmd mcm 2 (by first | assumption | omega)) (cwV 1 hts gX11_doAddLeg_X11_fails rfl rfl rfl (by decide +kernel) ⟨Nat.le_of_ble_eq_true rfl, Nat.le_of_ble_eq_true rfl⟩) hK hP hD hS hA [0, 1, 2, 3, 4, 5, 6, 7, 8, 9, 10] [] [0, 1, 2, 3, 4, 5, 6, 7, 8, 9, 10] rfl rfl (by decide) (by decide) (by decide) (by decide) (fun _ => rfl) (ci := 13) (q0 := 0) rfl rfl rfl rfl rfl hl.1 (Nat.le_of_ble_eq_true rfl) dX11_doAddLeg_43 ⟨Nat.le_of_ble_eq_true rfl, Nat.le_of_ble_eq_true rfl⟩ ?_
          intro z43_24 u H locs p43_25 hP hD hS
          have hP : va_P D vwCl (bModel tA a0 a1 a2 a3 a4 a5 a6 a7 a8 a9 a10 ms mbef msav misv mpast mpm 2 mways mnds mtkp mline mlm mtxt mlen mat mwr merr mfail mcmd mcm) H := hP
          have hD : va_D A (bModel tA a0 a1 a2 a3 a4 a5 a6 a7 a8 a9 a10 ms mbef msav misv mpast mpm 2 mways mnds mtkp mline mlm mtxt mlen mat mwr merr mfail mcmd mcm) := hD
          have q_43 : z43_24 = 0 := p43_25
          exact hret z43_24 (ms, 2) _ _ _ _ dX11_doAddLeg_46 (show mAddLeg ms frm too w r z43_24 2 ms from by exact Or.inr ⟨q_3.elim (fun g => g.2) (fun g => absurd g.1 (by omega)), Or.inl ⟨rfl, by omega, rfl⟩⟩) hP hD hS
  · refine lv_aload_n hx hb dX11_doAddLeg_9 rfl (lv_at hl 0 rfl) ?_
    refine zz_iconst hx hb dX11_doAddLeg_10 ?_
    refine zz_callVi (As := [.int (iI 1)]) (rest := []) (wf := fun u => bModel tA a0 a1 a2 a3 a4 a5 a6 a7 a8 a9 a10 ms mbef msav misv mpast mpm 1 mways mnds mtkp mline mlm mtxt mlen mat mwr merr mfail mcmd mcm) ⟨hx, hb, hml, hown, hts⟩ (c_X11_fails l D tA a0 a1 a2 a3 a4 a5 a6 a7 a8 a9 a10 H.size ms mbef msav misv mpast mpm mthr mways mnds mtkp mline mlm mtxt mlen mat mwr merr mfail mcmd mcm 1 (by first | assumption | omega)) (cwV 1 hts gX11_doAddLeg_X11_fails rfl rfl rfl (by decide +kernel) ⟨Nat.le_of_ble_eq_true rfl, Nat.le_of_ble_eq_true rfl⟩) hK hP hD hS hA [0, 1, 2, 3, 4, 5, 6, 7, 8, 9, 10] [] [0, 1, 2, 3, 4, 5, 6, 7, 8, 9, 10] rfl rfl (by decide) (by decide) (by decide) (by decide) (fun _ => rfl) (ci := 13) (q0 := 0) rfl rfl rfl rfl rfl hl.1 (Nat.le_of_ble_eq_true rfl) dX11_doAddLeg_11 ⟨Nat.le_of_ble_eq_true rfl, Nat.le_of_ble_eq_true rfl⟩ ?_
    intro z11_26 u H locs p11_27 hP hD hS
    have hP : va_P D vwCl (bModel tA a0 a1 a2 a3 a4 a5 a6 a7 a8 a9 a10 ms mbef msav misv mpast mpm 1 mways mnds mtkp mline mlm mtxt mlen mat mwr merr mfail mcmd mcm) H := hP
    have hD : va_D A (bModel tA a0 a1 a2 a3 a4 a5 a6 a7 a8 a9 a10 ms mbef msav misv mpast mpm 1 mways mnds mtkp mline mlm mtxt mlen mat mwr merr mfail mcmd mcm) := hD
    have q_11 : z11_26 = 0 := p11_27
    exact hret z11_26 (ms, 1) _ _ _ _ dX11_doAddLeg_14 (show mAddLeg ms frm too w r z11_26 1 ms from by exact Or.inl ⟨rfl, q_3.elim (fun g => absurd g.1 (by omega)) (fun g => g.2), rfl⟩) hP hD hS

set_option maxHeartbeats 4000000 in
set_option maxRecDepth 100000 in
theorem c_X11_doRemoveLeg (l : Launch) (D : va_G) (tA : Nat → ClassId) (a0 a1 a2 a3 a4 a5 a6 a7 a8 a9 a10 : Nat) (sz : Nat) (ms : Int → Int) (mbef : Int → Int) (msav : Int → Int) (misv : Int) (mpast : Int → Int) (mpm : Int) (mthr : Int) (mways : Int → Int) (mnds : Int → Int) (mtkp : Int → Int) (mline : Int → Int) (mlm : Int) (mtxt : Int → Int) (mlen : Int) (mat : Int) (mwr : Int) (merr : Int) (mfail : Int) (mcmd : Int → Int) (mcm : Int) (frm : Int) (too : Int) (r_frm : -2147483648 ≤ frm ∧ frm ≤ 2147483647) (r_too : -2147483648 ≤ too ∧ too ≤ 2147483647) (hp : 0 ≤ ms 0 ∧ ms 0 ≤ 10) (hlr : MLr ms) (hth : mthr = 0) : zMi l yX11_doRemoveLeg wsX11_doRemoveLeg ({ frames := 2, cells := 0, slots := 0, locals := 44 }) D tA [.ref a0, .int (iI frm), .int (iI too)] (bModel tA a0 a1 a2 a3 a4 a5 a6 a7 a8 a9 a10 ms mbef msav misv mpast mpm mthr mways mnds mtkp mline mlm mtxt mlen mat mwr merr mfail mcmd mcm) sz (fun (z : Int) (u : (Int → Int) × (Int)) => (mRemoveLeg ms frm too z u.2 u.1)) (fun (u : (Int → Int) × (Int)) => bModel tA a0 a1 a2 a3 a4 a5 a6 a7 a8 a9 a10 u.1 mbef msav misv mpast mpm u.2 mways mnds mtkp mline mlm mtxt mlen mat mwr merr mfail mcmd mcm) 0 0 := by
  refine zMi_of (cc := cX11_doRemoveLeg) (maxL := 4) (by decide) rfl (fun z u h => rfl) (Nat.le_of_ble_eq_true rfl) ?_
  intro p e s m args below meth c A Q ls hx hb hml hts hown hK hP hD hA hret hl
  obtain ⟨H, hHe⟩ : ∃ H : Heap, H = s.heap := ⟨_, rfl⟩
  have hS : va_S A s.heap H [] := by rw [hHe]; exact va_S.rf
  rw [← hHe] at hP ⊢
  have hl : lv_has ls 4 [(0, .ref a0), (1, .int (iI frm)), (2, .int (iI too))] := hl
  refine lv_aload_n hx hb dX11_doRemoveLeg_0 rfl (lv_at hl 0 rfl) ?_
  refine lv_iload_n hx hb dX11_doRemoveLeg_1 rfl (lv_at hl 1 rfl) ?_
  refine lv_iload_n hx hb dX11_doRemoveLeg_2 rfl (lv_at hl 2 rfl) ?_
  refine zz_callVi (As := [.int (iI frm), .int (iI too)]) (rest := []) (wf := fun u => bModel tA a0 a1 a2 a3 a4 a5 a6 a7 a8 a9 a10 ms mbef msav misv mpast mpm mthr mways mnds mtkp mline mlm mtxt mlen mat mwr merr mfail mcmd mcm) ⟨hx, hb, hml, hown, hts⟩ (c_X11_arePorts l D tA a0 a1 a2 a3 a4 a5 a6 a7 a8 a9 a10 H.size ms mbef msav misv mpast mpm mthr mways mnds mtkp mline mlm mtxt mlen mat mwr merr mfail mcmd mcm frm too (by first | assumption | omega) (by first | assumption | omega) (by first | assumption | omega)) (cwV 2 hts gX11_doRemoveLeg_X11_arePorts rfl rfl rfl (by decide +kernel) ⟨Nat.le_of_ble_eq_true rfl, Nat.le_of_ble_eq_true rfl⟩) hK hP hD hS hA [0, 1, 2, 3, 4, 5, 6, 7, 8, 9, 10] [] [0, 1, 2, 3, 4, 5, 6, 7, 8, 9, 10] rfl rfl (by decide) (by decide) (by decide) (by decide) (fun _ => rfl) (ci := 13) (q0 := 0) rfl rfl rfl rfl rfl hl.1 (Nat.le_of_ble_eq_true rfl) dX11_doRemoveLeg_3 ⟨Nat.le_of_ble_eq_true rfl, Nat.le_of_ble_eq_true rfl⟩ ?_
  intro z3_1 u H locs p3_2 hP hD hS
  have hP : va_P D vwCl (bModel tA a0 a1 a2 a3 a4 a5 a6 a7 a8 a9 a10 ms mbef msav misv mpast mpm mthr mways mnds mtkp mline mlm mtxt mlen mat mwr merr mfail mcmd mcm) H := hP
  have hD : va_D A (bModel tA a0 a1 a2 a3 a4 a5 a6 a7 a8 a9 a10 ms mbef msav misv mpast mpm mthr mways mnds mtkp mline mlm mtxt mlen mat mwr merr mfail mcmd mcm) := hD
  have q_3 : (z3_1 = 1 ∧ inP (ms 0) frm too) ∨ (z3_1 = 0 ∧ ¬ inP (ms 0) frm too) := p3_2
  refine zz_if_ne (tgt := 15) hx hb dX11_doRemoveLeg_6 (by decide) (by omega) (fun c_6 => ?_) (fun c_6 => ?_)
  · have hin := q_3.elim (fun g => g.2) (fun g => absurd g.1 (by omega))
    have hpp : 0 ≤ frm ∧ frm < 10 ∧ 0 ≤ too ∧ too < 10 := by obtain ⟨x0, x1, x2, x3⟩ := id hin; omega
    refine lv_aload_n hx hb dX11_doRemoveLeg_15 rfl (lv_at hl 0 rfl) ?_
    refine lv_iload_n hx hb dX11_doRemoveLeg_16 rfl (lv_at hl 1 rfl) ?_
    refine lv_iload_n hx hb dX11_doRemoveLeg_17 rfl (lv_at hl 2 rfl) ?_
    refine zz_iconst hx hb dX11_doRemoveLeg_18 ?_
    refine zz_callVi (As := [.int (iI frm), .int (iI too), .int (iI 0)]) (rest := []) (wf := fun u => bModel tA a0 a1 a2 a3 a4 a5 a6 a7 a8 a9 a10 ms mbef msav misv mpast mpm mthr mways mnds mtkp mline mlm mtxt mlen mat mwr merr mfail mcmd mcm) ⟨hx, hb, hml, hown, hts⟩ (c_X11_leg l D tA a0 a1 a2 a3 a4 a5 a6 a7 a8 a9 a10 H.size ms mbef msav misv mpast mpm mthr mways mnds mtkp mline mlm mtxt mlen mat mwr merr mfail mcmd mcm frm too 0 (by first | assumption | omega) (by first | assumption | omega) (by first | assumption | omega) (by first | assumption | omega) (by first | assumption | omega) (by first | assumption | omega)) (cwV 3 hts gX11_doRemoveLeg_X11_leg rfl rfl rfl (by decide +kernel) ⟨Nat.le_of_ble_eq_true rfl, Nat.le_of_ble_eq_true rfl⟩) hK hP hD hS hA [0, 1, 2, 3, 4, 5, 6, 7, 8, 9, 10] [] [0, 1, 2, 3, 4, 5, 6, 7, 8, 9, 10] rfl rfl (by decide) (by decide) (by decide) (by decide) (fun _ => rfl) (ci := 13) (q0 := 0) rfl rfl rfl rfl rfl hl.1 (Nat.le_of_ble_eq_true rfl) dX11_doRemoveLeg_19 ⟨Nat.le_of_ble_eq_true rfl, Nat.le_of_ble_eq_true rfl⟩ ?_
    intro z19_3 u H locs p19_4 hP hD hS
    have hP : va_P D vwCl (bModel tA a0 a1 a2 a3 a4 a5 a6 a7 a8 a9 a10 ms mbef msav misv mpast mpm mthr mways mnds mtkp mline mlm mtxt mlen mat mwr merr mfail mcmd mcm) H := hP
    have hD : va_D A (bModel tA a0 a1 a2 a3 a4 a5 a6 a7 a8 a9 a10 ms mbef msav misv mpast mpm mthr mways mnds mtkp mline mlm mtxt mlen mat mwr merr mfail mcmd mcm) := hD
    have q_19 : z19_3 = lgM ms frm too 0 := p19_4
    have rl := hlr (frm) (too) (0) (by omega) (by omega) (by omega) (by omega) (by omega) (by omega)
    refine lv_istore_n (lv' := [(3, .int (iI z19_3)), (0, .ref a0), (1, .int (iI frm)), (2, .int (iI too))]) hx hb dX11_doRemoveLeg_22 rfl hl (by decide) rfl (fun ls hl => ?_)
    refine lv_iload_n hx hb dX11_doRemoveLeg_23 rfl (lv_at hl 0 rfl) ?_
    refine zz_if_ne (tgt := 33) hx hb dX11_doRemoveLeg_24 (by decide) (by omega) (fun c_24 => ?_) (fun c_24 => ?_)
    · refine lv_aload_n hx hb dX11_doRemoveLeg_33 rfl (lv_at hl 1 rfl) ?_
      refine lv_iload_n hx hb dX11_doRemoveLeg_34 rfl (lv_at hl 2 rfl) ?_
      refine lv_iload_n hx hb dX11_doRemoveLeg_35 rfl (lv_at hl 3 rfl) ?_
      refine zz_iconst hx hb dX11_doRemoveLeg_36 ?_
      refine zz_iconst hx hb dX11_doRemoveLeg_37 ?_
      refine zz_callVv (As := [.int (iI frm), .int (iI too), .int (iI 0), .int (iI 0)]) (rest := []) (wf := fun u => bModel tA a0 a1 a2 a3 a4 a5 a6 a7 a8 a9 a10 (setL ms frm too 0 0) mbef msav misv mpast mpm mthr mways mnds mtkp mline mlm mtxt mlen mat mwr merr mfail mcmd mcm) ⟨hx, hb, hml, hown, hts⟩ (c_X11_setsLeg l D tA a0 a1 a2 a3 a4 a5 a6 a7 a8 a9 a10 H.size ms mbef msav misv mpast mpm mthr mways mnds mtkp mline mlm mtxt mlen mat mwr merr mfail mcmd mcm frm too 0 0 (by first | assumption | omega) (by first | assumption | omega) (by first | assumption | omega) (by first | assumption | omega) (by first | assumption | omega) (by first | assumption | omega) (by first | assumption | omega)) (cwV 4 hts gX11_doRemoveLeg_X11_setsLeg rfl rfl rfl (by decide +kernel) ⟨Nat.le_of_ble_eq_true rfl, Nat.le_of_ble_eq_true rfl⟩) hK hP hD hS hA [0, 1, 2, 3, 4, 5, 6, 7, 8, 9, 10] [] [0, 1, 2, 3, 4, 5, 6, 7, 8, 9, 10] rfl rfl (by decide) (by decide) (by decide) (by decide) (fun _ => rfl) (ci := 13) (q0 := 0) rfl rfl rfl rfl rfl hl.1 (Nat.le_of_ble_eq_true rfl) dX11_doRemoveLeg_38 ⟨Nat.le_of_ble_eq_true rfl, Nat.le_of_ble_eq_true rfl⟩ ?_
      intro u H locs p38_5 hP hD hS
      have hP : va_P D vwCl (bModel tA a0 a1 a2 a3 a4 a5 a6 a7 a8 a9 a10 (setL ms frm too 0 0) mbef msav misv mpast mpm mthr mways mnds mtkp mline mlm mtxt mlen mat mwr merr mfail mcmd mcm) H := hP
      have hD : va_D A (bModel tA a0 a1 a2 a3 a4 a5 a6 a7 a8 a9 a10 (setL ms frm too 0 0) mbef msav misv mpast mpm mthr mways mnds mtkp mline mlm mtxt mlen mat mwr merr mfail mcmd mcm) := hD
      refine lv_iload_n hx hb dX11_doRemoveLeg_41 rfl (lv_at hl 0 rfl) ?_
      exact hret z19_3 ((setL ms frm too 0 0), mthr) _ _ _ _ dX11_doRemoveLeg_42 (show mRemoveLeg ms frm too z19_3 mthr (setL ms frm too 0 0) from by exact Or.inr ⟨hin, Or.inr ⟨hth, by omega, q_19, rfl⟩⟩) hP hD hS
    · refine lv_aload_n hx hb dX11_doRemoveLeg_27 rfl (lv_at hl 1 rfl) ?_
      refine zz_iconst hx hb dX11_doRemoveLeg_28 ?_
      refine zz_callVi (As := [.int (iI 2)]) (rest := []) (wf := fun u => bModel tA a0 a1 a2 a3 a4 a5 a6 a7 a8 a9 a10 ms mbef msav misv mpast mpm 2 mways mnds mtkp mline mlm mtxt mlen mat mwr merr mfail mcmd mcm) ⟨hx, hb, hml, hown, hts⟩ (c_X11_fails l D tA a0 a1 a2 a3 a4 a5 a6 a7 a8 a9 a10 H.size ms mbef msav misv mpast mpm mthr mways mnds mtkp mline mlm mtxt mlen mat mwr merr mfail mcmd mcm 2 (by first | assumption | omega)) (cwV 1 hts gX11_doRemoveLeg_X11_fails rfl rfl rfl (by decide +kernel) ⟨Nat.le_of_ble_eq_true rfl, Nat.le_of_ble_eq_true rfl⟩) hK hP hD hS hA [0, 1, 2, 3, 4, 5, 6, 7, 8, 9, 10] [] [0, 1, 2, 3, 4, 5, 6, 7, 8, 9, 10] rfl rfl (by decide) (by decide) (by decide) (by decide) (fun _ => rfl) (ci := 13) (q0 := 0) rfl rfl rfl rfl rfl hl.1 (Nat.le_of_ble_eq_true rfl) dX11_doRemoveLeg_29 ⟨Nat.le_of_ble_eq_true rfl, Nat.le_of_ble_eq_true rfl⟩ ?_
      intro z29_6 u H locs p29_7 hP hD hS
      have hP : va_P D vwCl (bModel tA a0 a1 a2 a3 a4 a5 a6 a7 a8 a9 a10 ms mbef msav misv mpast mpm 2 mways mnds mtkp mline mlm mtxt mlen mat mwr merr mfail mcmd mcm) H := hP
      have hD : va_D A (bModel tA a0 a1 a2 a3 a4 a5 a6 a7 a8 a9 a10 ms mbef msav misv mpast mpm 2 mways mnds mtkp mline mlm mtxt mlen mat mwr merr mfail mcmd mcm) := hD
      have q_29 : z29_6 = 0 := p29_7
      exact hret z29_6 (ms, 2) _ _ _ _ dX11_doRemoveLeg_32 (show mRemoveLeg ms frm too z29_6 2 ms from by exact Or.inr ⟨hin, Or.inl ⟨rfl, by omega, rfl⟩⟩) hP hD hS
  · refine lv_aload_n hx hb dX11_doRemoveLeg_9 rfl (lv_at hl 0 rfl) ?_
    refine zz_iconst hx hb dX11_doRemoveLeg_10 ?_
    refine zz_callVi (As := [.int (iI 1)]) (rest := []) (wf := fun u => bModel tA a0 a1 a2 a3 a4 a5 a6 a7 a8 a9 a10 ms mbef msav misv mpast mpm 1 mways mnds mtkp mline mlm mtxt mlen mat mwr merr mfail mcmd mcm) ⟨hx, hb, hml, hown, hts⟩ (c_X11_fails l D tA a0 a1 a2 a3 a4 a5 a6 a7 a8 a9 a10 H.size ms mbef msav misv mpast mpm mthr mways mnds mtkp mline mlm mtxt mlen mat mwr merr mfail mcmd mcm 1 (by first | assumption | omega)) (cwV 1 hts gX11_doRemoveLeg_X11_fails rfl rfl rfl (by decide +kernel) ⟨Nat.le_of_ble_eq_true rfl, Nat.le_of_ble_eq_true rfl⟩) hK hP hD hS hA [0, 1, 2, 3, 4, 5, 6, 7, 8, 9, 10] [] [0, 1, 2, 3, 4, 5, 6, 7, 8, 9, 10] rfl rfl (by decide) (by decide) (by decide) (by decide) (fun _ => rfl) (ci := 13) (q0 := 0) rfl rfl rfl rfl rfl hl.1 (Nat.le_of_ble_eq_true rfl) dX11_doRemoveLeg_11 ⟨Nat.le_of_ble_eq_true rfl, Nat.le_of_ble_eq_true rfl⟩ ?_
    intro z11_8 u H locs p11_9 hP hD hS
    have hP : va_P D vwCl (bModel tA a0 a1 a2 a3 a4 a5 a6 a7 a8 a9 a10 ms mbef msav misv mpast mpm 1 mways mnds mtkp mline mlm mtxt mlen mat mwr merr mfail mcmd mcm) H := hP
    have hD : va_D A (bModel tA a0 a1 a2 a3 a4 a5 a6 a7 a8 a9 a10 ms mbef msav misv mpast mpm 1 mways mnds mtkp mline mlm mtxt mlen mat mwr merr mfail mcmd mcm) := hD
    have q_11 : z11_8 = 0 := p11_9
    exact hret z11_8 (ms, 1) _ _ _ _ dX11_doRemoveLeg_14 (show mRemoveLeg ms frm too z11_8 1 ms from by exact Or.inl ⟨rfl, q_3.elim (fun g => absurd g.1 (by omega)) (fun g => g.2), rfl⟩) hP hD hS

set_option maxHeartbeats 4000000 in
set_option maxRecDepth 100000 in
theorem c_X11_portCount (l : Launch) (D : va_G) (tA : Nat → ClassId) (a0 a1 a2 a3 a4 a5 a6 a7 a8 a9 a10 : Nat) (sz : Nat) (ms : Int → Int) (mbef : Int → Int) (msav : Int → Int) (misv : Int) (mpast : Int → Int) (mpm : Int) (mthr : Int) (mways : Int → Int) (mnds : Int → Int) (mtkp : Int → Int) (mline : Int → Int) (mlm : Int) (mtxt : Int → Int) (mlen : Int) (mat : Int) (mwr : Int) (merr : Int) (mfail : Int) (mcmd : Int → Int) (mcm : Int) : zMi l yX11_portCount wsX11_portCount ({ frames := 0, cells := 0, slots := 0, locals := 0 }) D tA [.ref a0] (bModel tA a0 a1 a2 a3 a4 a5 a6 a7 a8 a9 a10 ms mbef msav misv mpast mpm mthr mways mnds mtkp mline mlm mtxt mlen mat mwr merr mfail mcmd mcm) sz (fun (z : Int) (u : Unit) => (z = ms 0)) (fun (u : Unit) => bModel tA a0 a1 a2 a3 a4 a5 a6 a7 a8 a9 a10 ms mbef msav misv mpast mpm 0 mways mnds mtkp mline mlm mtxt mlen mat mwr merr mfail mcmd mcm) 0 0 := by
  refine zMi_of (cc := cX11_portCount) (maxL := 1) (by decide) rfl (fun z u h => rfl) (Nat.le_of_ble_eq_true rfl) ?_
  intro p e s m args below meth c A Q ls hx hb hml hts hown hK hP hD hA hret hl
  obtain ⟨H, hHe⟩ : ∃ H : Heap, H = s.heap := ⟨_, rfl⟩
  have hS : va_S A s.heap H [] := by rw [hHe]; exact va_S.rf
  rw [← hHe] at hP ⊢
  have hl : lv_has ls 1 [(0, .ref a0)] := hl
  have iX11 : ∀ v ∈ wsX110, v ∈ wsX11_portCount := by decide +kernel
  have f_9 := hts (.fieldLink RX11 9 "HarborLightsModel" "s" "[I") (by decide +kernel)
  have f_49 := hts (.fieldLink RX11 49 "HarborLightsModel" "thrown" "I") (by decide +kernel)
  refine lv_aload_n hx hb dX11_portCount_0 rfl (lv_at hl 0 rfl) ?_
  refine zz_iconst hx hb dX11_portCount_1 ?_
  refine va_put (D := D) (ci := 13) (v := .int (iI 0)) (ty := .int) (C := RX11) (T := TX11) (N := 20) hx hb hts iX11 tyX11 tyX11_ok nmX11 hown hK hP hD hS 0 rfl rfl 6 (by decide) f_49 (fun _ h9 => h9) rfl (by decide +kernel) rfl rfl (Nat.le_of_ble_eq_true rfl) dX11_portCount_2 (fun H locs hP hD hS => ?_)
  have hP : va_P D vwCl (bModel tA a0 a1 a2 a3 a4 a5 a6 a7 a8 a9 a10 ms mbef msav misv mpast mpm 0 mways mnds mtkp mline mlm mtxt mlen mat mwr merr mfail mcmd mcm) H := hP
  have hD : va_D A (bModel tA a0 a1 a2 a3 a4 a5 a6 a7 a8 a9 a10 ms mbef msav misv mpast mpm 0 mways mnds mtkp mline mlm mtxt mlen mat mwr merr mfail mcmd mcm) := hD
  refine lv_aload_n hx hb dX11_portCount_5 rfl (lv_at hl 0 rfl) ?_
  refine va_get (D := D) (ci := 13) (v := .ref a1) (C := RX11) (T := TX11) (N := 20) hx hb hts iX11 hown hK hP 0 rfl rfl 0 (by decide) f_9 (fun _ h9 => h9) rfl dX11_portCount_6 ?_
  refine zz_iconst hx hb dX11_portCount_9 ?_
  refine zz_iald hx hb hK hP 1 rfl (by decide) (by omega) dX11_portCount_10 ?_
  exact hret (ms 0) () _ _ _ _ dX11_portCount_11 (show (ms 0) = ms 0 from by rfl) hP hD hS

set_option maxHeartbeats 4000000 in
set_option maxRecDepth 100000 in
theorem c_X11_legCount (l : Launch) (D : va_G) (tA : Nat → ClassId) (a0 a1 a2 a3 a4 a5 a6 a7 a8 a9 a10 : Nat) (sz : Nat) (ms : Int → Int) (mbef : Int → Int) (msav : Int → Int) (misv : Int) (mpast : Int → Int) (mpm : Int) (mthr : Int) (mways : Int → Int) (mnds : Int → Int) (mtkp : Int → Int) (mline : Int → Int) (mlm : Int) (mtxt : Int → Int) (mlen : Int) (mat : Int) (mwr : Int) (merr : Int) (mfail : Int) (mcmd : Int → Int) (mcm : Int) (hlr : MLr ms) : zMi l yX11_legCount wsX11_legCount ({ frames := 2, cells := 0, slots := 0, locals := 46 }) D tA [.ref a0] (bModel tA a0 a1 a2 a3 a4 a5 a6 a7 a8 a9 a10 ms mbef msav misv mpast mpm mthr mways mnds mtkp mline mlm mtxt mlen mat mwr merr mfail mcmd mcm) sz (fun (z : Int) (u : Unit) => (z = lgsM ms)) (fun (u : Unit) => bModel tA a0 a1 a2 a3 a4 a5 a6 a7 a8 a9 a10 ms mbef msav misv mpast mpm 0 mways mnds mtkp mline mlm mtxt mlen mat mwr merr mfail mcmd mcm) 0 0 := by
  refine zMi_of (cc := cX11_legCount) (maxL := 1) (by decide) rfl (fun z u h => rfl) (Nat.le_of_ble_eq_true rfl) ?_
  intro p e s m args below meth c A Q ls hx hb hml hts hown hK hP hD hA hret hl
  obtain ⟨H, hHe⟩ : ∃ H : Heap, H = s.heap := ⟨_, rfl⟩
  have hS : va_S A s.heap H [] := by rw [hHe]; exact va_S.rf
  rw [← hHe] at hP ⊢
  have hl : lv_has ls 1 [(0, .ref a0)] := hl
  have iX11 : ∀ v ∈ wsX110, v ∈ wsX11_legCount := by decide +kernel
  have f_49 := hts (.fieldLink RX11 49 "HarborLightsModel" "thrown" "I") (by decide +kernel)
  refine lv_aload_n hx hb dX11_legCount_0 rfl (lv_at hl 0 rfl) ?_
  refine zz_iconst hx hb dX11_legCount_1 ?_
  refine va_put (D := D) (ci := 13) (v := .int (iI 0)) (ty := .int) (C := RX11) (T := TX11) (N := 20) hx hb hts iX11 tyX11 tyX11_ok nmX11 hown hK hP hD hS 0 rfl rfl 6 (by decide) f_49 (fun _ h9 => h9) rfl (by decide +kernel) rfl rfl (Nat.le_of_ble_eq_true rfl) dX11_legCount_2 (fun H locs hP hD hS => ?_)
  have hP : va_P D vwCl (bModel tA a0 a1 a2 a3 a4 a5 a6 a7 a8 a9 a10 ms mbef msav misv mpast mpm 0 mways mnds mtkp mline mlm mtxt mlen mat mwr merr mfail mcmd mcm) H := hP
  have hD : va_D A (bModel tA a0 a1 a2 a3 a4 a5 a6 a7 a8 a9 a10 ms mbef msav misv mpast mpm 0 mways mnds mtkp mline mlm mtxt mlen mat mwr merr mfail mcmd mcm) := hD
  refine lv_aload_n hx hb dX11_legCount_5 rfl (lv_at hl 0 rfl) ?_
  refine zz_callVi (As := []) (rest := []) (wf := fun u => bModel tA a0 a1 a2 a3 a4 a5 a6 a7 a8 a9 a10 ms mbef msav misv mpast mpm 0 mways mnds mtkp mline mlm mtxt mlen mat mwr merr mfail mcmd mcm) ⟨hx, hb, hml, hown, hts⟩ (c_X11_legs l D tA a0 a1 a2 a3 a4 a5 a6 a7 a8 a9 a10 H.size ms mbef msav misv mpast mpm 0 mways mnds mtkp mline mlm mtxt mlen mat mwr merr mfail mcmd mcm (by first | assumption | omega)) (cwV 0 hts gX11_legCount_X11_legs rfl rfl rfl (by decide +kernel) ⟨Nat.le_of_ble_eq_true rfl, Nat.le_of_ble_eq_true rfl⟩) hK hP hD hS hA [0, 1, 2, 3, 4, 5, 6, 7, 8, 9, 10] [] [0, 1, 2, 3, 4, 5, 6, 7, 8, 9, 10] rfl rfl (by decide) (by decide) (by decide) (by decide) (fun _ => rfl) (ci := 13) (q0 := 0) rfl rfl rfl rfl rfl hl.1 (Nat.le_of_ble_eq_true rfl) dX11_legCount_6 ⟨Nat.le_of_ble_eq_true rfl, Nat.le_of_ble_eq_true rfl⟩ ?_
  intro z6_1 u H locs p6_2 hP hD hS
  have hP : va_P D vwCl (bModel tA a0 a1 a2 a3 a4 a5 a6 a7 a8 a9 a10 ms mbef msav misv mpast mpm 0 mways mnds mtkp mline mlm mtxt mlen mat mwr merr mfail mcmd mcm) H := hP
  have hD : va_D A (bModel tA a0 a1 a2 a3 a4 a5 a6 a7 a8 a9 a10 ms mbef msav misv mpast mpm 0 mways mnds mtkp mline mlm mtxt mlen mat mwr merr mfail mcmd mcm) := hD
  have q_6 : z6_1 = lgsM ms := p6_2.1
  have q2_6 : 0 ≤ z6_1 ∧ z6_1 ≤ 100 := p6_2.2
  exact hret z6_1 () _ _ _ _ dX11_legCount_9 (show z6_1 = lgsM ms from by exact q_6) hP hD hS

set_option maxHeartbeats 4000000 in
set_option maxRecDepth 100000 in
theorem c_X11_hasLeg (l : Launch) (D : va_G) (tA : Nat → ClassId) (a0 a1 a2 a3 a4 a5 a6 a7 a8 a9 a10 : Nat) (sz : Nat) (ms : Int → Int) (mbef : Int → Int) (msav : Int → Int) (misv : Int) (mpast : Int → Int) (mpm : Int) (mthr : Int) (mways : Int → Int) (mnds : Int → Int) (mtkp : Int → Int) (mline : Int → Int) (mlm : Int) (mtxt : Int → Int) (mlen : Int) (mat : Int) (mwr : Int) (merr : Int) (mfail : Int) (mcmd : Int → Int) (mcm : Int) (frm : Int) (too : Int) (r_frm : -2147483648 ≤ frm ∧ frm ≤ 2147483647) (r_too : -2147483648 ≤ too ∧ too ≤ 2147483647) (hp : 0 ≤ ms 0 ∧ ms 0 ≤ 10) (hlr : MLr ms) : zMi l yX11_hasLeg wsX11_hasLeg ({ frames := 2, cells := 0, slots := 0, locals := 44 }) D tA [.ref a0, .int (iI frm), .int (iI too)] (bModel tA a0 a1 a2 a3 a4 a5 a6 a7 a8 a9 a10 ms mbef msav misv mpast mpm mthr mways mnds mtkp mline mlm mtxt mlen mat mwr merr mfail mcmd mcm) sz (fun (z : Int) (u : (Int)) => ((u = 1 ∧ z = 0 ∧ ¬ inP (ms 0) frm too) ∨ (u = 0 ∧ inP (ms 0) frm too ∧ ((z = 1 ∧ 0 < lgM ms frm too 0) ∨ (z = 0 ∧ ¬ 0 < lgM ms frm too 0))))) (fun (u : (Int)) => bModel tA a0 a1 a2 a3 a4 a5 a6 a7 a8 a9 a10 ms mbef msav misv mpast mpm u mways mnds mtkp mline mlm mtxt mlen mat mwr merr mfail mcmd mcm) 0 0 := by
  refine zMi_of (cc := cX11_hasLeg) (maxL := 3) (by decide) rfl (fun z u h => zbool z (by omega)) (Nat.le_of_ble_eq_true rfl) ?_
  intro p e s m args below meth c A Q ls hx hb hml hts hown hK hP hD hA hret hl
  obtain ⟨H, hHe⟩ : ∃ H : Heap, H = s.heap := ⟨_, rfl⟩
  have hS : va_S A s.heap H [] := by rw [hHe]; exact va_S.rf
  rw [← hHe] at hP ⊢
  have hl : lv_has ls 3 [(0, .ref a0), (1, .int (iI frm)), (2, .int (iI too))] := hl
  refine lv_aload_n hx hb dX11_hasLeg_0 rfl (lv_at hl 0 rfl) ?_
  refine lv_aload_n hx hb dX11_hasLeg_1 rfl (lv_at hl 0 rfl) ?_
  refine lv_iload_n hx hb dX11_hasLeg_2 rfl (lv_at hl 1 rfl) ?_
  refine lv_iload_n hx hb dX11_hasLeg_3 rfl (lv_at hl 2 rfl) ?_
  refine zz_callVi (As := [.int (iI frm), .int (iI too)]) (rest := [.ref a0]) (wf := fun u => bModel tA a0 a1 a2 a3 a4 a5 a6 a7 a8 a9 a10 ms mbef msav misv mpast mpm mthr mways mnds mtkp mline mlm mtxt mlen mat mwr merr mfail mcmd mcm) ⟨hx, hb, hml, hown, hts⟩ (c_X11_arePorts l D tA a0 a1 a2 a3 a4 a5 a6 a7 a8 a9 a10 H.size ms mbef msav misv mpast mpm mthr mways mnds mtkp mline mlm mtxt mlen mat mwr merr mfail mcmd mcm frm too (by first | assumption | omega) (by first | assumption | omega) (by first | assumption | omega)) (cwV 2 hts gX11_hasLeg_X11_arePorts rfl rfl rfl (by decide +kernel) ⟨Nat.le_of_ble_eq_true rfl, Nat.le_of_ble_eq_true rfl⟩) hK hP hD hS hA [0, 1, 2, 3, 4, 5, 6, 7, 8, 9, 10] [] [0, 1, 2, 3, 4, 5, 6, 7, 8, 9, 10] rfl rfl (by decide) (by decide) (by decide) (by decide) (fun _ => rfl) (ci := 13) (q0 := 0) rfl rfl rfl rfl rfl hl.1 (Nat.le_of_ble_eq_true rfl) dX11_hasLeg_4 ⟨Nat.le_of_ble_eq_true rfl, Nat.le_of_ble_eq_true rfl⟩ ?_
  intro z4_1 u H locs p4_2 hP hD hS
  have hP : va_P D vwCl (bModel tA a0 a1 a2 a3 a4 a5 a6 a7 a8 a9 a10 ms mbef msav misv mpast mpm mthr mways mnds mtkp mline mlm mtxt mlen mat mwr merr mfail mcmd mcm) H := hP
  have hD : va_D A (bModel tA a0 a1 a2 a3 a4 a5 a6 a7 a8 a9 a10 ms mbef msav misv mpast mpm mthr mways mnds mtkp mline mlm mtxt mlen mat mwr merr mfail mcmd mcm) := hD
  have q_4 : (z4_1 = 1 ∧ inP (ms 0) frm too) ∨ (z4_1 = 0 ∧ ¬ inP (ms 0) frm too) := p4_2
  have hz4 : z4_1 = 0 ∨ z4_1 = 1 := by omega
  refine zz_callVi (As := [.int (iI z4_1)]) (rest := []) (wf := fun u => bModel tA a0 a1 a2 a3 a4 a5 a6 a7 a8 a9 a10 ms mbef msav misv mpast mpm (1 - z4_1) mways mnds mtkp mline mlm mtxt mlen mat mwr merr mfail mcmd mcm) ⟨hx, hb, hml, hown, hts⟩ (c_X11_isThere l D tA a0 a1 a2 a3 a4 a5 a6 a7 a8 a9 a10 H.size ms mbef msav misv mpast mpm mthr mways mnds mtkp mline mlm mtxt mlen mat mwr merr mfail mcmd mcm z4_1 (by first | assumption | omega)) (cwV 1 hts gX11_hasLeg_X11_isThere rfl rfl rfl (by decide +kernel) ⟨Nat.le_of_ble_eq_true rfl, Nat.le_of_ble_eq_true rfl⟩) hK hP hD hS hA [0, 1, 2, 3, 4, 5, 6, 7, 8, 9, 10] [] [0, 1, 2, 3, 4, 5, 6, 7, 8, 9, 10] rfl rfl (by decide) (by decide) (by decide) (by decide) (fun _ => rfl) (ci := 13) (q0 := 0) rfl rfl rfl rfl rfl hl.1 (Nat.le_of_ble_eq_true rfl) dX11_hasLeg_7 ⟨Nat.le_of_ble_eq_true rfl, Nat.le_of_ble_eq_true rfl⟩ ?_
  intro z7_3 u H locs p7_4 hP hD hS
  have hP : va_P D vwCl (bModel tA a0 a1 a2 a3 a4 a5 a6 a7 a8 a9 a10 ms mbef msav misv mpast mpm (1 - z4_1) mways mnds mtkp mline mlm mtxt mlen mat mwr merr mfail mcmd mcm) H := hP
  have hD : va_D A (bModel tA a0 a1 a2 a3 a4 a5 a6 a7 a8 a9 a10 ms mbef msav misv mpast mpm (1 - z4_1) mways mnds mtkp mline mlm mtxt mlen mat mwr merr mfail mcmd mcm) := hD
  have q_7 : z7_3 = z4_1 := p7_4
  refine zz_if_eq (tgt := 27) hx hb dX11_hasLeg_10 (by decide) (by omega) (fun c_10 => ?_) (fun c_10 => ?_)
  · refine zz_iconst hx hb dX11_hasLeg_27 ?_
    exact hret 0 (1 - z4_1) _ _ _ _ dX11_hasLeg_28 (show ((1 - z4_1) = 1 ∧ (0 : Int) = 0 ∧ ¬ inP (ms 0) frm too) ∨ ((1 - z4_1) = 0 ∧ inP (ms 0) frm too ∧ (((0 : Int) = 1 ∧ 0 < lgM ms frm too 0) ∨ ((0 : Int) = 0 ∧ ¬ 0 < lgM ms frm too 0))) from by first | exact Or.inr ⟨by omega, hin, by omega⟩ | exact Or.inl ⟨by omega, rfl, q_4.elim (fun g => absurd g.1 (by omega)) (fun g => g.2)⟩) hP hD hS
  · have hin : inP (ms 0) frm too := q_4.elim (fun g => g.2) (fun g => absurd g.1 (by omega))
    have hpp : 0 ≤ frm ∧ frm < 10 ∧ 0 ≤ too ∧ too < 10 := by obtain ⟨x0, x1, x2, x3⟩ := id hin; omega
    refine lv_aload_n hx hb dX11_hasLeg_13 rfl (lv_at hl 0 rfl) ?_
    refine lv_iload_n hx hb dX11_hasLeg_14 rfl (lv_at hl 1 rfl) ?_
    refine lv_iload_n hx hb dX11_hasLeg_15 rfl (lv_at hl 2 rfl) ?_
    refine zz_iconst hx hb dX11_hasLeg_16 ?_
    refine zz_callVi (As := [.int (iI frm), .int (iI too), .int (iI 0)]) (rest := []) (wf := fun u => bModel tA a0 a1 a2 a3 a4 a5 a6 a7 a8 a9 a10 ms mbef msav misv mpast mpm (1 - z4_1) mways mnds mtkp mline mlm mtxt mlen mat mwr merr mfail mcmd mcm) ⟨hx, hb, hml, hown, hts⟩ (c_X11_leg l D tA a0 a1 a2 a3 a4 a5 a6 a7 a8 a9 a10 H.size ms mbef msav misv mpast mpm (1 - z4_1) mways mnds mtkp mline mlm mtxt mlen mat mwr merr mfail mcmd mcm frm too 0 (by first | assumption | omega) (by first | assumption | omega) (by first | assumption | omega) (by first | assumption | omega) (by first | assumption | omega) (by first | assumption | omega)) (cwV 3 hts gX11_hasLeg_X11_leg rfl rfl rfl (by decide +kernel) ⟨Nat.le_of_ble_eq_true rfl, Nat.le_of_ble_eq_true rfl⟩) hK hP hD hS hA [0, 1, 2, 3, 4, 5, 6, 7, 8, 9, 10] [] [0, 1, 2, 3, 4, 5, 6, 7, 8, 9, 10] rfl rfl (by decide) (by decide) (by decide) (by decide) (fun _ => rfl) (ci := 13) (q0 := 0) rfl rfl rfl rfl rfl hl.1 (Nat.le_of_ble_eq_true rfl) dX11_hasLeg_17 ⟨Nat.le_of_ble_eq_true rfl, Nat.le_of_ble_eq_true rfl⟩ ?_
    intro z17_5 u H locs p17_6 hP hD hS
    have hP : va_P D vwCl (bModel tA a0 a1 a2 a3 a4 a5 a6 a7 a8 a9 a10 ms mbef msav misv mpast mpm (1 - z4_1) mways mnds mtkp mline mlm mtxt mlen mat mwr merr mfail mcmd mcm) H := hP
    have hD : va_D A (bModel tA a0 a1 a2 a3 a4 a5 a6 a7 a8 a9 a10 ms mbef msav misv mpast mpm (1 - z4_1) mways mnds mtkp mline mlm mtxt mlen mat mwr merr mfail mcmd mcm) := hD
    have q_17 : z17_5 = lgM ms frm too 0 := p17_6
    have rl := hlr (frm) (too) (0) (by omega) (by omega) (by omega) (by omega) (by omega) (by omega)
    refine zz_if_le (tgt := 27) hx hb dX11_hasLeg_20 (by decide) (by omega) (fun c_20 => ?_) (fun c_20 => ?_)
    · refine zz_iconst hx hb dX11_hasLeg_27 ?_
      exact hret 0 (1 - z4_1) _ _ _ _ dX11_hasLeg_28 (show ((1 - z4_1) = 1 ∧ (0 : Int) = 0 ∧ ¬ inP (ms 0) frm too) ∨ ((1 - z4_1) = 0 ∧ inP (ms 0) frm too ∧ (((0 : Int) = 1 ∧ 0 < lgM ms frm too 0) ∨ ((0 : Int) = 0 ∧ ¬ 0 < lgM ms frm too 0))) from by first | exact Or.inr ⟨by omega, hin, by omega⟩ | exact Or.inl ⟨by omega, rfl, q_4.elim (fun g => absurd g.1 (by omega)) (fun g => g.2)⟩) hP hD hS
    · refine zz_iconst hx hb dX11_hasLeg_23 ?_
      refine lv_goto (tgt := 28) hx hb dX11_hasLeg_24 (by decide) ?_
      exact hret 1 (1 - z4_1) _ _ _ _ dX11_hasLeg_28 (show ((1 - z4_1) = 1 ∧ (1 : Int) = 0 ∧ ¬ inP (ms 0) frm too) ∨ ((1 - z4_1) = 0 ∧ inP (ms 0) frm too ∧ (((1 : Int) = 1 ∧ 0 < lgM ms frm too 0) ∨ ((1 : Int) = 0 ∧ ¬ 0 < lgM ms frm too 0))) from by first | exact Or.inr ⟨by omega, hin, by omega⟩ | exact Or.inl ⟨by omega, rfl, q_4.elim (fun g => absurd g.1 (by omega)) (fun g => g.2)⟩) hP hD hS

set_option maxHeartbeats 4000000 in
set_option maxRecDepth 100000 in
theorem c_X11_asksLeg (l : Launch) (D : va_G) (tA : Nat → ClassId) (a0 a1 a2 a3 a4 a5 a6 a7 a8 a9 a10 : Nat) (sz : Nat) (ms : Int → Int) (mbef : Int → Int) (msav : Int → Int) (misv : Int) (mpast : Int → Int) (mpm : Int) (mthr : Int) (mways : Int → Int) (mnds : Int → Int) (mtkp : Int → Int) (mline : Int → Int) (mlm : Int) (mtxt : Int → Int) (mlen : Int) (mat : Int) (mwr : Int) (merr : Int) (mfail : Int) (mcmd : Int → Int) (mcm : Int) (frm : Int) (too : Int) (r_frm : -2147483648 ≤ frm ∧ frm ≤ 2147483647) (r_too : -2147483648 ≤ too ∧ too ≤ 2147483647) (hp : 0 ≤ ms 0 ∧ ms 0 ≤ 10) (hlr : MLr ms) : zMi l yX11_asksLeg wsX11_asksLeg ({ frames := 2, cells := 0, slots := 0, locals := 44 }) D tA [.ref a0, .int (iI frm), .int (iI too)] (bModel tA a0 a1 a2 a3 a4 a5 a6 a7 a8 a9 a10 ms mbef msav misv mpast mpm mthr mways mnds mtkp mline mlm mtxt mlen mat mwr merr mfail mcmd mcm) sz (fun (z : Int) (u : (Int)) => ((u = 1 ∧ z = 0 ∧ ¬ inP (ms 0) frm too) ∨ (inP (ms 0) frm too ∧ ((u = 2 ∧ z = 0 ∧ lgM ms frm too 0 = 0) ∨ (u = 0 ∧ z = 1 ∧ lgM ms frm too 0 ≠ 0))))) (fun (u : (Int)) => bModel tA a0 a1 a2 a3 a4 a5 a6 a7 a8 a9 a10 ms mbef msav misv mpast mpm u mways mnds mtkp mline mlm mtxt mlen mat mwr merr mfail mcmd mcm) 0 0 := by
  refine zMi_of (cc := cX11_asksLeg) (maxL := 3) (by decide) rfl (fun z u h => zbool z (by omega)) (Nat.le_of_ble_eq_true rfl) ?_
  intro p e s m args below meth c A Q ls hx hb hml hts hown hK hP hD hA hret hl
  obtain ⟨H, hHe⟩ : ∃ H : Heap, H = s.heap := ⟨_, rfl⟩
  have hS : va_S A s.heap H [] := by rw [hHe]; exact va_S.rf
  rw [← hHe] at hP ⊢
  have hl : lv_has ls 3 [(0, .ref a0), (1, .int (iI frm)), (2, .int (iI too))] := hl
  have iX11 : ∀ v ∈ wsX110, v ∈ wsX11_asksLeg := by decide +kernel
  have f_49 := hts (.fieldLink RX11 49 "HarborLightsModel" "thrown" "I") (by decide +kernel)
  refine lv_aload_n hx hb dX11_asksLeg_0 rfl (lv_at hl 0 rfl) ?_
  refine lv_aload_n hx hb dX11_asksLeg_1 rfl (lv_at hl 0 rfl) ?_
  refine lv_iload_n hx hb dX11_asksLeg_2 rfl (lv_at hl 1 rfl) ?_
  refine lv_iload_n hx hb dX11_asksLeg_3 rfl (lv_at hl 2 rfl) ?_
  refine zz_callVi (As := [.int (iI frm), .int (iI too)]) (rest := [.ref a0]) (wf := fun u => bModel tA a0 a1 a2 a3 a4 a5 a6 a7 a8 a9 a10 ms mbef msav misv mpast mpm mthr mways mnds mtkp mline mlm mtxt mlen mat mwr merr mfail mcmd mcm) ⟨hx, hb, hml, hown, hts⟩ (c_X11_arePorts l D tA a0 a1 a2 a3 a4 a5 a6 a7 a8 a9 a10 H.size ms mbef msav misv mpast mpm mthr mways mnds mtkp mline mlm mtxt mlen mat mwr merr mfail mcmd mcm frm too (by first | assumption | omega) (by first | assumption | omega) (by first | assumption | omega)) (cwV 2 hts gX11_asksLeg_X11_arePorts rfl rfl rfl (by decide +kernel) ⟨Nat.le_of_ble_eq_true rfl, Nat.le_of_ble_eq_true rfl⟩) hK hP hD hS hA [0, 1, 2, 3, 4, 5, 6, 7, 8, 9, 10] [] [0, 1, 2, 3, 4, 5, 6, 7, 8, 9, 10] rfl rfl (by decide) (by decide) (by decide) (by decide) (fun _ => rfl) (ci := 13) (q0 := 0) rfl rfl rfl rfl rfl hl.1 (Nat.le_of_ble_eq_true rfl) dX11_asksLeg_4 ⟨Nat.le_of_ble_eq_true rfl, Nat.le_of_ble_eq_true rfl⟩ ?_
  intro z4_1 u H locs p4_2 hP hD hS
  have hP : va_P D vwCl (bModel tA a0 a1 a2 a3 a4 a5 a6 a7 a8 a9 a10 ms mbef msav misv mpast mpm mthr mways mnds mtkp mline mlm mtxt mlen mat mwr merr mfail mcmd mcm) H := hP
  have hD : va_D A (bModel tA a0 a1 a2 a3 a4 a5 a6 a7 a8 a9 a10 ms mbef msav misv mpast mpm mthr mways mnds mtkp mline mlm mtxt mlen mat mwr merr mfail mcmd mcm) := hD
  have q_4 : (z4_1 = 1 ∧ inP (ms 0) frm too) ∨ (z4_1 = 0 ∧ ¬ inP (ms 0) frm too) := p4_2
  refine zz_if_ne (tgt := 14) hx hb dX11_asksLeg_7 (by decide) (by omega) (fun c_7 => ?_) (fun c_7 => ?_)
  · have hin : inP (ms 0) frm too := q_4.elim (fun g => g.2) (fun g => absurd g.1 (by omega))
    have hpp : 0 ≤ frm ∧ frm < 10 ∧ 0 ≤ too ∧ too < 10 := by obtain ⟨x0, x1, x2, x3⟩ := id hin; omega
    refine lv_aload_n hx hb dX11_asksLeg_14 rfl (lv_at hl 0 rfl) ?_
    refine lv_iload_n hx hb dX11_asksLeg_15 rfl (lv_at hl 1 rfl) ?_
    refine lv_iload_n hx hb dX11_asksLeg_16 rfl (lv_at hl 2 rfl) ?_
    refine zz_iconst hx hb dX11_asksLeg_17 ?_
    refine zz_callVi (As := [.int (iI frm), .int (iI too), .int (iI 0)]) (rest := [.ref a0]) (wf := fun u => bModel tA a0 a1 a2 a3 a4 a5 a6 a7 a8 a9 a10 ms mbef msav misv mpast mpm mthr mways mnds mtkp mline mlm mtxt mlen mat mwr merr mfail mcmd mcm) ⟨hx, hb, hml, hown, hts⟩ (c_X11_leg l D tA a0 a1 a2 a3 a4 a5 a6 a7 a8 a9 a10 H.size ms mbef msav misv mpast mpm mthr mways mnds mtkp mline mlm mtxt mlen mat mwr merr mfail mcmd mcm frm too 0 (by first | assumption | omega) (by first | assumption | omega) (by first | assumption | omega) (by first | assumption | omega) (by first | assumption | omega) (by first | assumption | omega)) (cwV 3 hts gX11_asksLeg_X11_leg rfl rfl rfl (by decide +kernel) ⟨Nat.le_of_ble_eq_true rfl, Nat.le_of_ble_eq_true rfl⟩) hK hP hD hS hA [0, 1, 2, 3, 4, 5, 6, 7, 8, 9, 10] [] [0, 1, 2, 3, 4, 5, 6, 7, 8, 9, 10] rfl rfl (by decide) (by decide) (by decide) (by decide) (fun _ => rfl) (ci := 13) (q0 := 0) rfl rfl rfl rfl rfl hl.1 (Nat.le_of_ble_eq_true rfl) dX11_asksLeg_18 ⟨Nat.le_of_ble_eq_true rfl, Nat.le_of_ble_eq_true rfl⟩ ?_
    intro z18_3 u H locs p18_4 hP hD hS
    have hP : va_P D vwCl (bModel tA a0 a1 a2 a3 a4 a5 a6 a7 a8 a9 a10 ms mbef msav misv mpast mpm mthr mways mnds mtkp mline mlm mtxt mlen mat mwr merr mfail mcmd mcm) H := hP
    have hD : va_D A (bModel tA a0 a1 a2 a3 a4 a5 a6 a7 a8 a9 a10 ms mbef msav misv mpast mpm mthr mways mnds mtkp mline mlm mtxt mlen mat mwr merr mfail mcmd mcm) := hD
    have q_18 : z18_3 = lgM ms frm too 0 := p18_4
    have rl := hlr (frm) (too) (0) (by omega) (by omega) (by omega) (by omega) (by omega) (by omega)
    refine zz_if_ne (tgt := 28) hx hb dX11_asksLeg_21 (by decide) (by omega) (fun c_21 => ?_) (fun c_21 => ?_)
    · refine zz_iconst hx hb dX11_asksLeg_28 ?_
      refine va_put (D := D) (ci := 13) (v := .int (iI 0)) (ty := .int) (C := RX11) (T := TX11) (N := 20) hx hb hts iX11 tyX11 tyX11_ok nmX11 hown hK hP hD hS 0 rfl rfl 6 (by decide) f_49 (fun _ h9 => h9) rfl (by decide +kernel) rfl rfl (Nat.le_of_ble_eq_true rfl) dX11_asksLeg_29 (fun H locs hP hD hS => ?_)
      have hP : va_P D vwCl (bModel tA a0 a1 a2 a3 a4 a5 a6 a7 a8 a9 a10 ms mbef msav misv mpast mpm 0 mways mnds mtkp mline mlm mtxt mlen mat mwr merr mfail mcmd mcm) H := hP
      have hD : va_D A (bModel tA a0 a1 a2 a3 a4 a5 a6 a7 a8 a9 a10 ms mbef msav misv mpast mpm 0 mways mnds mtkp mline mlm mtxt mlen mat mwr merr mfail mcmd mcm) := hD
      refine lv_aload_n hx hb dX11_asksLeg_32 rfl (lv_at hl 0 rfl) ?_
      refine va_get (D := D) (ci := 13) (v := .int (iI 0)) (C := RX11) (T := TX11) (N := 20) hx hb hts iX11 hown hK hP 0 rfl rfl 6 (by decide) f_49 (fun _ h9 => h9) rfl dX11_asksLeg_33 ?_
      refine zz_if_ne (tgt := 43) hx hb dX11_asksLeg_36 (by decide) (by decide) (fun c_36 => ?_) (fun c_36 => ?_)
      · exact absurd c_36 (by decide)
      · refine zz_iconst hx hb dX11_asksLeg_39 ?_
        refine lv_goto (tgt := 44) hx hb dX11_asksLeg_40 (by decide) ?_
        exact hret 1 0 _ _ _ _ dX11_asksLeg_44 (show (0 = 1 ∧ (1 : Int) = 0 ∧ ¬ inP (ms 0) frm too) ∨ (inP (ms 0) frm too ∧ ((0 = 2 ∧ (1 : Int) = 0 ∧ lgM ms frm too 0 = 0) ∨ (0 = 0 ∧ (1 : Int) = 1 ∧ lgM ms frm too 0 ≠ 0))) from by first | exact Or.inr ⟨hin, by omega⟩ | exact Or.inl ⟨rfl, rfl, q_4.elim (fun g => absurd g.1 (by omega)) (fun g => g.2)⟩) hP hD hS
    · refine zz_iconst hx hb dX11_asksLeg_24 ?_
      refine lv_goto (tgt := 29) hx hb dX11_asksLeg_25 (by decide) ?_
      refine va_put (D := D) (ci := 13) (v := .int (iI 2)) (ty := .int) (C := RX11) (T := TX11) (N := 20) hx hb hts iX11 tyX11 tyX11_ok nmX11 hown hK hP hD hS 0 rfl rfl 6 (by decide) f_49 (fun _ h9 => h9) rfl (by decide +kernel) rfl rfl (Nat.le_of_ble_eq_true rfl) dX11_asksLeg_29 (fun H locs hP hD hS => ?_)
      have hP : va_P D vwCl (bModel tA a0 a1 a2 a3 a4 a5 a6 a7 a8 a9 a10 ms mbef msav misv mpast mpm 2 mways mnds mtkp mline mlm mtxt mlen mat mwr merr mfail mcmd mcm) H := hP
      have hD : va_D A (bModel tA a0 a1 a2 a3 a4 a5 a6 a7 a8 a9 a10 ms mbef msav misv mpast mpm 2 mways mnds mtkp mline mlm mtxt mlen mat mwr merr mfail mcmd mcm) := hD
      refine lv_aload_n hx hb dX11_asksLeg_32 rfl (lv_at hl 0 rfl) ?_
      refine va_get (D := D) (ci := 13) (v := .int (iI 2)) (C := RX11) (T := TX11) (N := 20) hx hb hts iX11 hown hK hP 0 rfl rfl 6 (by decide) f_49 (fun _ h9 => h9) rfl dX11_asksLeg_33 ?_
      refine zz_if_ne (tgt := 43) hx hb dX11_asksLeg_36 (by decide) (by decide) (fun c_36 => ?_) (fun c_36 => ?_)
      · refine zz_iconst hx hb dX11_asksLeg_43 ?_
        exact hret 0 2 _ _ _ _ dX11_asksLeg_44 (show (2 = 1 ∧ (0 : Int) = 0 ∧ ¬ inP (ms 0) frm too) ∨ (inP (ms 0) frm too ∧ ((2 = 2 ∧ (0 : Int) = 0 ∧ lgM ms frm too 0 = 0) ∨ (2 = 0 ∧ (0 : Int) = 1 ∧ lgM ms frm too 0 ≠ 0))) from by first | exact Or.inr ⟨hin, by omega⟩ | exact Or.inl ⟨rfl, rfl, q_4.elim (fun g => absurd g.1 (by omega)) (fun g => g.2)⟩) hP hD hS
      · exact absurd c_36 (by decide)
  · refine zz_iconst hx hb dX11_asksLeg_10 ?_
    refine lv_goto (tgt := 29) hx hb dX11_asksLeg_11 (by decide) ?_
    refine va_put (D := D) (ci := 13) (v := .int (iI 1)) (ty := .int) (C := RX11) (T := TX11) (N := 20) hx hb hts iX11 tyX11 tyX11_ok nmX11 hown hK hP hD hS 0 rfl rfl 6 (by decide) f_49 (fun _ h9 => h9) rfl (by decide +kernel) rfl rfl (Nat.le_of_ble_eq_true rfl) dX11_asksLeg_29 (fun H locs hP hD hS => ?_)
    have hP : va_P D vwCl (bModel tA a0 a1 a2 a3 a4 a5 a6 a7 a8 a9 a10 ms mbef msav misv mpast mpm 1 mways mnds mtkp mline mlm mtxt mlen mat mwr merr mfail mcmd mcm) H := hP
    have hD : va_D A (bModel tA a0 a1 a2 a3 a4 a5 a6 a7 a8 a9 a10 ms mbef msav misv mpast mpm 1 mways mnds mtkp mline mlm mtxt mlen mat mwr merr mfail mcmd mcm) := hD
    refine lv_aload_n hx hb dX11_asksLeg_32 rfl (lv_at hl 0 rfl) ?_
    refine va_get (D := D) (ci := 13) (v := .int (iI 1)) (C := RX11) (T := TX11) (N := 20) hx hb hts iX11 hown hK hP 0 rfl rfl 6 (by decide) f_49 (fun _ h9 => h9) rfl dX11_asksLeg_33 ?_
    refine zz_if_ne (tgt := 43) hx hb dX11_asksLeg_36 (by decide) (by decide) (fun c_36 => ?_) (fun c_36 => ?_)
    · refine zz_iconst hx hb dX11_asksLeg_43 ?_
      exact hret 0 1 _ _ _ _ dX11_asksLeg_44 (show (1 = 1 ∧ (0 : Int) = 0 ∧ ¬ inP (ms 0) frm too) ∨ (inP (ms 0) frm too ∧ ((1 = 2 ∧ (0 : Int) = 0 ∧ lgM ms frm too 0 = 0) ∨ (1 = 0 ∧ (0 : Int) = 1 ∧ lgM ms frm too 0 ≠ 0))) from by first | exact Or.inr ⟨hin, by omega⟩ | exact Or.inl ⟨rfl, rfl, q_4.elim (fun g => absurd g.1 (by omega)) (fun g => g.2)⟩) hP hD hS
    · exact absurd c_36 (by decide)

set_option maxHeartbeats 4000000 in
set_option maxRecDepth 100000 in
theorem c_X11_lengthOf (l : Launch) (D : va_G) (tA : Nat → ClassId) (a0 a1 a2 a3 a4 a5 a6 a7 a8 a9 a10 : Nat) (sz : Nat) (ms : Int → Int) (mbef : Int → Int) (msav : Int → Int) (misv : Int) (mpast : Int → Int) (mpm : Int) (mthr : Int) (mways : Int → Int) (mnds : Int → Int) (mtkp : Int → Int) (mline : Int → Int) (mlm : Int) (mtxt : Int → Int) (mlen : Int) (mat : Int) (mwr : Int) (merr : Int) (mfail : Int) (mcmd : Int → Int) (mcm : Int) (frm : Int) (too : Int) (r_frm : -2147483648 ≤ frm ∧ frm ≤ 2147483647) (r_too : -2147483648 ≤ too ∧ too ≤ 2147483647) (hp : 0 ≤ ms 0 ∧ ms 0 ≤ 10) (hlr : MLr ms) : zMi l yX11_lengthOf wsX11_lengthOf ({ frames := 3, cells := 0, slots := 0, locals := 66 }) D tA [.ref a0, .int (iI frm), .int (iI too)] (bModel tA a0 a1 a2 a3 a4 a5 a6 a7 a8 a9 a10 ms mbef msav misv mpast mpm mthr mways mnds mtkp mline mlm mtxt mlen mat mwr merr mfail mcmd mcm) sz (fun (z : Int) (u : (Int)) => ((u = 1 ∧ ¬ inP (ms 0) frm too) ∨ (inP (ms 0) frm too ∧ ((u = 2 ∧ lgM ms frm too 0 = 0) ∨ (u = 0 ∧ lgM ms frm too 0 ≠ 0 ∧ z = lgM ms frm too 0))))) (fun (u : (Int)) => bModel tA a0 a1 a2 a3 a4 a5 a6 a7 a8 a9 a10 ms mbef msav misv mpast mpm u mways mnds mtkp mline mlm mtxt mlen mat mwr merr mfail mcmd mcm) 0 0 := by
  refine zMi_of (cc := cX11_lengthOf) (maxL := 3) (by decide) rfl (fun z u h => rfl) (Nat.le_of_ble_eq_true rfl) ?_
  intro p e s m args below meth c A Q ls hx hb hml hts hown hK hP hD hA hret hl
  obtain ⟨H, hHe⟩ : ∃ H : Heap, H = s.heap := ⟨_, rfl⟩
  have hS : va_S A s.heap H [] := by rw [hHe]; exact va_S.rf
  rw [← hHe] at hP ⊢
  have hl : lv_has ls 3 [(0, .ref a0), (1, .int (iI frm)), (2, .int (iI too))] := hl
  refine lv_aload_n hx hb dX11_lengthOf_0 rfl (lv_at hl 0 rfl) ?_
  refine lv_iload_n hx hb dX11_lengthOf_1 rfl (lv_at hl 1 rfl) ?_
  refine lv_iload_n hx hb dX11_lengthOf_2 rfl (lv_at hl 2 rfl) ?_
  refine zz_callVi (As := [.int (iI frm), .int (iI too)]) (rest := []) (wf := fun u => bModel tA a0 a1 a2 a3 a4 a5 a6 a7 a8 a9 a10 ms mbef msav misv mpast mpm u mways mnds mtkp mline mlm mtxt mlen mat mwr merr mfail mcmd mcm) ⟨hx, hb, hml, hown, hts⟩ (c_X11_asksLeg l D tA a0 a1 a2 a3 a4 a5 a6 a7 a8 a9 a10 H.size ms mbef msav misv mpast mpm mthr mways mnds mtkp mline mlm mtxt mlen mat mwr merr mfail mcmd mcm frm too (by first | assumption | omega) (by first | assumption | omega) (by first | assumption | omega) (by first | assumption | omega)) (cwV 2 hts gX11_lengthOf_X11_asksLeg rfl rfl rfl (by decide +kernel) ⟨Nat.le_of_ble_eq_true rfl, Nat.le_of_ble_eq_true rfl⟩) hK hP hD hS hA [0, 1, 2, 3, 4, 5, 6, 7, 8, 9, 10] [] [0, 1, 2, 3, 4, 5, 6, 7, 8, 9, 10] rfl rfl (by decide) (by decide) (by decide) (by decide) (fun _ => rfl) (ci := 13) (q0 := 0) rfl rfl rfl rfl rfl hl.1 (Nat.le_of_ble_eq_true rfl) dX11_lengthOf_3 ⟨Nat.le_of_ble_eq_true rfl, Nat.le_of_ble_eq_true rfl⟩ ?_
  intro z3_2 u H locs p3_3 hP hD hS
  obtain ⟨mthr_1, rfl⟩ : ∃ q, q = u := ⟨_, rfl⟩
  have hP : va_P D vwCl (bModel tA a0 a1 a2 a3 a4 a5 a6 a7 a8 a9 a10 ms mbef msav misv mpast mpm mthr_1 mways mnds mtkp mline mlm mtxt mlen mat mwr merr mfail mcmd mcm) H := hP
  have hD : va_D A (bModel tA a0 a1 a2 a3 a4 a5 a6 a7 a8 a9 a10 ms mbef msav misv mpast mpm mthr_1 mways mnds mtkp mline mlm mtxt mlen mat mwr merr mfail mcmd mcm) := hD
  have q_3 : (mthr_1 = 1 ∧ z3_2 = 0 ∧ ¬ inP (ms 0) frm too) ∨ (inP (ms 0) frm too ∧ ((mthr_1 = 2 ∧ z3_2 = 0 ∧ lgM ms frm too 0 = 0) ∨ (mthr_1 = 0 ∧ z3_2 = 1 ∧ lgM ms frm too 0 ≠ 0))) := p3_3
  refine zz_if_eq (tgt := 19) hx hb dX11_lengthOf_6 (by decide) (by omega) (fun c_6 => ?_) (fun c_6 => ?_)
  · refine zz_iconst hx hb dX11_lengthOf_19 ?_
    exact hret 0 mthr_1 _ _ _ _ dX11_lengthOf_20 (show (mthr_1 = 1 ∧ ¬ inP (ms 0) frm too) ∨ (inP (ms 0) frm too ∧ ((mthr_1 = 2 ∧ lgM ms frm too 0 = 0) ∨ (mthr_1 = 0 ∧ lgM ms frm too 0 ≠ 0 ∧ (0 : Int) = lgM ms frm too 0))) from by first | exact Or.inr ⟨hin, Or.inr (by omega)⟩ | (rcases q_3 with g | ⟨g, h | h⟩; exact Or.inl ⟨g.1, g.2.2⟩; exact Or.inr ⟨g, Or.inl ⟨h.1, h.2.2⟩⟩; exact absurd h.2.1 (by omega))) hP hD hS
  · have hin : inP (ms 0) frm too := by rcases q_3 with g | g; exact absurd g.2.1 (by omega); exact g.1
    have hpp : 0 ≤ frm ∧ frm < 10 ∧ 0 ≤ too ∧ too < 10 := by obtain ⟨x0, x1, x2, x3⟩ := id hin; omega
    refine lv_aload_n hx hb dX11_lengthOf_9 rfl (lv_at hl 0 rfl) ?_
    refine lv_iload_n hx hb dX11_lengthOf_10 rfl (lv_at hl 1 rfl) ?_
    refine lv_iload_n hx hb dX11_lengthOf_11 rfl (lv_at hl 2 rfl) ?_
    refine zz_iconst hx hb dX11_lengthOf_12 ?_
    refine zz_callVi (As := [.int (iI frm), .int (iI too), .int (iI 0)]) (rest := []) (wf := fun u => bModel tA a0 a1 a2 a3 a4 a5 a6 a7 a8 a9 a10 ms mbef msav misv mpast mpm mthr_1 mways mnds mtkp mline mlm mtxt mlen mat mwr merr mfail mcmd mcm) ⟨hx, hb, hml, hown, hts⟩ (c_X11_leg l D tA a0 a1 a2 a3 a4 a5 a6 a7 a8 a9 a10 H.size ms mbef msav misv mpast mpm mthr_1 mways mnds mtkp mline mlm mtxt mlen mat mwr merr mfail mcmd mcm frm too 0 (by first | assumption | omega) (by first | assumption | omega) (by first | assumption | omega) (by first | assumption | omega) (by first | assumption | omega) (by first | assumption | omega)) (cwV 3 hts gX11_lengthOf_X11_leg rfl rfl rfl (by decide +kernel) ⟨Nat.le_of_ble_eq_true rfl, Nat.le_of_ble_eq_true rfl⟩) hK hP hD hS hA [0, 1, 2, 3, 4, 5, 6, 7, 8, 9, 10] [] [0, 1, 2, 3, 4, 5, 6, 7, 8, 9, 10] rfl rfl (by decide) (by decide) (by decide) (by decide) (fun _ => rfl) (ci := 13) (q0 := 0) rfl rfl rfl rfl rfl hl.1 (Nat.le_of_ble_eq_true rfl) dX11_lengthOf_13 ⟨Nat.le_of_ble_eq_true rfl, Nat.le_of_ble_eq_true rfl⟩ ?_
    intro z13_4 u H locs p13_5 hP hD hS
    have hP : va_P D vwCl (bModel tA a0 a1 a2 a3 a4 a5 a6 a7 a8 a9 a10 ms mbef msav misv mpast mpm mthr_1 mways mnds mtkp mline mlm mtxt mlen mat mwr merr mfail mcmd mcm) H := hP
    have hD : va_D A (bModel tA a0 a1 a2 a3 a4 a5 a6 a7 a8 a9 a10 ms mbef msav misv mpast mpm mthr_1 mways mnds mtkp mline mlm mtxt mlen mat mwr merr mfail mcmd mcm) := hD
    have q_13 : z13_4 = lgM ms frm too 0 := p13_5
    refine lv_goto (tgt := 20) hx hb dX11_lengthOf_16 (by decide) ?_
    exact hret z13_4 mthr_1 _ _ _ _ dX11_lengthOf_20 (show (mthr_1 = 1 ∧ ¬ inP (ms 0) frm too) ∨ (inP (ms 0) frm too ∧ ((mthr_1 = 2 ∧ lgM ms frm too 0 = 0) ∨ (mthr_1 = 0 ∧ lgM ms frm too 0 ≠ 0 ∧ z13_4 = lgM ms frm too 0))) from by first | exact Or.inr ⟨hin, Or.inr (by omega)⟩ | (rcases q_3 with g | ⟨g, h | h⟩; exact Or.inl ⟨g.1, g.2.2⟩; exact Or.inr ⟨g, Or.inl ⟨h.1, h.2.2⟩⟩; exact absurd h.2.1 (by omega))) hP hD hS

set_option maxHeartbeats 4000000 in
set_option maxRecDepth 100000 in
theorem c_X11_reachOf (l : Launch) (D : va_G) (tA : Nat → ClassId) (a0 a1 a2 a3 a4 a5 a6 a7 a8 a9 a10 : Nat) (sz : Nat) (ms : Int → Int) (mbef : Int → Int) (msav : Int → Int) (misv : Int) (mpast : Int → Int) (mpm : Int) (mthr : Int) (mways : Int → Int) (mnds : Int → Int) (mtkp : Int → Int) (mline : Int → Int) (mlm : Int) (mtxt : Int → Int) (mlen : Int) (mat : Int) (mwr : Int) (merr : Int) (mfail : Int) (mcmd : Int → Int) (mcm : Int) (frm : Int) (too : Int) (r_frm : -2147483648 ≤ frm ∧ frm ≤ 2147483647) (r_too : -2147483648 ≤ too ∧ too ≤ 2147483647) (hp : 0 ≤ ms 0 ∧ ms 0 ≤ 10) (hlr : MLr ms) : zMi l yX11_reachOf wsX11_reachOf ({ frames := 3, cells := 0, slots := 0, locals := 66 }) D tA [.ref a0, .int (iI frm), .int (iI too)] (bModel tA a0 a1 a2 a3 a4 a5 a6 a7 a8 a9 a10 ms mbef msav misv mpast mpm mthr mways mnds mtkp mline mlm mtxt mlen mat mwr merr mfail mcmd mcm) sz (fun (z : Int) (u : (Int)) => ((u = 1 ∧ ¬ inP (ms 0) frm too) ∨ (inP (ms 0) frm too ∧ ((u = 2 ∧ lgM ms frm too 0 = 0) ∨ (u = 0 ∧ lgM ms frm too 0 ≠ 0 ∧ z = lgM ms frm too 1))))) (fun (u : (Int)) => bModel tA a0 a1 a2 a3 a4 a5 a6 a7 a8 a9 a10 ms mbef msav misv mpast mpm u mways mnds mtkp mline mlm mtxt mlen mat mwr merr mfail mcmd mcm) 0 0 := by
  refine zMi_of (cc := cX11_reachOf) (maxL := 3) (by decide) rfl (fun z u h => rfl) (Nat.le_of_ble_eq_true rfl) ?_
  intro p e s m args below meth c A Q ls hx hb hml hts hown hK hP hD hA hret hl
  obtain ⟨H, hHe⟩ : ∃ H : Heap, H = s.heap := ⟨_, rfl⟩
  have hS : va_S A s.heap H [] := by rw [hHe]; exact va_S.rf
  rw [← hHe] at hP ⊢
  have hl : lv_has ls 3 [(0, .ref a0), (1, .int (iI frm)), (2, .int (iI too))] := hl
  refine lv_aload_n hx hb dX11_reachOf_0 rfl (lv_at hl 0 rfl) ?_
  refine lv_iload_n hx hb dX11_reachOf_1 rfl (lv_at hl 1 rfl) ?_
  refine lv_iload_n hx hb dX11_reachOf_2 rfl (lv_at hl 2 rfl) ?_
  refine zz_callVi (As := [.int (iI frm), .int (iI too)]) (rest := []) (wf := fun u => bModel tA a0 a1 a2 a3 a4 a5 a6 a7 a8 a9 a10 ms mbef msav misv mpast mpm u mways mnds mtkp mline mlm mtxt mlen mat mwr merr mfail mcmd mcm) ⟨hx, hb, hml, hown, hts⟩ (c_X11_asksLeg l D tA a0 a1 a2 a3 a4 a5 a6 a7 a8 a9 a10 H.size ms mbef msav misv mpast mpm mthr mways mnds mtkp mline mlm mtxt mlen mat mwr merr mfail mcmd mcm frm too (by first | assumption | omega) (by first | assumption | omega) (by first | assumption | omega) (by first | assumption | omega)) (cwV 2 hts gX11_reachOf_X11_asksLeg rfl rfl rfl (by decide +kernel) ⟨Nat.le_of_ble_eq_true rfl, Nat.le_of_ble_eq_true rfl⟩) hK hP hD hS hA [0, 1, 2, 3, 4, 5, 6, 7, 8, 9, 10] [] [0, 1, 2, 3, 4, 5, 6, 7, 8, 9, 10] rfl rfl (by decide) (by decide) (by decide) (by decide) (fun _ => rfl) (ci := 13) (q0 := 0) rfl rfl rfl rfl rfl hl.1 (Nat.le_of_ble_eq_true rfl) dX11_reachOf_3 ⟨Nat.le_of_ble_eq_true rfl, Nat.le_of_ble_eq_true rfl⟩ ?_
  intro z3_2 u H locs p3_3 hP hD hS
  obtain ⟨mthr_1, rfl⟩ : ∃ q, q = u := ⟨_, rfl⟩
  have hP : va_P D vwCl (bModel tA a0 a1 a2 a3 a4 a5 a6 a7 a8 a9 a10 ms mbef msav misv mpast mpm mthr_1 mways mnds mtkp mline mlm mtxt mlen mat mwr merr mfail mcmd mcm) H := hP
  have hD : va_D A (bModel tA a0 a1 a2 a3 a4 a5 a6 a7 a8 a9 a10 ms mbef msav misv mpast mpm mthr_1 mways mnds mtkp mline mlm mtxt mlen mat mwr merr mfail mcmd mcm) := hD
  have q_3 : (mthr_1 = 1 ∧ z3_2 = 0 ∧ ¬ inP (ms 0) frm too) ∨ (inP (ms 0) frm too ∧ ((mthr_1 = 2 ∧ z3_2 = 0 ∧ lgM ms frm too 0 = 0) ∨ (mthr_1 = 0 ∧ z3_2 = 1 ∧ lgM ms frm too 0 ≠ 0))) := p3_3
  refine zz_if_eq (tgt := 19) hx hb dX11_reachOf_6 (by decide) (by omega) (fun c_6 => ?_) (fun c_6 => ?_)
  · refine zz_iconst hx hb dX11_reachOf_19 ?_
    exact hret 0 mthr_1 _ _ _ _ dX11_reachOf_20 (show (mthr_1 = 1 ∧ ¬ inP (ms 0) frm too) ∨ (inP (ms 0) frm too ∧ ((mthr_1 = 2 ∧ lgM ms frm too 0 = 0) ∨ (mthr_1 = 0 ∧ lgM ms frm too 0 ≠ 0 ∧ (0 : Int) = lgM ms frm too 1))) from by first | exact Or.inr ⟨hin, Or.inr (by omega)⟩ | (rcases q_3 with g | ⟨g, h | h⟩; exact Or.inl ⟨g.1, g.2.2⟩; exact Or.inr ⟨g, Or.inl ⟨h.1, h.2.2⟩⟩; exact absurd h.2.1 (by omega))) hP hD hS
  · have hin : inP (ms 0) frm too := by rcases q_3 with g | g; exact absurd g.2.1 (by omega); exact g.1
    have hpp : 0 ≤ frm ∧ frm < 10 ∧ 0 ≤ too ∧ too < 10 := by obtain ⟨x0, x1, x2, x3⟩ := id hin; omega
    refine lv_aload_n hx hb dX11_reachOf_9 rfl (lv_at hl 0 rfl) ?_
    refine lv_iload_n hx hb dX11_reachOf_10 rfl (lv_at hl 1 rfl) ?_
    refine lv_iload_n hx hb dX11_reachOf_11 rfl (lv_at hl 2 rfl) ?_
    refine zz_iconst hx hb dX11_reachOf_12 ?_
    refine zz_callVi (As := [.int (iI frm), .int (iI too), .int (iI 1)]) (rest := []) (wf := fun u => bModel tA a0 a1 a2 a3 a4 a5 a6 a7 a8 a9 a10 ms mbef msav misv mpast mpm mthr_1 mways mnds mtkp mline mlm mtxt mlen mat mwr merr mfail mcmd mcm) ⟨hx, hb, hml, hown, hts⟩ (c_X11_leg l D tA a0 a1 a2 a3 a4 a5 a6 a7 a8 a9 a10 H.size ms mbef msav misv mpast mpm mthr_1 mways mnds mtkp mline mlm mtxt mlen mat mwr merr mfail mcmd mcm frm too 1 (by first | assumption | omega) (by first | assumption | omega) (by first | assumption | omega) (by first | assumption | omega) (by first | assumption | omega) (by first | assumption | omega)) (cwV 3 hts gX11_reachOf_X11_leg rfl rfl rfl (by decide +kernel) ⟨Nat.le_of_ble_eq_true rfl, Nat.le_of_ble_eq_true rfl⟩) hK hP hD hS hA [0, 1, 2, 3, 4, 5, 6, 7, 8, 9, 10] [] [0, 1, 2, 3, 4, 5, 6, 7, 8, 9, 10] rfl rfl (by decide) (by decide) (by decide) (by decide) (fun _ => rfl) (ci := 13) (q0 := 0) rfl rfl rfl rfl rfl hl.1 (Nat.le_of_ble_eq_true rfl) dX11_reachOf_13 ⟨Nat.le_of_ble_eq_true rfl, Nat.le_of_ble_eq_true rfl⟩ ?_
    intro z13_4 u H locs p13_5 hP hD hS
    have hP : va_P D vwCl (bModel tA a0 a1 a2 a3 a4 a5 a6 a7 a8 a9 a10 ms mbef msav misv mpast mpm mthr_1 mways mnds mtkp mline mlm mtxt mlen mat mwr merr mfail mcmd mcm) H := hP
    have hD : va_D A (bModel tA a0 a1 a2 a3 a4 a5 a6 a7 a8 a9 a10 ms mbef msav misv mpast mpm mthr_1 mways mnds mtkp mline mlm mtxt mlen mat mwr merr mfail mcmd mcm) := hD
    have q_13 : z13_4 = lgM ms frm too 1 := p13_5
    refine lv_goto (tgt := 20) hx hb dX11_reachOf_16 (by decide) ?_
    exact hret z13_4 mthr_1 _ _ _ _ dX11_reachOf_20 (show (mthr_1 = 1 ∧ ¬ inP (ms 0) frm too) ∨ (inP (ms 0) frm too ∧ ((mthr_1 = 2 ∧ lgM ms frm too 0 = 0) ∨ (mthr_1 = 0 ∧ lgM ms frm too 0 ≠ 0 ∧ z13_4 = lgM ms frm too 1))) from by first | exact Or.inr ⟨hin, Or.inr (by omega)⟩ | (rcases q_3 with g | ⟨g, h | h⟩; exact Or.inl ⟨g.1, g.2.2⟩; exact Or.inr ⟨g, Or.inl ⟨h.1, h.2.2⟩⟩; exact absurd h.2.1 (by omega))) hP hD hS

set_option maxHeartbeats 4000000 in
set_option maxRecDepth 100000 in
theorem c_X11_meterOf (l : Launch) (D : va_G) (tA : Nat → ClassId) (a0 a1 a2 a3 a4 a5 a6 a7 a8 a9 a10 : Nat) (sz : Nat) (ms : Int → Int) (mbef : Int → Int) (msav : Int → Int) (misv : Int) (mpast : Int → Int) (mpm : Int) (mthr : Int) (mways : Int → Int) (mnds : Int → Int) (mtkp : Int → Int) (mline : Int → Int) (mlm : Int) (mtxt : Int → Int) (mlen : Int) (mat : Int) (mwr : Int) (merr : Int) (mfail : Int) (mcmd : Int → Int) (mcm : Int) (frm : Int) (too : Int) (r_frm : -2147483648 ≤ frm ∧ frm ≤ 2147483647) (r_too : -2147483648 ≤ too ∧ too ≤ 2147483647) (hp : 0 ≤ ms 0 ∧ ms 0 ≤ 10) (hlr : MLr ms) : zMi l yX11_meterOf wsX11_meterOf ({ frames := 3, cells := 0, slots := 0, locals := 66 }) D tA [.ref a0, .int (iI frm), .int (iI too)] (bModel tA a0 a1 a2 a3 a4 a5 a6 a7 a8 a9 a10 ms mbef msav misv mpast mpm mthr mways mnds mtkp mline mlm mtxt mlen mat mwr merr mfail mcmd mcm) sz (fun (z : Int) (u : (Int)) => ((u = 1 ∧ ¬ inP (ms 0) frm too) ∨ (inP (ms 0) frm too ∧ ((u = 2 ∧ lgM ms frm too 0 = 0) ∨ (u = 0 ∧ lgM ms frm too 0 ≠ 0 ∧ z = lgM ms frm too 2))))) (fun (u : (Int)) => bModel tA a0 a1 a2 a3 a4 a5 a6 a7 a8 a9 a10 ms mbef msav misv mpast mpm u mways mnds mtkp mline mlm mtxt mlen mat mwr merr mfail mcmd mcm) 0 0 := by
  refine zMi_of (cc := cX11_meterOf) (maxL := 3) (by decide) rfl (fun z u h => rfl) (Nat.le_of_ble_eq_true rfl) ?_
  intro p e s m args below meth c A Q ls hx hb hml hts hown hK hP hD hA hret hl
  obtain ⟨H, hHe⟩ : ∃ H : Heap, H = s.heap := ⟨_, rfl⟩
  have hS : va_S A s.heap H [] := by rw [hHe]; exact va_S.rf
  rw [← hHe] at hP ⊢
  have hl : lv_has ls 3 [(0, .ref a0), (1, .int (iI frm)), (2, .int (iI too))] := hl
  refine lv_aload_n hx hb dX11_meterOf_0 rfl (lv_at hl 0 rfl) ?_
  refine lv_iload_n hx hb dX11_meterOf_1 rfl (lv_at hl 1 rfl) ?_
  refine lv_iload_n hx hb dX11_meterOf_2 rfl (lv_at hl 2 rfl) ?_
  refine zz_callVi (As := [.int (iI frm), .int (iI too)]) (rest := []) (wf := fun u => bModel tA a0 a1 a2 a3 a4 a5 a6 a7 a8 a9 a10 ms mbef msav misv mpast mpm u mways mnds mtkp mline mlm mtxt mlen mat mwr merr mfail mcmd mcm) ⟨hx, hb, hml, hown, hts⟩ (c_X11_asksLeg l D tA a0 a1 a2 a3 a4 a5 a6 a7 a8 a9 a10 H.size ms mbef msav misv mpast mpm mthr mways mnds mtkp mline mlm mtxt mlen mat mwr merr mfail mcmd mcm frm too (by first | assumption | omega) (by first | assumption | omega) (by first | assumption | omega) (by first | assumption | omega)) (cwV 2 hts gX11_meterOf_X11_asksLeg rfl rfl rfl (by decide +kernel) ⟨Nat.le_of_ble_eq_true rfl, Nat.le_of_ble_eq_true rfl⟩) hK hP hD hS hA [0, 1, 2, 3, 4, 5, 6, 7, 8, 9, 10] [] [0, 1, 2, 3, 4, 5, 6, 7, 8, 9, 10] rfl rfl (by decide) (by decide) (by decide) (by decide) (fun _ => rfl) (ci := 13) (q0 := 0) rfl rfl rfl rfl rfl hl.1 (Nat.le_of_ble_eq_true rfl) dX11_meterOf_3 ⟨Nat.le_of_ble_eq_true rfl, Nat.le_of_ble_eq_true rfl⟩ ?_
  intro z3_2 u H locs p3_3 hP hD hS
  obtain ⟨mthr_1, rfl⟩ : ∃ q, q = u := ⟨_, rfl⟩
  have hP : va_P D vwCl (bModel tA a0 a1 a2 a3 a4 a5 a6 a7 a8 a9 a10 ms mbef msav misv mpast mpm mthr_1 mways mnds mtkp mline mlm mtxt mlen mat mwr merr mfail mcmd mcm) H := hP
  have hD : va_D A (bModel tA a0 a1 a2 a3 a4 a5 a6 a7 a8 a9 a10 ms mbef msav misv mpast mpm mthr_1 mways mnds mtkp mline mlm mtxt mlen mat mwr merr mfail mcmd mcm) := hD
  have q_3 : (mthr_1 = 1 ∧ z3_2 = 0 ∧ ¬ inP (ms 0) frm too) ∨ (inP (ms 0) frm too ∧ ((mthr_1 = 2 ∧ z3_2 = 0 ∧ lgM ms frm too 0 = 0) ∨ (mthr_1 = 0 ∧ z3_2 = 1 ∧ lgM ms frm too 0 ≠ 0))) := p3_3
  refine zz_if_eq (tgt := 19) hx hb dX11_meterOf_6 (by decide) (by omega) (fun c_6 => ?_) (fun c_6 => ?_)
  · refine zz_iconst hx hb dX11_meterOf_19 ?_
    exact hret 0 mthr_1 _ _ _ _ dX11_meterOf_20 (show (mthr_1 = 1 ∧ ¬ inP (ms 0) frm too) ∨ (inP (ms 0) frm too ∧ ((mthr_1 = 2 ∧ lgM ms frm too 0 = 0) ∨ (mthr_1 = 0 ∧ lgM ms frm too 0 ≠ 0 ∧ (0 : Int) = lgM ms frm too 2))) from by first | exact Or.inr ⟨hin, Or.inr (by omega)⟩ | (rcases q_3 with g | ⟨g, h | h⟩; exact Or.inl ⟨g.1, g.2.2⟩; exact Or.inr ⟨g, Or.inl ⟨h.1, h.2.2⟩⟩; exact absurd h.2.1 (by omega))) hP hD hS
  · have hin : inP (ms 0) frm too := by rcases q_3 with g | g; exact absurd g.2.1 (by omega); exact g.1
    have hpp : 0 ≤ frm ∧ frm < 10 ∧ 0 ≤ too ∧ too < 10 := by obtain ⟨x0, x1, x2, x3⟩ := id hin; omega
    refine lv_aload_n hx hb dX11_meterOf_9 rfl (lv_at hl 0 rfl) ?_
    refine lv_iload_n hx hb dX11_meterOf_10 rfl (lv_at hl 1 rfl) ?_
    refine lv_iload_n hx hb dX11_meterOf_11 rfl (lv_at hl 2 rfl) ?_
    refine zz_iconst hx hb dX11_meterOf_12 ?_
    refine zz_callVi (As := [.int (iI frm), .int (iI too), .int (iI 2)]) (rest := []) (wf := fun u => bModel tA a0 a1 a2 a3 a4 a5 a6 a7 a8 a9 a10 ms mbef msav misv mpast mpm mthr_1 mways mnds mtkp mline mlm mtxt mlen mat mwr merr mfail mcmd mcm) ⟨hx, hb, hml, hown, hts⟩ (c_X11_leg l D tA a0 a1 a2 a3 a4 a5 a6 a7 a8 a9 a10 H.size ms mbef msav misv mpast mpm mthr_1 mways mnds mtkp mline mlm mtxt mlen mat mwr merr mfail mcmd mcm frm too 2 (by first | assumption | omega) (by first | assumption | omega) (by first | assumption | omega) (by first | assumption | omega) (by first | assumption | omega) (by first | assumption | omega)) (cwV 3 hts gX11_meterOf_X11_leg rfl rfl rfl (by decide +kernel) ⟨Nat.le_of_ble_eq_true rfl, Nat.le_of_ble_eq_true rfl⟩) hK hP hD hS hA [0, 1, 2, 3, 4, 5, 6, 7, 8, 9, 10] [] [0, 1, 2, 3, 4, 5, 6, 7, 8, 9, 10] rfl rfl (by decide) (by decide) (by decide) (by decide) (fun _ => rfl) (ci := 13) (q0 := 0) rfl rfl rfl rfl rfl hl.1 (Nat.le_of_ble_eq_true rfl) dX11_meterOf_13 ⟨Nat.le_of_ble_eq_true rfl, Nat.le_of_ble_eq_true rfl⟩ ?_
    intro z13_4 u H locs p13_5 hP hD hS
    have hP : va_P D vwCl (bModel tA a0 a1 a2 a3 a4 a5 a6 a7 a8 a9 a10 ms mbef msav misv mpast mpm mthr_1 mways mnds mtkp mline mlm mtxt mlen mat mwr merr mfail mcmd mcm) H := hP
    have hD : va_D A (bModel tA a0 a1 a2 a3 a4 a5 a6 a7 a8 a9 a10 ms mbef msav misv mpast mpm mthr_1 mways mnds mtkp mline mlm mtxt mlen mat mwr merr mfail mcmd mcm) := hD
    have q_13 : z13_4 = lgM ms frm too 2 := p13_5
    refine lv_goto (tgt := 20) hx hb dX11_meterOf_16 (by decide) ?_
    exact hret z13_4 mthr_1 _ _ _ _ dX11_meterOf_20 (show (mthr_1 = 1 ∧ ¬ inP (ms 0) frm too) ∨ (inP (ms 0) frm too ∧ ((mthr_1 = 2 ∧ lgM ms frm too 0 = 0) ∨ (mthr_1 = 0 ∧ lgM ms frm too 0 ≠ 0 ∧ z13_4 = lgM ms frm too 2))) from by first | exact Or.inr ⟨hin, Or.inr (by omega)⟩ | (rcases q_3 with g | ⟨g, h | h⟩; exact Or.inl ⟨g.1, g.2.2⟩; exact Or.inr ⟨g, Or.inl ⟨h.1, h.2.2⟩⟩; exact absurd h.2.1 (by omega))) hP hD hS

set_option maxHeartbeats 4000000 in
set_option maxRecDepth 100000 in
theorem c_X11_isLit (l : Launch) (D : va_G) (tA : Nat → ClassId) (a0 a1 a2 a3 a4 a5 a6 a7 a8 a9 a10 : Nat) (sz : Nat) (ms : Int → Int) (mbef : Int → Int) (msav : Int → Int) (misv : Int) (mpast : Int → Int) (mpm : Int) (mthr : Int) (mways : Int → Int) (mnds : Int → Int) (mtkp : Int → Int) (mline : Int → Int) (mlm : Int) (mtxt : Int → Int) (mlen : Int) (mat : Int) (mwr : Int) (merr : Int) (mfail : Int) (mcmd : Int → Int) (mcm : Int) (frm : Int) (too : Int) (r_frm : -2147483648 ≤ frm ∧ frm ≤ 2147483647) (r_too : -2147483648 ≤ too ∧ too ≤ 2147483647) (hp : 0 ≤ ms 0 ∧ ms 0 ≤ 10) (hlr : MLr ms) (hrg : -1000000000 ≤ ms 3 ∧ ms 3 ≤ 1000000000) : zMi l yX11_isLit wsX11_isLit ({ frames := 3, cells := 0, slots := 0, locals := 66 }) D tA [.ref a0, .int (iI frm), .int (iI too)] (bModel tA a0 a1 a2 a3 a4 a5 a6 a7 a8 a9 a10 ms mbef msav misv mpast mpm mthr mways mnds mtkp mline mlm mtxt mlen mat mwr merr mfail mcmd mcm) sz (fun (z : Int) (u : (Int)) => (z = 0 ∨ z = 1) ∧ ((u = 1 ∧ ¬ inP (ms 0) frm too) ∨ (inP (ms 0) frm too ∧ ((u = 2 ∧ lgM ms frm too 0 = 0) ∨ (u = 0 ∧ lgM ms frm too 0 ≠ 0 ∧ ((z = 1 ∧ 0 < lgM ms frm too 0 ∧ lgM ms frm too 1 ≤ ms 3) ∨ (z = 0 ∧ ¬ (0 < lgM ms frm too 0 ∧ lgM ms frm too 1 ≤ ms 3)))))))) (fun (u : (Int)) => bModel tA a0 a1 a2 a3 a4 a5 a6 a7 a8 a9 a10 ms mbef msav misv mpast mpm u mways mnds mtkp mline mlm mtxt mlen mat mwr merr mfail mcmd mcm) 0 0 := by
  refine zMi_of (cc := cX11_isLit) (maxL := 3) (by decide) rfl (fun z u h => zbool z (by exact h.1)) (Nat.le_of_ble_eq_true rfl) ?_
  intro p e s m args below meth c A Q ls hx hb hml hts hown hK hP hD hA hret hl
  obtain ⟨H, hHe⟩ : ∃ H : Heap, H = s.heap := ⟨_, rfl⟩
  have hS : va_S A s.heap H [] := by rw [hHe]; exact va_S.rf
  rw [← hHe] at hP ⊢
  have hl : lv_has ls 3 [(0, .ref a0), (1, .int (iI frm)), (2, .int (iI too))] := hl
  refine lv_aload_n hx hb dX11_isLit_0 rfl (lv_at hl 0 rfl) ?_
  refine lv_iload_n hx hb dX11_isLit_1 rfl (lv_at hl 1 rfl) ?_
  refine lv_iload_n hx hb dX11_isLit_2 rfl (lv_at hl 2 rfl) ?_
  refine zz_callVi (As := [.int (iI frm), .int (iI too)]) (rest := []) (wf := fun u => bModel tA a0 a1 a2 a3 a4 a5 a6 a7 a8 a9 a10 ms mbef msav misv mpast mpm u mways mnds mtkp mline mlm mtxt mlen mat mwr merr mfail mcmd mcm) ⟨hx, hb, hml, hown, hts⟩ (c_X11_asksLeg l D tA a0 a1 a2 a3 a4 a5 a6 a7 a8 a9 a10 H.size ms mbef msav misv mpast mpm mthr mways mnds mtkp mline mlm mtxt mlen mat mwr merr mfail mcmd mcm frm too (by first | assumption | omega) (by first | assumption | omega) (by first | assumption | omega) (by first | assumption | omega)) (cwV 2 hts gX11_isLit_X11_asksLeg rfl rfl rfl (by decide +kernel) ⟨Nat.le_of_ble_eq_true rfl, Nat.le_of_ble_eq_true rfl⟩) hK hP hD hS hA [0, 1, 2, 3, 4, 5, 6, 7, 8, 9, 10] [] [0, 1, 2, 3, 4, 5, 6, 7, 8, 9, 10] rfl rfl (by decide) (by decide) (by decide) (by decide) (fun _ => rfl) (ci := 13) (q0 := 0) rfl rfl rfl rfl rfl hl.1 (Nat.le_of_ble_eq_true rfl) dX11_isLit_3 ⟨Nat.le_of_ble_eq_true rfl, Nat.le_of_ble_eq_true rfl⟩ ?_
  intro z3_2 u H locs p3_3 hP hD hS
  obtain ⟨mthr_1, rfl⟩ : ∃ q, q = u := ⟨_, rfl⟩
  have hP : va_P D vwCl (bModel tA a0 a1 a2 a3 a4 a5 a6 a7 a8 a9 a10 ms mbef msav misv mpast mpm mthr_1 mways mnds mtkp mline mlm mtxt mlen mat mwr merr mfail mcmd mcm) H := hP
  have hD : va_D A (bModel tA a0 a1 a2 a3 a4 a5 a6 a7 a8 a9 a10 ms mbef msav misv mpast mpm mthr_1 mways mnds mtkp mline mlm mtxt mlen mat mwr merr mfail mcmd mcm) := hD
  have q_3 : (mthr_1 = 1 ∧ z3_2 = 0 ∧ ¬ inP (ms 0) frm too) ∨ (inP (ms 0) frm too ∧ ((mthr_1 = 2 ∧ z3_2 = 0 ∧ lgM ms frm too 0 = 0) ∨ (mthr_1 = 0 ∧ z3_2 = 1 ∧ lgM ms frm too 0 ≠ 0))) := p3_3
  refine zz_if_eq (tgt := 22) hx hb dX11_isLit_6 (by decide) (by omega) (fun c_6 => ?_) (fun c_6 => ?_)
  · refine zz_iconst hx hb dX11_isLit_22 ?_
    exact hret 0 mthr_1 _ _ _ _ dX11_isLit_23 ⟨(show (0 : Int) = 0 ∨ (0 : Int) = 1 from by omega), (show (mthr_1 = 1 ∧ ¬ inP (ms 0) frm too) ∨ (inP (ms 0) frm too ∧ ((mthr_1 = 2 ∧ lgM ms frm too 0 = 0) ∨ (mthr_1 = 0 ∧ lgM ms frm too 0 ≠ 0 ∧ (((0 : Int) = 1 ∧ 0 < lgM ms frm too 0 ∧ lgM ms frm too 1 ≤ ms 3) ∨ ((0 : Int) = 0 ∧ ¬ (0 < lgM ms frm too 0 ∧ lgM ms frm too 1 ≤ ms 3)))))) from by first | exact Or.inr ⟨hin, Or.inr (by omega)⟩ | (rcases q_3 with g | ⟨g, h | h⟩; exact Or.inl ⟨g.1, g.2.2⟩; exact Or.inr ⟨g, Or.inl ⟨h.1, h.2.2⟩⟩; exact absurd h.2.1 (by omega)))⟩ hP hD hS
  · have hin : inP (ms 0) frm too := by rcases q_3 with g | g; exact absurd g.2.1 (by omega); exact g.1
    have hpp : 0 ≤ frm ∧ frm < 10 ∧ 0 ≤ too ∧ too < 10 := by obtain ⟨x0, x1, x2, x3⟩ := id hin; omega
    refine lv_aload_n hx hb dX11_isLit_9 rfl (lv_at hl 0 rfl) ?_
    refine lv_iload_n hx hb dX11_isLit_10 rfl (lv_at hl 1 rfl) ?_
    refine lv_iload_n hx hb dX11_isLit_11 rfl (lv_at hl 2 rfl) ?_
    refine zz_callVi (As := [.int (iI frm), .int (iI too)]) (rest := []) (wf := fun u => bModel tA a0 a1 a2 a3 a4 a5 a6 a7 a8 a9 a10 ms mbef msav misv mpast mpm mthr_1 mways mnds mtkp mline mlm mtxt mlen mat mwr merr mfail mcmd mcm) ⟨hx, hb, hml, hown, hts⟩ (c_X11_shines l D tA a0 a1 a2 a3 a4 a5 a6 a7 a8 a9 a10 H.size ms mbef msav misv mpast mpm mthr_1 mways mnds mtkp mline mlm mtxt mlen mat mwr merr mfail mcmd mcm frm too (by first | assumption | omega) (by first | assumption | omega) (by first | assumption | omega) (by first | assumption | omega) (by first | assumption | omega) (by first | assumption | omega)) (cwV 2 hts gX11_isLit_X11_shines rfl rfl rfl (by decide +kernel) ⟨Nat.le_of_ble_eq_true rfl, Nat.le_of_ble_eq_true rfl⟩) hK hP hD hS hA [0, 1, 2, 3, 4, 5, 6, 7, 8, 9, 10] [] [0, 1, 2, 3, 4, 5, 6, 7, 8, 9, 10] rfl rfl (by decide) (by decide) (by decide) (by decide) (fun _ => rfl) (ci := 13) (q0 := 0) rfl rfl rfl rfl rfl hl.1 (Nat.le_of_ble_eq_true rfl) dX11_isLit_12 ⟨Nat.le_of_ble_eq_true rfl, Nat.le_of_ble_eq_true rfl⟩ ?_
    intro z12_4 u H locs p12_5 hP hD hS
    have hP : va_P D vwCl (bModel tA a0 a1 a2 a3 a4 a5 a6 a7 a8 a9 a10 ms mbef msav misv mpast mpm mthr_1 mways mnds mtkp mline mlm mtxt mlen mat mwr merr mfail mcmd mcm) H := hP
    have hD : va_D A (bModel tA a0 a1 a2 a3 a4 a5 a6 a7 a8 a9 a10 ms mbef msav misv mpast mpm mthr_1 mways mnds mtkp mline mlm mtxt mlen mat mwr merr mfail mcmd mcm) := hD
    have q_12 : (z12_4 = 1 ∧ 0 < lgM ms frm too 0 ∧ lgM ms frm too 1 ≤ ms 3) ∨ (z12_4 = 0 ∧ ¬ (0 < lgM ms frm too 0 ∧ lgM ms frm too 1 ≤ ms 3)) := p12_5
    refine zz_if_eq (tgt := 22) hx hb dX11_isLit_15 (by decide) (by omega) (fun c_15 => ?_) (fun c_15 => ?_)
    · refine zz_iconst hx hb dX11_isLit_22 ?_
      exact hret 0 mthr_1 _ _ _ _ dX11_isLit_23 ⟨(show (0 : Int) = 0 ∨ (0 : Int) = 1 from by omega), (show (mthr_1 = 1 ∧ ¬ inP (ms 0) frm too) ∨ (inP (ms 0) frm too ∧ ((mthr_1 = 2 ∧ lgM ms frm too 0 = 0) ∨ (mthr_1 = 0 ∧ lgM ms frm too 0 ≠ 0 ∧ (((0 : Int) = 1 ∧ 0 < lgM ms frm too 0 ∧ lgM ms frm too 1 ≤ ms 3) ∨ ((0 : Int) = 0 ∧ ¬ (0 < lgM ms frm too 0 ∧ lgM ms frm too 1 ≤ ms 3)))))) from by first | exact Or.inr ⟨hin, Or.inr (by omega)⟩ | (rcases q_3 with g | ⟨g, h | h⟩; exact Or.inl ⟨g.1, g.2.2⟩; exact Or.inr ⟨g, Or.inl ⟨h.1, h.2.2⟩⟩; exact absurd h.2.1 (by omega)))⟩ hP hD hS
    · refine zz_iconst hx hb dX11_isLit_18 ?_
      refine lv_goto (tgt := 23) hx hb dX11_isLit_19 (by decide) ?_
      exact hret 1 mthr_1 _ _ _ _ dX11_isLit_23 ⟨(show (1 : Int) = 0 ∨ (1 : Int) = 1 from by omega), (show (mthr_1 = 1 ∧ ¬ inP (ms 0) frm too) ∨ (inP (ms 0) frm too ∧ ((mthr_1 = 2 ∧ lgM ms frm too 0 = 0) ∨ (mthr_1 = 0 ∧ lgM ms frm too 0 ≠ 0 ∧ (((1 : Int) = 1 ∧ 0 < lgM ms frm too 0 ∧ lgM ms frm too 1 ≤ ms 3) ∨ ((1 : Int) = 0 ∧ ¬ (0 < lgM ms frm too 0 ∧ lgM ms frm too 1 ≤ ms 3)))))) from by first | exact Or.inr ⟨hin, Or.inr (by omega)⟩ | (rcases q_3 with g | ⟨g, h | h⟩; exact Or.inl ⟨g.1, g.2.2⟩; exact Or.inr ⟨g, Or.inl ⟨h.1, h.2.2⟩⟩; exact absurd h.2.1 (by omega)))⟩ hP hD hS

set_option maxHeartbeats 4000000 in
set_option maxRecDepth 100000 in
theorem c_X11_isAhead (l : Launch) (D : va_G) (tA : Nat → ClassId) (a0 a1 a2 a3 a4 a5 a6 a7 a8 a9 a10 : Nat) (sz : Nat) (ms : Int → Int) (mbef : Int → Int) (msav : Int → Int) (misv : Int) (mpast : Int → Int) (mpm : Int) (mthr : Int) (mways : Int → Int) (mnds : Int → Int) (mtkp : Int → Int) (mline : Int → Int) (mlm : Int) (mtxt : Int → Int) (mlen : Int) (mat : Int) (mwr : Int) (merr : Int) (mfail : Int) (mcmd : Int → Int) (mcm : Int) (one : Int) (oth : Int) (r_one : -2147483648 ≤ one ∧ one ≤ 2147483647) (r_oth : -2147483648 ≤ oth ∧ oth ≤ 2147483647) (h1 : 0 ≤ one ∧ one < 100) (h2 : 0 ≤ oth ∧ oth < 100) (hlr : MLr ms) : zMi l yX11_isAhead wsX11_isAhead ({ frames := 1, cells := 0, slots := 0, locals := 23 }) D tA [.ref a0, .int (iI one), .int (iI oth)] (bModel tA a0 a1 a2 a3 a4 a5 a6 a7 a8 a9 a10 ms mbef msav misv mpast mpm mthr mways mnds mtkp mline mlm mtxt mlen mat mwr merr mfail mcmd mcm) sz (fun (z : Int) (u : Unit) => ((z = 1 ∧ ahM ms one oth) ∨ (z = 0 ∧ ¬ ahM ms one oth))) (fun (u : Unit) => bModel tA a0 a1 a2 a3 a4 a5 a6 a7 a8 a9 a10 ms mbef msav misv mpast mpm mthr mways mnds mtkp mline mlm mtxt mlen mat mwr merr mfail mcmd mcm) 0 0 := by
  refine zMi_of (cc := cX11_isAhead) (maxL := 4) (by decide) rfl (fun z u h => zbool z (by omega)) (Nat.le_of_ble_eq_true rfl) ?_
  intro p e s m args below meth c A Q ls hx hb hml hts hown hK hP hD hA hret hl
  obtain ⟨H, hHe⟩ : ∃ H : Heap, H = s.heap := ⟨_, rfl⟩
  have hS : va_S A s.heap H [] := by rw [hHe]; exact va_S.rf
  rw [← hHe] at hP ⊢
  have hl : lv_has ls 4 [(0, .ref a0), (1, .int (iI one)), (2, .int (iI oth))] := hl
  refine lv_aload_n hx hb dX11_isAhead_0 rfl (lv_at hl 0 rfl) ?_
  refine lv_iload_n hx hb dX11_isAhead_1 rfl (lv_at hl 2 rfl) ?_
  refine zz_bipush hx hb dX11_isAhead_2 (by decide) ?_
  refine zz_idiv hx hb dX11_isAhead_4 (by omega) (by omega) ?_
  refine lv_iload_n hx hb dX11_isAhead_5 rfl (lv_at hl 2 rfl) ?_
  refine zz_bipush hx hb dX11_isAhead_6 (by decide) ?_
  refine zz_irem hx hb dX11_isAhead_8 (by omega) (by omega) ?_
  refine zz_iconst hx hb dX11_isAhead_9 ?_
  refine zz_callVi (As := [.int (iI (oth / 10)), .int (iI (oth % 10)), .int (iI 1)]) (rest := []) (wf := fun u => bModel tA a0 a1 a2 a3 a4 a5 a6 a7 a8 a9 a10 ms mbef msav misv mpast mpm mthr mways mnds mtkp mline mlm mtxt mlen mat mwr merr mfail mcmd mcm) ⟨hx, hb, hml, hown, hts⟩ (c_X11_leg l D tA a0 a1 a2 a3 a4 a5 a6 a7 a8 a9 a10 H.size ms mbef msav misv mpast mpm mthr mways mnds mtkp mline mlm mtxt mlen mat mwr merr mfail mcmd mcm (oth / 10) (oth % 10) 1 (by first | assumption | omega) (by first | assumption | omega) (by first | assumption | omega) (by first | assumption | omega) (by first | assumption | omega) (by first | assumption | omega)) (cwV 3 hts gX11_isAhead_X11_leg rfl rfl rfl (by decide +kernel) ⟨Nat.le_of_ble_eq_true rfl, Nat.le_of_ble_eq_true rfl⟩) hK hP hD hS hA [0, 1, 2, 3, 4, 5, 6, 7, 8, 9, 10] [] [0, 1, 2, 3, 4, 5, 6, 7, 8, 9, 10] rfl rfl (by decide) (by decide) (by decide) (by decide) (fun _ => rfl) (ci := 13) (q0 := 0) rfl rfl rfl rfl rfl hl.1 (Nat.le_of_ble_eq_true rfl) dX11_isAhead_10 ⟨Nat.le_of_ble_eq_true rfl, Nat.le_of_ble_eq_true rfl⟩ ?_
  intro z10_1 u H locs p10_2 hP hD hS
  have hP : va_P D vwCl (bModel tA a0 a1 a2 a3 a4 a5 a6 a7 a8 a9 a10 ms mbef msav misv mpast mpm mthr mways mnds mtkp mline mlm mtxt mlen mat mwr merr mfail mcmd mcm) H := hP
  have hD : va_D A (bModel tA a0 a1 a2 a3 a4 a5 a6 a7 a8 a9 a10 ms mbef msav misv mpast mpm mthr mways mnds mtkp mline mlm mtxt mlen mat mwr merr mfail mcmd mcm) := hD
  have q_10 : z10_1 = lgM ms (oth / 10) (oth % 10) 1 := p10_2
  have r1 := hlr (oth / 10) (oth % 10) (1) (by omega) (by omega) (by omega) (by omega) (by omega) (by omega)
  refine lv_aload_n hx hb dX11_isAhead_13 rfl (lv_at hl 0 rfl) ?_
  refine lv_iload_n hx hb dX11_isAhead_14 rfl (lv_at hl 1 rfl) ?_
  refine zz_bipush hx hb dX11_isAhead_15 (by decide) ?_
  refine zz_idiv hx hb dX11_isAhead_17 (by omega) (by omega) ?_
  refine lv_iload_n hx hb dX11_isAhead_18 rfl (lv_at hl 1 rfl) ?_
  refine zz_bipush hx hb dX11_isAhead_19 (by decide) ?_
  refine zz_irem hx hb dX11_isAhead_21 (by omega) (by omega) ?_
  refine zz_iconst hx hb dX11_isAhead_22 ?_
  refine zz_callVi (As := [.int (iI (one / 10)), .int (iI (one % 10)), .int (iI 1)]) (rest := [.int (iI z10_1)]) (wf := fun u => bModel tA a0 a1 a2 a3 a4 a5 a6 a7 a8 a9 a10 ms mbef msav misv mpast mpm mthr mways mnds mtkp mline mlm mtxt mlen mat mwr merr mfail mcmd mcm) ⟨hx, hb, hml, hown, hts⟩ (c_X11_leg l D tA a0 a1 a2 a3 a4 a5 a6 a7 a8 a9 a10 H.size ms mbef msav misv mpast mpm mthr mways mnds mtkp mline mlm mtxt mlen mat mwr merr mfail mcmd mcm (one / 10) (one % 10) 1 (by first | assumption | omega) (by first | assumption | omega) (by first | assumption | omega) (by first | assumption | omega) (by first | assumption | omega) (by first | assumption | omega)) (cwV 3 hts gX11_isAhead_X11_leg rfl rfl rfl (by decide +kernel) ⟨Nat.le_of_ble_eq_true rfl, Nat.le_of_ble_eq_true rfl⟩) hK hP hD hS hA [0, 1, 2, 3, 4, 5, 6, 7, 8, 9, 10] [] [0, 1, 2, 3, 4, 5, 6, 7, 8, 9, 10] rfl rfl (by decide) (by decide) (by decide) (by decide) (fun _ => rfl) (ci := 13) (q0 := 0) rfl rfl rfl rfl rfl hl.1 (Nat.le_of_ble_eq_true rfl) dX11_isAhead_23 ⟨Nat.le_of_ble_eq_true rfl, Nat.le_of_ble_eq_true rfl⟩ ?_
  intro z23_3 u H locs p23_4 hP hD hS
  have hP : va_P D vwCl (bModel tA a0 a1 a2 a3 a4 a5 a6 a7 a8 a9 a10 ms mbef msav misv mpast mpm mthr mways mnds mtkp mline mlm mtxt mlen mat mwr merr mfail mcmd mcm) H := hP
  have hD : va_D A (bModel tA a0 a1 a2 a3 a4 a5 a6 a7 a8 a9 a10 ms mbef msav misv mpast mpm mthr mways mnds mtkp mline mlm mtxt mlen mat mwr merr mfail mcmd mcm) := hD
  have q_23 : z23_3 = lgM ms (one / 10) (one % 10) 1 := p23_4
  have r2 := hlr (one / 10) (one % 10) (1) (by omega) (by omega) (by omega) (by omega) (by omega) (by omega)
  refine zz_isub hx hb dX11_isAhead_26 ?_
  refine lv_istore_n (lv' := [(3, .int (iI (z10_1 - z23_3))), (0, .ref a0), (1, .int (iI one)), (2, .int (iI oth))]) hx hb dX11_isAhead_27 rfl hl (by decide) rfl (fun ls hl => ?_)
  refine lv_iload_n hx hb dX11_isAhead_28 rfl (lv_at hl 0 rfl) ?_
  refine zz_if_eq (tgt := 36) hx hb dX11_isAhead_29 (by decide) (by omega) (fun c_29 => ?_) (fun c_29 => ?_)
  · refine lv_aload_n hx hb dX11_isAhead_36 rfl (lv_at hl 1 rfl) ?_
    refine lv_iload_n hx hb dX11_isAhead_37 rfl (lv_at hl 3 rfl) ?_
    refine zz_bipush hx hb dX11_isAhead_38 (by decide) ?_
    refine zz_idiv hx hb dX11_isAhead_40 (by omega) (by omega) ?_
    refine lv_iload_n hx hb dX11_isAhead_41 rfl (lv_at hl 3 rfl) ?_
    refine zz_bipush hx hb dX11_isAhead_42 (by decide) ?_
    refine zz_irem hx hb dX11_isAhead_44 (by omega) (by omega) ?_
    refine zz_iconst hx hb dX11_isAhead_45 ?_
    refine zz_callVi (As := [.int (iI (oth / 10)), .int (iI (oth % 10)), .int (iI 0)]) (rest := []) (wf := fun u => bModel tA a0 a1 a2 a3 a4 a5 a6 a7 a8 a9 a10 ms mbef msav misv mpast mpm mthr mways mnds mtkp mline mlm mtxt mlen mat mwr merr mfail mcmd mcm) ⟨hx, hb, hml, hown, hts⟩ (c_X11_leg l D tA a0 a1 a2 a3 a4 a5 a6 a7 a8 a9 a10 H.size ms mbef msav misv mpast mpm mthr mways mnds mtkp mline mlm mtxt mlen mat mwr merr mfail mcmd mcm (oth / 10) (oth % 10) 0 (by first | assumption | omega) (by first | assumption | omega) (by first | assumption | omega) (by first | assumption | omega) (by first | assumption | omega) (by first | assumption | omega)) (cwV 3 hts gX11_isAhead_X11_leg rfl rfl rfl (by decide +kernel) ⟨Nat.le_of_ble_eq_true rfl, Nat.le_of_ble_eq_true rfl⟩) hK hP hD hS hA [0, 1, 2, 3, 4, 5, 6, 7, 8, 9, 10] [] [0, 1, 2, 3, 4, 5, 6, 7, 8, 9, 10] rfl rfl (by decide) (by decide) (by decide) (by decide) (fun _ => rfl) (ci := 13) (q0 := 0) rfl rfl rfl rfl rfl hl.1 (Nat.le_of_ble_eq_true rfl) dX11_isAhead_46 ⟨Nat.le_of_ble_eq_true rfl, Nat.le_of_ble_eq_true rfl⟩ ?_
    intro z46_5 u H locs p46_6 hP hD hS
    have hP : va_P D vwCl (bModel tA a0 a1 a2 a3 a4 a5 a6 a7 a8 a9 a10 ms mbef msav misv mpast mpm mthr mways mnds mtkp mline mlm mtxt mlen mat mwr merr mfail mcmd mcm) H := hP
    have hD : va_D A (bModel tA a0 a1 a2 a3 a4 a5 a6 a7 a8 a9 a10 ms mbef msav misv mpast mpm mthr mways mnds mtkp mline mlm mtxt mlen mat mwr merr mfail mcmd mcm) := hD
    have q_46 : z46_5 = lgM ms (oth / 10) (oth % 10) 0 := p46_6
    have r3 := hlr (oth / 10) (oth % 10) (0) (by omega) (by omega) (by omega) (by omega) (by omega) (by omega)
    refine lv_aload_n hx hb dX11_isAhead_49 rfl (lv_at hl 1 rfl) ?_
    refine lv_iload_n hx hb dX11_isAhead_50 rfl (lv_at hl 2 rfl) ?_
    refine zz_bipush hx hb dX11_isAhead_51 (by decide) ?_
    refine zz_idiv hx hb dX11_isAhead_53 (by omega) (by omega) ?_
    refine lv_iload_n hx hb dX11_isAhead_54 rfl (lv_at hl 2 rfl) ?_
    refine zz_bipush hx hb dX11_isAhead_55 (by decide) ?_
    refine zz_irem hx hb dX11_isAhead_57 (by omega) (by omega) ?_
    refine zz_iconst hx hb dX11_isAhead_58 ?_
    refine zz_callVi (As := [.int (iI (one / 10)), .int (iI (one % 10)), .int (iI 0)]) (rest := [.int (iI z46_5)]) (wf := fun u => bModel tA a0 a1 a2 a3 a4 a5 a6 a7 a8 a9 a10 ms mbef msav misv mpast mpm mthr mways mnds mtkp mline mlm mtxt mlen mat mwr merr mfail mcmd mcm) ⟨hx, hb, hml, hown, hts⟩ (c_X11_leg l D tA a0 a1 a2 a3 a4 a5 a6 a7 a8 a9 a10 H.size ms mbef msav misv mpast mpm mthr mways mnds mtkp mline mlm mtxt mlen mat mwr merr mfail mcmd mcm (one / 10) (one % 10) 0 (by first | assumption | omega) (by first | assumption | omega) (by first | assumption | omega) (by first | assumption | omega) (by first | assumption | omega) (by first | assumption | omega)) (cwV 3 hts gX11_isAhead_X11_leg rfl rfl rfl (by decide +kernel) ⟨Nat.le_of_ble_eq_true rfl, Nat.le_of_ble_eq_true rfl⟩) hK hP hD hS hA [0, 1, 2, 3, 4, 5, 6, 7, 8, 9, 10] [] [0, 1, 2, 3, 4, 5, 6, 7, 8, 9, 10] rfl rfl (by decide) (by decide) (by decide) (by decide) (fun _ => rfl) (ci := 13) (q0 := 0) rfl rfl rfl rfl rfl hl.1 (Nat.le_of_ble_eq_true rfl) dX11_isAhead_59 ⟨Nat.le_of_ble_eq_true rfl, Nat.le_of_ble_eq_true rfl⟩ ?_
    intro z59_7 u H locs p59_8 hP hD hS
    have hP : va_P D vwCl (bModel tA a0 a1 a2 a3 a4 a5 a6 a7 a8 a9 a10 ms mbef msav misv mpast mpm mthr mways mnds mtkp mline mlm mtxt mlen mat mwr merr mfail mcmd mcm) H := hP
    have hD : va_D A (bModel tA a0 a1 a2 a3 a4 a5 a6 a7 a8 a9 a10 ms mbef msav misv mpast mpm mthr mways mnds mtkp mline mlm mtxt mlen mat mwr merr mfail mcmd mcm) := hD
    have q_59 : z59_7 = lgM ms (one / 10) (one % 10) 0 := p59_8
    have r4 := hlr (one / 10) (one % 10) (0) (by omega) (by omega) (by omega) (by omega) (by omega) (by omega)
    refine zz_isub hx hb dX11_isAhead_62 ?_
    refine lv_istore_n (lv' := [(3, .int (iI (z46_5 - z59_7))), (0, .ref a0), (1, .int (iI one)), (2, .int (iI oth))]) hx hb dX11_isAhead_63 rfl hl (by decide) rfl (fun ls hl => ?_)
    refine lv_iload_n hx hb dX11_isAhead_64 rfl (lv_at hl 0 rfl) ?_
    refine zz_if_gt (tgt := 77) hx hb dX11_isAhead_65 (by decide) (by omega) (fun c_65 => ?_) (fun c_65 => ?_)
    · refine zz_iconst hx hb dX11_isAhead_77 ?_
      refine lv_goto (tgt := 82) hx hb dX11_isAhead_78 (by decide) ?_
      exact hret 1 () _ _ _ _ dX11_isAhead_82 (show ((1 : Int) = 1 ∧ ahM ms one oth) ∨ ((1 : Int) = 0 ∧ ¬ ahM ms one oth) from by unfold ahM; omega) hP hD hS
    · refine lv_iload_n hx hb dX11_isAhead_68 rfl (lv_at hl 0 rfl) ?_
      refine zz_if_ne (tgt := 81) hx hb dX11_isAhead_69 (by decide) (by omega) (fun c_69 => ?_) (fun c_69 => ?_)
      · refine zz_iconst hx hb dX11_isAhead_81 ?_
        exact hret 0 () _ _ _ _ dX11_isAhead_82 (show ((0 : Int) = 1 ∧ ahM ms one oth) ∨ ((0 : Int) = 0 ∧ ¬ ahM ms one oth) from by unfold ahM; omega) hP hD hS
      · refine lv_iload_n hx hb dX11_isAhead_72 rfl (lv_at hl 2 rfl) ?_
        refine lv_iload_n hx hb dX11_isAhead_73 rfl (lv_at hl 3 rfl) ?_
        refine zz_icmp_ge (tgt := 81) hx hb dX11_isAhead_74 (by decide) (by omega) (by omega) (fun c_74 => ?_) (fun c_74 => ?_)
        · refine zz_iconst hx hb dX11_isAhead_81 ?_
          exact hret 0 () _ _ _ _ dX11_isAhead_82 (show ((0 : Int) = 1 ∧ ahM ms one oth) ∨ ((0 : Int) = 0 ∧ ¬ ahM ms one oth) from by unfold ahM; omega) hP hD hS
        · refine zz_iconst hx hb dX11_isAhead_77 ?_
          refine lv_goto (tgt := 82) hx hb dX11_isAhead_78 (by decide) ?_
          exact hret 1 () _ _ _ _ dX11_isAhead_82 (show ((1 : Int) = 1 ∧ ahM ms one oth) ∨ ((1 : Int) = 0 ∧ ¬ ahM ms one oth) from by unfold ahM; omega) hP hD hS
  · refine lv_iload_n hx hb dX11_isAhead_32 rfl (lv_at hl 0 rfl) ?_
    refine lv_goto (tgt := 63) hx hb dX11_isAhead_33 (by decide) ?_
    refine lv_istore_n (lv' := [(3, .int (iI (z10_1 - z23_3))), (0, .ref a0), (1, .int (iI one)), (2, .int (iI oth))]) hx hb dX11_isAhead_63 rfl hl (by decide) rfl (fun ls hl => ?_)
    refine lv_iload_n hx hb dX11_isAhead_64 rfl (lv_at hl 0 rfl) ?_
    refine zz_if_gt (tgt := 77) hx hb dX11_isAhead_65 (by decide) (by omega) (fun c_65 => ?_) (fun c_65 => ?_)
    · refine zz_iconst hx hb dX11_isAhead_77 ?_
      refine lv_goto (tgt := 82) hx hb dX11_isAhead_78 (by decide) ?_
      exact hret 1 () _ _ _ _ dX11_isAhead_82 (show ((1 : Int) = 1 ∧ ahM ms one oth) ∨ ((1 : Int) = 0 ∧ ¬ ahM ms one oth) from by unfold ahM; omega) hP hD hS
    · refine lv_iload_n hx hb dX11_isAhead_68 rfl (lv_at hl 0 rfl) ?_
      refine zz_if_ne (tgt := 81) hx hb dX11_isAhead_69 (by decide) (by omega) (fun c_69 => ?_) (fun c_69 => ?_)
      · refine zz_iconst hx hb dX11_isAhead_81 ?_
        exact hret 0 () _ _ _ _ dX11_isAhead_82 (show ((0 : Int) = 1 ∧ ahM ms one oth) ∨ ((0 : Int) = 0 ∧ ¬ ahM ms one oth) from by unfold ahM; omega) hP hD hS
      · refine lv_iload_n hx hb dX11_isAhead_72 rfl (lv_at hl 2 rfl) ?_
        refine lv_iload_n hx hb dX11_isAhead_73 rfl (lv_at hl 3 rfl) ?_
        refine zz_icmp_ge (tgt := 81) hx hb dX11_isAhead_74 (by decide) (by omega) (by omega) (fun c_74 => ?_) (fun c_74 => ?_)
        · refine zz_iconst hx hb dX11_isAhead_81 ?_
          exact hret 0 () _ _ _ _ dX11_isAhead_82 (show ((0 : Int) = 1 ∧ ahM ms one oth) ∨ ((0 : Int) = 0 ∧ ¬ ahM ms one oth) from by unfold ahM; omega) hP hD hS
        · refine zz_iconst hx hb dX11_isAhead_77 ?_
          refine lv_goto (tgt := 82) hx hb dX11_isAhead_78 (by decide) ?_
          exact hret 1 () _ _ _ _ dX11_isAhead_82 (show ((1 : Int) = 1 ∧ ahM ms one oth) ∨ ((1 : Int) = 0 ∧ ¬ ahM ms one oth) from by unfold ahM; omega) hP hD hS

set_option maxHeartbeats 4000000 in
set_option maxRecDepth 100000 in
theorem c_X11_legAt (l : Launch) (D : va_G) (tA : Nat → ClassId) (a0 a1 a2 a3 a4 a5 a6 a7 a8 a9 a10 : Nat) (sz : Nat) (ms : Int → Int) (mbef : Int → Int) (msav : Int → Int) (misv : Int) (mpast : Int → Int) (mpm : Int) (mthr : Int) (mways : Int → Int) (mnds : Int → Int) (mtkp : Int → Int) (mline : Int → Int) (mlm : Int) (mtxt : Int → Int) (mlen : Int) (mat : Int) (mwr : Int) (merr : Int) (mfail : Int) (mcmd : Int → Int) (mcm : Int) (pos : Int) (r_pos : -2147483648 ≤ pos ∧ pos ≤ 2147483647) (hlr : MLr ms) : zMi l yX11_legAt wsX11_legAt ({ frames := 2, cells := 0, slots := 0, locals := 46 }) D tA [.ref a0, .int (iI pos)] (bModel tA a0 a1 a2 a3 a4 a5 a6 a7 a8 a9 a10 ms mbef msav misv mpast mpm mthr mways mnds mtkp mline mlm mtxt mlen mat mwr merr mfail mcmd mcm) sz (fun (z : Int) (u : Unit) => (LatK ms pos 100 z) ∧ (-1 ≤ z ∧ z < 100)) (fun (u : Unit) => bModel tA a0 a1 a2 a3 a4 a5 a6 a7 a8 a9 a10 ms mbef msav misv mpast mpm mthr mways mnds mtkp mline mlm mtxt mlen mat mwr merr mfail mcmd mcm) 0 0 := by
  refine zMi_of (cc := cX11_legAt) (maxL := 8) (by decide) rfl (fun z u h => rfl) (Nat.le_of_ble_eq_true rfl) ?_
  intro p e s m args below meth c A Q ls hx hb hml hts hown hK hP hD hA hret hl
  obtain ⟨H, hHe⟩ : ∃ H : Heap, H = s.heap := ⟨_, rfl⟩
  have hS : va_S A s.heap H [] := by rw [hHe]; exact va_S.rf
  rw [← hHe] at hP ⊢
  have hl : lv_has ls 8 [(0, .ref a0), (1, .int (iI pos))] := hl
  refine zz_iconst hx hb dX11_legAt_0 ?_
  refine lv_istore_n (lv' := [(2, .int (iI (-1))), (0, .ref a0), (1, .int (iI pos))]) hx hb dX11_legAt_1 rfl hl (by decide) rfl (fun ls hl => ?_)
  refine zz_iconst hx hb dX11_legAt_2 ?_
  refine lv_istore_n (lv' := [(3, .int (iI 0)), (2, .int (iI (-1))), (0, .ref a0), (1, .int (iI pos))]) hx hb dX11_legAt_3 rfl hl (by decide) rfl (fun ls hl => ?_)
  have L4 : ∀ (n : Nat) (cd : Int) (fd : Int) (H : Heap) (locs : List Loc) (ls : Array Slot), (0 ≤ cd ∧ cd ≤ 100) → (LatK ms pos cd fd) → (-1 ≤ fd ∧ fd < 100) → (100 - cd).toNat < n → va_P D vwCl (bModel tA a0 a1 a2 a3 a4 a5 a6 a7 a8 a9 a10 ms mbef msav misv mpast mpm mthr mways mnds mtkp mline mlm mtxt mlen mat mwr merr mfail mcmd mcm) H → va_D A (bModel tA a0 a1 a2 a3 a4 a5 a6 a7 a8 a9 a10 ms mbef msav misv mpast mpm mthr mways mnds mtkp mline mlm mtxt mlen mat mwr merr mfail mcmd mcm) → va_S A s.heap H locs → lv_has ls 8 [(3, .int (iI cd)), (2, .int (iI fd)), (0, .ref a0), (1, .int (iI pos))] → W p l e (headSpec wsX11_legAt ({ frames := 2, cells := 0, slots := 0, locals := 46 })).room s m args below meth c H locs 0 0 Q (F0 m 4 ls []) := by
    intro n
    induction n with
    | zero => intro cd fd H locs ls i0 i1 i2 hmz; exact absurd hmz (Nat.not_lt_zero _)
    | succ n ih4 =>
      intro cd fd H locs ls i0 i1 i2 hmz hP hD hS hl
      refine lv_iload_n hx hb dX11_legAt_4 rfl (lv_at hl 0 rfl) ?_
      refine zz_bipush hx hb dX11_legAt_5 (by decide) ?_
      refine zz_icmp_ge (tgt := 154) hx hb dX11_legAt_7 (by decide) (by omega) (by decide) (fun c_7 => ?_) (fun c_7 => ?_)
      · refine lv_iload_n hx hb dX11_legAt_154 rfl (lv_at hl 1 rfl) ?_
        exact hret fd () _ _ _ _ dX11_legAt_155 ⟨(show LatK ms pos 100 fd from by rw [show cd = 100 by omega] at i1; exact i1), (show -1 ≤ fd ∧ fd < 100 from by omega)⟩ hP hD hS
      · have J42 : ∀ (isl : Int) (H : Heap) (locs : List Loc) (ls : Array Slot), ((isl = 1 ∧ isLg ms cd) ∨ (isl = 0 ∧ ¬ isLg ms cd)) → va_P D vwCl (bModel tA a0 a1 a2 a3 a4 a5 a6 a7 a8 a9 a10 ms mbef msav misv mpast mpm mthr mways mnds mtkp mline mlm mtxt mlen mat mwr merr mfail mcmd mcm) H → va_D A (bModel tA a0 a1 a2 a3 a4 a5 a6 a7 a8 a9 a10 ms mbef msav misv mpast mpm mthr mways mnds mtkp mline mlm mtxt mlen mat mwr merr mfail mcmd mcm) → va_S A s.heap H locs → lv_has ls 8 [(3, .int (iI cd)), (2, .int (iI fd)), (0, .ref a0), (1, .int (iI pos))] → W p l e (headSpec wsX11_legAt ({ frames := 2, cells := 0, slots := 0, locals := 46 })).room s m args below meth c H locs 0 0 Q (F0 m 42 ls [.int (iI isl)]) := by
          intro isl H locs ls js hP hD hS hl
          refine lv_istore (lv' := [(4, .int (iI isl)), (3, .int (iI cd)), (2, .int (iI fd)), (0, .ref a0), (1, .int (iI pos))]) hx hb dX11_legAt_42 hl (by decide) rfl (fun ls hl => ?_)
          refine zz_iconst hx hb dX11_legAt_44 ?_
          refine lv_istore (lv' := [(5, .int (iI 0)), (4, .int (iI isl)), (3, .int (iI cd)), (2, .int (iI fd)), (0, .ref a0), (1, .int (iI pos))]) hx hb dX11_legAt_45 hl (by decide) rfl (fun ls hl => ?_)
          refine zz_iconst hx hb dX11_legAt_47 ?_
          refine lv_istore (lv' := [(6, .int (iI 0)), (5, .int (iI 0)), (4, .int (iI isl)), (3, .int (iI cd)), (2, .int (iI fd)), (0, .ref a0), (1, .int (iI pos))]) hx hb dX11_legAt_48 hl (by decide) rfl (fun ls hl => ?_)
          have L50 : ∀ (n : Nat) (d : Int) (ah : Int) (H : Heap) (locs : List Loc) (ls : Array Slot), (0 ≤ d ∧ d ≤ 100) → (isl = 1 → ah = ahN ms cd d) → (0 ≤ ah ∧ ah ≤ d) → (100 - d).toNat < n → va_P D vwCl (bModel tA a0 a1 a2 a3 a4 a5 a6 a7 a8 a9 a10 ms mbef msav misv mpast mpm mthr mways mnds mtkp mline mlm mtxt mlen mat mwr merr mfail mcmd mcm) H → va_D A (bModel tA a0 a1 a2 a3 a4 a5 a6 a7 a8 a9 a10 ms mbef msav misv mpast mpm mthr mways mnds mtkp mline mlm mtxt mlen mat mwr merr mfail mcmd mcm) → va_S A s.heap H locs → lv_has ls 8 [(6, .int (iI d)), (5, .int (iI ah)), (4, .int (iI isl)), (3, .int (iI cd)), (2, .int (iI fd)), (0, .ref a0), (1, .int (iI pos))] → W p l e (headSpec wsX11_legAt ({ frames := 2, cells := 0, slots := 0, locals := 46 })).room s m args below meth c H locs 0 0 Q (F0 m 50 ls []) := by
            intro n
            induction n with
            | zero => intro d ah H locs ls j0 j1 j2 hmz; exact absurd hmz (Nat.not_lt_zero _)
            | succ n ih50 =>
              intro d ah H locs ls j0 j1 j2 hmz hP hD hS hl
              refine lv_iload hx hb dX11_legAt_50 (lv_at hl 0 rfl) ?_
              refine zz_bipush hx hb dX11_legAt_52 (by decide) ?_
              refine zz_icmp_ge (tgt := 131) hx hb dX11_legAt_54 (by decide) (by omega) (by decide) (fun c_54 => ?_) (fun c_54 => ?_)
              · have hah : isl = 1 → ah = ahN ms cd 100 := fun h => by rw [j1 h, show d = 100 by omega]
                refine lv_iload hx hb dX11_legAt_131 (lv_at hl 2 rfl) ?_
                refine zz_if_eq (tgt := 146) hx hb dX11_legAt_133 (by decide) (by omega) (fun c_133 => ?_) (fun c_133 => ?_)
                · refine lv_iload_n hx hb dX11_legAt_146 rfl (lv_at hl 4 rfl) ?_
                  refine lv_istore_n (lv' := [(2, .int (iI fd)), (6, .int (iI d)), (5, .int (iI ah)), (4, .int (iI isl)), (3, .int (iI cd)), (0, .ref a0), (1, .int (iI pos))]) hx hb dX11_legAt_147 rfl hl (by decide) rfl (fun ls hl => ?_)
                  refine zz_iinc (lv' := [(3, .int (iI (cd + 1))), (2, .int (iI fd)), (6, .int (iI d)), (5, .int (iI ah)), (4, .int (iI isl)), (0, .ref a0), (1, .int (iI pos))]) hx hb dX11_legAt_148 hl (k := 4) rfl (by decide) rfl (fun ls hl => ?_)
                  refine lv_goto (tgt := 4) hx hb dX11_legAt_151 (by decide) ?_
                  exact ih4 (cd + 1) fd _ _ _ (by omega) (by first | exact LatK_yes (by omega) i1 (js.elim (fun g => g.2) (fun g => absurd g.1 (by omega))) (by rw [← hah (by omega)]; omega) | exact LatK_no i1 (fun g => by have := hah (by omega); have := g.2; omega) | exact LatK_no i1 (fun g => js.elim (fun y => absurd y.1 (by omega)) (fun y => y.2 g.1))) (by omega) (by omega) hP hD hS (lv_sub hl [0, 1, 5, 6] rfl)
                · refine lv_iload hx hb dX11_legAt_136 (lv_at hl 1 rfl) ?_
                  refine lv_iload_n hx hb dX11_legAt_138 rfl (lv_at hl 6 rfl) ?_
                  refine zz_icmp_ne (tgt := 146) hx hb dX11_legAt_139 (by decide) (by omega) (by omega) (fun c_139 => ?_) (fun c_139 => ?_)
                  · refine lv_iload_n hx hb dX11_legAt_146 rfl (lv_at hl 4 rfl) ?_
                    refine lv_istore_n (lv' := [(2, .int (iI fd)), (6, .int (iI d)), (5, .int (iI ah)), (4, .int (iI isl)), (3, .int (iI cd)), (0, .ref a0), (1, .int (iI pos))]) hx hb dX11_legAt_147 rfl hl (by decide) rfl (fun ls hl => ?_)
                    refine zz_iinc (lv' := [(3, .int (iI (cd + 1))), (2, .int (iI fd)), (6, .int (iI d)), (5, .int (iI ah)), (4, .int (iI isl)), (0, .ref a0), (1, .int (iI pos))]) hx hb dX11_legAt_148 hl (k := 4) rfl (by decide) rfl (fun ls hl => ?_)
                    refine lv_goto (tgt := 4) hx hb dX11_legAt_151 (by decide) ?_
                    exact ih4 (cd + 1) fd _ _ _ (by omega) (by first | exact LatK_yes (by omega) i1 (js.elim (fun g => g.2) (fun g => absurd g.1 (by omega))) (by rw [← hah (by omega)]; omega) | exact LatK_no i1 (fun g => by have := hah (by omega); have := g.2; omega) | exact LatK_no i1 (fun g => js.elim (fun y => absurd y.1 (by omega)) (fun y => y.2 g.1))) (by omega) (by omega) hP hD hS (lv_sub hl [0, 1, 5, 6] rfl)
                  · refine lv_iload_n hx hb dX11_legAt_142 rfl (lv_at hl 3 rfl) ?_
                    refine lv_goto (tgt := 147) hx hb dX11_legAt_143 (by decide) ?_
                    refine lv_istore_n (lv' := [(2, .int (iI cd)), (6, .int (iI d)), (5, .int (iI ah)), (4, .int (iI isl)), (3, .int (iI cd)), (0, .ref a0), (1, .int (iI pos))]) hx hb dX11_legAt_147 rfl hl (by decide) rfl (fun ls hl => ?_)
                    refine zz_iinc (lv' := [(3, .int (iI (cd + 1))), (2, .int (iI cd)), (6, .int (iI d)), (5, .int (iI ah)), (4, .int (iI isl)), (0, .ref a0), (1, .int (iI pos))]) hx hb dX11_legAt_148 hl (k := 4) rfl (by decide) rfl (fun ls hl => ?_)
                    refine lv_goto (tgt := 4) hx hb dX11_legAt_151 (by decide) ?_
                    exact ih4 (cd + 1) cd _ _ _ (by omega) (by first | exact LatK_yes (by omega) i1 (js.elim (fun g => g.2) (fun g => absurd g.1 (by omega))) (by rw [← hah (by omega)]; omega) | exact LatK_no i1 (fun g => by have := hah (by omega); have := g.2; omega) | exact LatK_no i1 (fun g => js.elim (fun y => absurd y.1 (by omega)) (fun y => y.2 g.1))) (by omega) (by omega) hP hD hS (lv_sub hl [0, 1, 5, 6] rfl)
              · refine lv_iload hx hb dX11_legAt_57 (lv_at hl 2 rfl) ?_
                refine zz_if_eq (tgt := 131) hx hb dX11_legAt_59 (by decide) (by omega) (fun c_59 => ?_) (fun c_59 => ?_)
                · have hah : isl = 1 → ah = ahN ms cd 100 := fun h => by rw [j1 h, show d = 100 by omega]
                  refine lv_iload hx hb dX11_legAt_131 (lv_at hl 2 rfl) ?_
                  refine zz_if_eq (tgt := 146) hx hb dX11_legAt_133 (by decide) (by omega) (fun c_133 => ?_) (fun c_133 => ?_)
                  · refine lv_iload_n hx hb dX11_legAt_146 rfl (lv_at hl 4 rfl) ?_
                    refine lv_istore_n (lv' := [(2, .int (iI fd)), (6, .int (iI d)), (5, .int (iI ah)), (4, .int (iI isl)), (3, .int (iI cd)), (0, .ref a0), (1, .int (iI pos))]) hx hb dX11_legAt_147 rfl hl (by decide) rfl (fun ls hl => ?_)
                    refine zz_iinc (lv' := [(3, .int (iI (cd + 1))), (2, .int (iI fd)), (6, .int (iI d)), (5, .int (iI ah)), (4, .int (iI isl)), (0, .ref a0), (1, .int (iI pos))]) hx hb dX11_legAt_148 hl (k := 4) rfl (by decide) rfl (fun ls hl => ?_)
                    refine lv_goto (tgt := 4) hx hb dX11_legAt_151 (by decide) ?_
                    exact ih4 (cd + 1) fd _ _ _ (by omega) (by first | exact LatK_yes (by omega) i1 (js.elim (fun g => g.2) (fun g => absurd g.1 (by omega))) (by rw [← hah (by omega)]; omega) | exact LatK_no i1 (fun g => by have := hah (by omega); have := g.2; omega) | exact LatK_no i1 (fun g => js.elim (fun y => absurd y.1 (by omega)) (fun y => y.2 g.1))) (by omega) (by omega) hP hD hS (lv_sub hl [0, 1, 5, 6] rfl)
                  · refine lv_iload hx hb dX11_legAt_136 (lv_at hl 1 rfl) ?_
                    refine lv_iload_n hx hb dX11_legAt_138 rfl (lv_at hl 6 rfl) ?_
                    refine zz_icmp_ne (tgt := 146) hx hb dX11_legAt_139 (by decide) (by omega) (by omega) (fun c_139 => ?_) (fun c_139 => ?_)
                    · refine lv_iload_n hx hb dX11_legAt_146 rfl (lv_at hl 4 rfl) ?_
                      refine lv_istore_n (lv' := [(2, .int (iI fd)), (6, .int (iI d)), (5, .int (iI ah)), (4, .int (iI isl)), (3, .int (iI cd)), (0, .ref a0), (1, .int (iI pos))]) hx hb dX11_legAt_147 rfl hl (by decide) rfl (fun ls hl => ?_)
                      refine zz_iinc (lv' := [(3, .int (iI (cd + 1))), (2, .int (iI fd)), (6, .int (iI d)), (5, .int (iI ah)), (4, .int (iI isl)), (0, .ref a0), (1, .int (iI pos))]) hx hb dX11_legAt_148 hl (k := 4) rfl (by decide) rfl (fun ls hl => ?_)
                      refine lv_goto (tgt := 4) hx hb dX11_legAt_151 (by decide) ?_
                      exact ih4 (cd + 1) fd _ _ _ (by omega) (by first | exact LatK_yes (by omega) i1 (js.elim (fun g => g.2) (fun g => absurd g.1 (by omega))) (by rw [← hah (by omega)]; omega) | exact LatK_no i1 (fun g => by have := hah (by omega); have := g.2; omega) | exact LatK_no i1 (fun g => js.elim (fun y => absurd y.1 (by omega)) (fun y => y.2 g.1))) (by omega) (by omega) hP hD hS (lv_sub hl [0, 1, 5, 6] rfl)
                    · refine lv_iload_n hx hb dX11_legAt_142 rfl (lv_at hl 3 rfl) ?_
                      refine lv_goto (tgt := 147) hx hb dX11_legAt_143 (by decide) ?_
                      refine lv_istore_n (lv' := [(2, .int (iI cd)), (6, .int (iI d)), (5, .int (iI ah)), (4, .int (iI isl)), (3, .int (iI cd)), (0, .ref a0), (1, .int (iI pos))]) hx hb dX11_legAt_147 rfl hl (by decide) rfl (fun ls hl => ?_)
                      refine zz_iinc (lv' := [(3, .int (iI (cd + 1))), (2, .int (iI cd)), (6, .int (iI d)), (5, .int (iI ah)), (4, .int (iI isl)), (0, .ref a0), (1, .int (iI pos))]) hx hb dX11_legAt_148 hl (k := 4) rfl (by decide) rfl (fun ls hl => ?_)
                      refine lv_goto (tgt := 4) hx hb dX11_legAt_151 (by decide) ?_
                      exact ih4 (cd + 1) cd _ _ _ (by omega) (by first | exact LatK_yes (by omega) i1 (js.elim (fun g => g.2) (fun g => absurd g.1 (by omega))) (by rw [← hah (by omega)]; omega) | exact LatK_no i1 (fun g => by have := hah (by omega); have := g.2; omega) | exact LatK_no i1 (fun g => js.elim (fun y => absurd y.1 (by omega)) (fun y => y.2 g.1))) (by omega) (by omega) hP hD hS (lv_sub hl [0, 1, 5, 6] rfl)
                · have J98 : ∀ (iso : Int) (H : Heap) (locs : List Loc) (ls : Array Slot), ((iso = 1 ∧ isLg ms d) ∨ (iso = 0 ∧ ¬ isLg ms d)) → va_P D vwCl (bModel tA a0 a1 a2 a3 a4 a5 a6 a7 a8 a9 a10 ms mbef msav misv mpast mpm mthr mways mnds mtkp mline mlm mtxt mlen mat mwr merr mfail mcmd mcm) H → va_D A (bModel tA a0 a1 a2 a3 a4 a5 a6 a7 a8 a9 a10 ms mbef msav misv mpast mpm mthr mways mnds mtkp mline mlm mtxt mlen mat mwr merr mfail mcmd mcm) → va_S A s.heap H locs → lv_has ls 8 [(6, .int (iI d)), (5, .int (iI ah)), (4, .int (iI isl)), (3, .int (iI cd)), (2, .int (iI fd)), (0, .ref a0), (1, .int (iI pos))] → W p l e (headSpec wsX11_legAt ({ frames := 2, cells := 0, slots := 0, locals := 46 })).room s m args below meth c H locs 0 0 Q (F0 m 98 ls [.int (iI iso)]) := by
                    intro iso H locs ls jt hP hD hS hl
                    refine lv_istore (lv' := [(7, .int (iI iso)), (6, .int (iI d)), (5, .int (iI ah)), (4, .int (iI isl)), (3, .int (iI cd)), (2, .int (iI fd)), (0, .ref a0), (1, .int (iI pos))]) hx hb dX11_legAt_98 hl (by decide) rfl (fun ls hl => ?_)
                    refine lv_iload hx hb dX11_legAt_100 (lv_at hl 2 rfl) ?_
                    refine lv_iload hx hb dX11_legAt_102 (lv_at hl 0 rfl) ?_
                    refine zz_if_eq (tgt := 121) hx hb dX11_legAt_104 (by decide) (by omega) (fun c_104 => ?_) (fun c_104 => ?_)
                    · refine zz_iconst hx hb dX11_legAt_121 ?_
                      refine zz_iadd hx hb dX11_legAt_122 ?_
                      refine lv_istore (lv' := [(5, .int (iI (ah + 0))), (7, .int (iI iso)), (6, .int (iI d)), (4, .int (iI isl)), (3, .int (iI cd)), (2, .int (iI fd)), (0, .ref a0), (1, .int (iI pos))]) hx hb dX11_legAt_123 hl (by decide) rfl (fun ls hl => ?_)
                      refine zz_iinc (lv' := [(6, .int (iI (d + 1))), (5, .int (iI (ah + 0))), (7, .int (iI iso)), (4, .int (iI isl)), (3, .int (iI cd)), (2, .int (iI fd)), (0, .ref a0), (1, .int (iI pos))]) hx hb dX11_legAt_125 hl (k := 2) rfl (by decide) rfl (fun ls hl => ?_)
                      refine lv_goto (tgt := 50) hx hb dX11_legAt_128 (by decide) ?_
                      exact ih50 (d + 1) (ah + 0) _ _ _ (by omega) (by first | exact fun h => by rw [j1 h]; exact ahN_s1 (by omega) ⟨jt.elim (fun g => g.2) (fun g => absurd g.1 (by omega)), q_111.elim (fun g => g.2) (fun g => absurd g.1 (by omega))⟩ | exact fun h => by rw [j1 h, Int.add_zero]; exact ahN_s0 (by omega) (fun g => jt.elim (fun y => absurd y.1 (by omega)) (fun y => y.2 g.1)) | exact fun h => by rw [j1 h, Int.add_zero]; exact ahN_s0 (by omega) (fun g => q_111.elim (fun y => absurd y.1 (by omega)) (fun y => y.2 g.2))) (by omega) (by omega) hP hD hS (lv_sub hl [0, 1, 3, 4, 5, 6, 7] rfl)
                    · refine lv_aload_n hx hb dX11_legAt_107 rfl (lv_at hl 6 rfl) ?_
                      refine lv_iload hx hb dX11_legAt_108 (lv_at hl 1 rfl) ?_
                      refine lv_iload_n hx hb dX11_legAt_110 rfl (lv_at hl 4 rfl) ?_
                      refine zz_callVi (As := [.int (iI d), .int (iI cd)]) (rest := [.int (iI ah)]) (wf := fun u => bModel tA a0 a1 a2 a3 a4 a5 a6 a7 a8 a9 a10 ms mbef msav misv mpast mpm mthr mways mnds mtkp mline mlm mtxt mlen mat mwr merr mfail mcmd mcm) ⟨hx, hb, hml, hown, hts⟩ (c_X11_isAhead l D tA a0 a1 a2 a3 a4 a5 a6 a7 a8 a9 a10 H.size ms mbef msav misv mpast mpm mthr mways mnds mtkp mline mlm mtxt mlen mat mwr merr mfail mcmd mcm d cd (by first | assumption | omega) (by first | assumption | omega) (by first | assumption | omega) (by first | assumption | omega) (by first | assumption | omega)) (cwV 2 hts gX11_legAt_X11_isAhead rfl rfl rfl (by decide +kernel) ⟨Nat.le_of_ble_eq_true rfl, Nat.le_of_ble_eq_true rfl⟩) hK hP hD hS hA [0, 1, 2, 3, 4, 5, 6, 7, 8, 9, 10] [] [0, 1, 2, 3, 4, 5, 6, 7, 8, 9, 10] rfl rfl (by decide) (by decide) (by decide) (by decide) (fun _ => rfl) (ci := 13) (q0 := 0) rfl rfl rfl rfl rfl hl.1 (Nat.le_of_ble_eq_true rfl) dX11_legAt_111 ⟨Nat.le_of_ble_eq_true rfl, Nat.le_of_ble_eq_true rfl⟩ ?_
                      intro z111_1 u H locs p111_2 hP hD hS
                      have hP : va_P D vwCl (bModel tA a0 a1 a2 a3 a4 a5 a6 a7 a8 a9 a10 ms mbef msav misv mpast mpm mthr mways mnds mtkp mline mlm mtxt mlen mat mwr merr mfail mcmd mcm) H := hP
                      have hD : va_D A (bModel tA a0 a1 a2 a3 a4 a5 a6 a7 a8 a9 a10 ms mbef msav misv mpast mpm mthr mways mnds mtkp mline mlm mtxt mlen mat mwr merr mfail mcmd mcm) := hD
                      have q_111 : (z111_1 = 1 ∧ ahM ms d cd) ∨ (z111_1 = 0 ∧ ¬ ahM ms d cd) := p111_2
                      refine zz_if_eq (tgt := 121) hx hb dX11_legAt_114 (by decide) (by omega) (fun c_114 => ?_) (fun c_114 => ?_)
                      · refine zz_iconst hx hb dX11_legAt_121 ?_
                        refine zz_iadd hx hb dX11_legAt_122 ?_
                        refine lv_istore (lv' := [(5, .int (iI (ah + 0))), (7, .int (iI iso)), (6, .int (iI d)), (4, .int (iI isl)), (3, .int (iI cd)), (2, .int (iI fd)), (0, .ref a0), (1, .int (iI pos))]) hx hb dX11_legAt_123 hl (by decide) rfl (fun ls hl => ?_)
                        refine zz_iinc (lv' := [(6, .int (iI (d + 1))), (5, .int (iI (ah + 0))), (7, .int (iI iso)), (4, .int (iI isl)), (3, .int (iI cd)), (2, .int (iI fd)), (0, .ref a0), (1, .int (iI pos))]) hx hb dX11_legAt_125 hl (k := 2) rfl (by decide) rfl (fun ls hl => ?_)
                        refine lv_goto (tgt := 50) hx hb dX11_legAt_128 (by decide) ?_
                        exact ih50 (d + 1) (ah + 0) _ _ _ (by omega) (by first | exact fun h => by rw [j1 h]; exact ahN_s1 (by omega) ⟨jt.elim (fun g => g.2) (fun g => absurd g.1 (by omega)), q_111.elim (fun g => g.2) (fun g => absurd g.1 (by omega))⟩ | exact fun h => by rw [j1 h, Int.add_zero]; exact ahN_s0 (by omega) (fun g => jt.elim (fun y => absurd y.1 (by omega)) (fun y => y.2 g.1)) | exact fun h => by rw [j1 h, Int.add_zero]; exact ahN_s0 (by omega) (fun g => q_111.elim (fun y => absurd y.1 (by omega)) (fun y => y.2 g.2))) (by omega) (by omega) hP hD hS (lv_sub hl [0, 1, 3, 4, 5, 6, 7] rfl)
                      · refine zz_iconst hx hb dX11_legAt_117 ?_
                        refine lv_goto (tgt := 122) hx hb dX11_legAt_118 (by decide) ?_
                        refine zz_iadd hx hb dX11_legAt_122 ?_
                        refine lv_istore (lv' := [(5, .int (iI (ah + 1))), (7, .int (iI iso)), (6, .int (iI d)), (4, .int (iI isl)), (3, .int (iI cd)), (2, .int (iI fd)), (0, .ref a0), (1, .int (iI pos))]) hx hb dX11_legAt_123 hl (by decide) rfl (fun ls hl => ?_)
                        refine zz_iinc (lv' := [(6, .int (iI (d + 1))), (5, .int (iI (ah + 1))), (7, .int (iI iso)), (4, .int (iI isl)), (3, .int (iI cd)), (2, .int (iI fd)), (0, .ref a0), (1, .int (iI pos))]) hx hb dX11_legAt_125 hl (k := 2) rfl (by decide) rfl (fun ls hl => ?_)
                        refine lv_goto (tgt := 50) hx hb dX11_legAt_128 (by decide) ?_
                        exact ih50 (d + 1) (ah + 1) _ _ _ (by omega) (by first | exact fun h => by rw [j1 h]; exact ahN_s1 (by omega) ⟨jt.elim (fun g => g.2) (fun g => absurd g.1 (by omega)), q_111.elim (fun g => g.2) (fun g => absurd g.1 (by omega))⟩ | exact fun h => by rw [j1 h, Int.add_zero]; exact ahN_s0 (by omega) (fun g => jt.elim (fun y => absurd y.1 (by omega)) (fun y => y.2 g.1)) | exact fun h => by rw [j1 h, Int.add_zero]; exact ahN_s0 (by omega) (fun g => q_111.elim (fun y => absurd y.1 (by omega)) (fun y => y.2 g.2))) (by omega) (by omega) hP hD hS (lv_sub hl [0, 1, 3, 4, 5, 6, 7] rfl)
                  refine lv_iload hx hb dX11_legAt_62 (lv_at hl 0 rfl) ?_
                  refine zz_bipush hx hb dX11_legAt_64 (by decide) ?_
                  refine zz_idiv hx hb dX11_legAt_66 (by omega) (by omega) ?_
                  refine lv_iload hx hb dX11_legAt_67 (lv_at hl 0 rfl) ?_
                  refine zz_bipush hx hb dX11_legAt_69 (by decide) ?_
                  refine zz_irem hx hb dX11_legAt_71 (by omega) (by omega) ?_
                  refine zz_icmp_ge (tgt := 97) hx hb dX11_legAt_72 (by decide) (by omega) (by omega) (fun c_72 => ?_) (fun c_72 => ?_)
                  · refine zz_iconst hx hb dX11_legAt_97 ?_
                    exact J98 0 _ _ _ (by unfold isLg; omega) hP hD hS (lv_sub hl [0, 1, 2, 3, 4, 5, 6] rfl)
                  · refine lv_aload_n hx hb dX11_legAt_75 rfl (lv_at hl 5 rfl) ?_
                    refine lv_iload hx hb dX11_legAt_76 (lv_at hl 0 rfl) ?_
                    refine zz_bipush hx hb dX11_legAt_78 (by decide) ?_
                    refine zz_idiv hx hb dX11_legAt_80 (by omega) (by omega) ?_
                    refine lv_iload hx hb dX11_legAt_81 (lv_at hl 0 rfl) ?_
                    refine zz_bipush hx hb dX11_legAt_83 (by decide) ?_
                    refine zz_irem hx hb dX11_legAt_85 (by omega) (by omega) ?_
                    refine zz_iconst hx hb dX11_legAt_86 ?_
                    refine zz_callVi (As := [.int (iI (d / 10)), .int (iI (d % 10)), .int (iI 0)]) (rest := []) (wf := fun u => bModel tA a0 a1 a2 a3 a4 a5 a6 a7 a8 a9 a10 ms mbef msav misv mpast mpm mthr mways mnds mtkp mline mlm mtxt mlen mat mwr merr mfail mcmd mcm) ⟨hx, hb, hml, hown, hts⟩ (c_X11_leg l D tA a0 a1 a2 a3 a4 a5 a6 a7 a8 a9 a10 H.size ms mbef msav misv mpast mpm mthr mways mnds mtkp mline mlm mtxt mlen mat mwr merr mfail mcmd mcm (d / 10) (d % 10) 0 (by first | assumption | omega) (by first | assumption | omega) (by first | assumption | omega) (by first | assumption | omega) (by first | assumption | omega) (by first | assumption | omega)) (cwV 3 hts gX11_legAt_X11_leg rfl rfl rfl (by decide +kernel) ⟨Nat.le_of_ble_eq_true rfl, Nat.le_of_ble_eq_true rfl⟩) hK hP hD hS hA [0, 1, 2, 3, 4, 5, 6, 7, 8, 9, 10] [] [0, 1, 2, 3, 4, 5, 6, 7, 8, 9, 10] rfl rfl (by decide) (by decide) (by decide) (by decide) (fun _ => rfl) (ci := 13) (q0 := 0) rfl rfl rfl rfl rfl hl.1 (Nat.le_of_ble_eq_true rfl) dX11_legAt_87 ⟨Nat.le_of_ble_eq_true rfl, Nat.le_of_ble_eq_true rfl⟩ ?_
                    intro z87_3 u H locs p87_4 hP hD hS
                    have hP : va_P D vwCl (bModel tA a0 a1 a2 a3 a4 a5 a6 a7 a8 a9 a10 ms mbef msav misv mpast mpm mthr mways mnds mtkp mline mlm mtxt mlen mat mwr merr mfail mcmd mcm) H := hP
                    have hD : va_D A (bModel tA a0 a1 a2 a3 a4 a5 a6 a7 a8 a9 a10 ms mbef msav misv mpast mpm mthr mways mnds mtkp mline mlm mtxt mlen mat mwr merr mfail mcmd mcm) := hD
                    have q_87 : z87_3 = lgM ms (d / 10) (d % 10) 0 := p87_4
                    have rl2 := hlr (d / 10) (d % 10) (0) (by omega) (by omega) (by omega) (by omega) (by omega) (by omega)
                    refine zz_if_le (tgt := 97) hx hb dX11_legAt_90 (by decide) (by omega) (fun c_90 => ?_) (fun c_90 => ?_)
                    · refine zz_iconst hx hb dX11_legAt_97 ?_
                      exact J98 0 _ _ _ (by unfold isLg; omega) hP hD hS (lv_sub hl [0, 1, 2, 3, 4, 5, 6] rfl)
                    · refine zz_iconst hx hb dX11_legAt_93 ?_
                      refine lv_goto (tgt := 98) hx hb dX11_legAt_94 (by decide) ?_
                      exact J98 1 _ _ _ (by unfold isLg; omega) hP hD hS (lv_sub hl [0, 1, 2, 3, 4, 5, 6] rfl)
          exact L50 _ 0 0 _ _ _ (by omega) (by exact fun _ => rfl) (by omega) (Nat.lt_succ_self _) hP hD hS (lv_sub hl [0, 1, 2, 3, 4, 5, 6] rfl)
        refine lv_iload_n hx hb dX11_legAt_10 rfl (lv_at hl 0 rfl) ?_
        refine zz_bipush hx hb dX11_legAt_11 (by decide) ?_
        refine zz_idiv hx hb dX11_legAt_13 (by omega) (by omega) ?_
        refine lv_iload_n hx hb dX11_legAt_14 rfl (lv_at hl 0 rfl) ?_
        refine zz_bipush hx hb dX11_legAt_15 (by decide) ?_
        refine zz_irem hx hb dX11_legAt_17 (by omega) (by omega) ?_
        refine zz_icmp_ge (tgt := 41) hx hb dX11_legAt_18 (by decide) (by omega) (by omega) (fun c_18 => ?_) (fun c_18 => ?_)
        · refine zz_iconst hx hb dX11_legAt_41 ?_
          exact J42 0 _ _ _ (by unfold isLg; omega) hP hD hS (lv_sub hl [0, 1, 2, 3] rfl)
        · refine lv_aload_n hx hb dX11_legAt_21 rfl (lv_at hl 2 rfl) ?_
          refine lv_iload_n hx hb dX11_legAt_22 rfl (lv_at hl 0 rfl) ?_
          refine zz_bipush hx hb dX11_legAt_23 (by decide) ?_
          refine zz_idiv hx hb dX11_legAt_25 (by omega) (by omega) ?_
          refine lv_iload_n hx hb dX11_legAt_26 rfl (lv_at hl 0 rfl) ?_
          refine zz_bipush hx hb dX11_legAt_27 (by decide) ?_
          refine zz_irem hx hb dX11_legAt_29 (by omega) (by omega) ?_
          refine zz_iconst hx hb dX11_legAt_30 ?_
          refine zz_callVi (As := [.int (iI (cd / 10)), .int (iI (cd % 10)), .int (iI 0)]) (rest := []) (wf := fun u => bModel tA a0 a1 a2 a3 a4 a5 a6 a7 a8 a9 a10 ms mbef msav misv mpast mpm mthr mways mnds mtkp mline mlm mtxt mlen mat mwr merr mfail mcmd mcm) ⟨hx, hb, hml, hown, hts⟩ (c_X11_leg l D tA a0 a1 a2 a3 a4 a5 a6 a7 a8 a9 a10 H.size ms mbef msav misv mpast mpm mthr mways mnds mtkp mline mlm mtxt mlen mat mwr merr mfail mcmd mcm (cd / 10) (cd % 10) 0 (by first | assumption | omega) (by first | assumption | omega) (by first | assumption | omega) (by first | assumption | omega) (by first | assumption | omega) (by first | assumption | omega)) (cwV 3 hts gX11_legAt_X11_leg rfl rfl rfl (by decide +kernel) ⟨Nat.le_of_ble_eq_true rfl, Nat.le_of_ble_eq_true rfl⟩) hK hP hD hS hA [0, 1, 2, 3, 4, 5, 6, 7, 8, 9, 10] [] [0, 1, 2, 3, 4, 5, 6, 7, 8, 9, 10] rfl rfl (by decide) (by decide) (by decide) (by decide) (fun _ => rfl) (ci := 13) (q0 := 0) rfl rfl rfl rfl rfl hl.1 (Nat.le_of_ble_eq_true rfl) dX11_legAt_31 ⟨Nat.le_of_ble_eq_true rfl, Nat.le_of_ble_eq_true rfl⟩ ?_
          intro z31_5 u H locs p31_6 hP hD hS
          have hP : va_P D vwCl (bModel tA a0 a1 a2 a3 a4 a5 a6 a7 a8 a9 a10 ms mbef msav misv mpast mpm mthr mways mnds mtkp mline mlm mtxt mlen mat mwr merr mfail mcmd mcm) H := hP
          have hD : va_D A (bModel tA a0 a1 a2 a3 a4 a5 a6 a7 a8 a9 a10 ms mbef msav misv mpast mpm mthr mways mnds mtkp mline mlm mtxt mlen mat mwr merr mfail mcmd mcm) := hD
          have q_31 : z31_5 = lgM ms (cd / 10) (cd % 10) 0 := p31_6
          have rl := hlr (cd / 10) (cd % 10) (0) (by omega) (by omega) (by omega) (by omega) (by omega) (by omega)
          refine zz_if_le (tgt := 41) hx hb dX11_legAt_34 (by decide) (by omega) (fun c_34 => ?_) (fun c_34 => ?_)
          · refine zz_iconst hx hb dX11_legAt_41 ?_
            exact J42 0 _ _ _ (by unfold isLg; omega) hP hD hS (lv_sub hl [0, 1, 2, 3] rfl)
          · refine zz_iconst hx hb dX11_legAt_37 ?_
            refine lv_goto (tgt := 42) hx hb dX11_legAt_38 (by decide) ?_
            exact J42 1 _ _ _ (by unfold isLg; omega) hP hD hS (lv_sub hl [0, 1, 2, 3] rfl)
  exact L4 _ 0 (-1) _ _ _ (by omega) (by exact LatK_0) (by omega) (Nat.lt_succ_self _) hP hD hS (lv_sub hl [0, 1, 2, 3] rfl)

set_option maxHeartbeats 4000000 in
set_option maxRecDepth 100000 in
theorem c_X11_lowerPortAt (l : Launch) (D : va_G) (tA : Nat → ClassId) (a0 a1 a2 a3 a4 a5 a6 a7 a8 a9 a10 : Nat) (sz : Nat) (ms : Int → Int) (mbef : Int → Int) (msav : Int → Int) (misv : Int) (mpast : Int → Int) (mpm : Int) (mthr : Int) (mways : Int → Int) (mnds : Int → Int) (mtkp : Int → Int) (mline : Int → Int) (mlm : Int) (mtxt : Int → Int) (mlen : Int) (mat : Int) (mwr : Int) (merr : Int) (mfail : Int) (mcmd : Int → Int) (mcm : Int) (pos : Int) (r_pos : -2147483648 ≤ pos ∧ pos ≤ 2147483647) (hlr : MLr ms) : zMi l yX11_lowerPortAt wsX11_lowerPortAt ({ frames := 3, cells := 0, slots := 0, locals := 73 }) D tA [.ref a0, .int (iI pos)] (bModel tA a0 a1 a2 a3 a4 a5 a6 a7 a8 a9 a10 ms mbef msav misv mpast mpm mthr mways mnds mtkp mline mlm mtxt mlen mat mwr merr mfail mcmd mcm) sz (fun (z : Int) (u : (Int)) => (∃ c, LatK ms pos 100 c ∧ ((u = 1 ∧ c = -1) ∨ (u = 0 ∧ 0 ≤ c ∧ c < 100 ∧ z = c / 10)))) (fun (u : (Int)) => bModel tA a0 a1 a2 a3 a4 a5 a6 a7 a8 a9 a10 ms mbef msav misv mpast mpm u mways mnds mtkp mline mlm mtxt mlen mat mwr merr mfail mcmd mcm) 0 0 := by
  refine zMi_of (cc := cX11_lowerPortAt) (maxL := 3) (by decide) rfl (fun z u h => rfl) (Nat.le_of_ble_eq_true rfl) ?_
  intro p e s m args below meth c A Q ls hx hb hml hts hown hK hP hD hA hret hl
  obtain ⟨H, hHe⟩ : ∃ H : Heap, H = s.heap := ⟨_, rfl⟩
  have hS : va_S A s.heap H [] := by rw [hHe]; exact va_S.rf
  rw [← hHe] at hP ⊢
  have hl : lv_has ls 3 [(0, .ref a0), (1, .int (iI pos))] := hl
  refine lv_aload_n hx hb dX11_lowerPortAt_0 rfl (lv_at hl 0 rfl) ?_
  refine lv_iload_n hx hb dX11_lowerPortAt_1 rfl (lv_at hl 1 rfl) ?_
  refine zz_callVi (As := [.int (iI pos)]) (rest := []) (wf := fun u => bModel tA a0 a1 a2 a3 a4 a5 a6 a7 a8 a9 a10 ms mbef msav misv mpast mpm mthr mways mnds mtkp mline mlm mtxt mlen mat mwr merr mfail mcmd mcm) ⟨hx, hb, hml, hown, hts⟩ (c_X11_legAt l D tA a0 a1 a2 a3 a4 a5 a6 a7 a8 a9 a10 H.size ms mbef msav misv mpast mpm mthr mways mnds mtkp mline mlm mtxt mlen mat mwr merr mfail mcmd mcm pos (by first | assumption | omega) (by first | assumption | omega)) (cwV 1 hts gX11_lowerPortAt_X11_legAt rfl rfl rfl (by decide +kernel) ⟨Nat.le_of_ble_eq_true rfl, Nat.le_of_ble_eq_true rfl⟩) hK hP hD hS hA [0, 1, 2, 3, 4, 5, 6, 7, 8, 9, 10] [] [0, 1, 2, 3, 4, 5, 6, 7, 8, 9, 10] rfl rfl (by decide) (by decide) (by decide) (by decide) (fun _ => rfl) (ci := 13) (q0 := 0) rfl rfl rfl rfl rfl hl.1 (Nat.le_of_ble_eq_true rfl) dX11_lowerPortAt_2 ⟨Nat.le_of_ble_eq_true rfl, Nat.le_of_ble_eq_true rfl⟩ ?_
  intro z2_1 u H locs p2_2 hP hD hS
  have hP : va_P D vwCl (bModel tA a0 a1 a2 a3 a4 a5 a6 a7 a8 a9 a10 ms mbef msav misv mpast mpm mthr mways mnds mtkp mline mlm mtxt mlen mat mwr merr mfail mcmd mcm) H := hP
  have hD : va_D A (bModel tA a0 a1 a2 a3 a4 a5 a6 a7 a8 a9 a10 ms mbef msav misv mpast mpm mthr mways mnds mtkp mline mlm mtxt mlen mat mwr merr mfail mcmd mcm) := hD
  have q_2 : LatK ms pos 100 z2_1 := p2_2.1
  have q2_2 : -1 ≤ z2_1 ∧ z2_1 < 100 := p2_2.2
  refine lv_istore_n (lv' := [(2, .int (iI z2_1)), (0, .ref a0), (1, .int (iI pos))]) hx hb dX11_lowerPortAt_5 rfl hl (by decide) rfl (fun ls hl => ?_)
  refine lv_aload_n hx hb dX11_lowerPortAt_6 rfl (lv_at hl 1 rfl) ?_
  refine lv_iload_n hx hb dX11_lowerPortAt_7 rfl (lv_at hl 0 rfl) ?_
  refine zz_if_lt (tgt := 15) hx hb dX11_lowerPortAt_8 (by decide) (by omega) (fun c_8 => ?_) (fun c_8 => ?_)
  · refine zz_iconst hx hb dX11_lowerPortAt_15 ?_
    refine zz_callVi (As := [.int (iI 0)]) (rest := []) (wf := fun u => bModel tA a0 a1 a2 a3 a4 a5 a6 a7 a8 a9 a10 ms mbef msav misv mpast mpm (1 - 0) mways mnds mtkp mline mlm mtxt mlen mat mwr merr mfail mcmd mcm) ⟨hx, hb, hml, hown, hts⟩ (c_X11_isThere l D tA a0 a1 a2 a3 a4 a5 a6 a7 a8 a9 a10 H.size ms mbef msav misv mpast mpm mthr mways mnds mtkp mline mlm mtxt mlen mat mwr merr mfail mcmd mcm 0 (by first | assumption | omega)) (cwV 1 hts gX11_lowerPortAt_X11_isThere rfl rfl rfl (by decide +kernel) ⟨Nat.le_of_ble_eq_true rfl, Nat.le_of_ble_eq_true rfl⟩) hK hP hD hS hA [0, 1, 2, 3, 4, 5, 6, 7, 8, 9, 10] [] [0, 1, 2, 3, 4, 5, 6, 7, 8, 9, 10] rfl rfl (by decide) (by decide) (by decide) (by decide) (fun _ => rfl) (ci := 13) (q0 := 0) rfl rfl rfl rfl rfl hl.1 (Nat.le_of_ble_eq_true rfl) dX11_lowerPortAt_16 ⟨Nat.le_of_ble_eq_true rfl, Nat.le_of_ble_eq_true rfl⟩ ?_
    intro z16_3 u H locs p16_4 hP hD hS
    have hP : va_P D vwCl (bModel tA a0 a1 a2 a3 a4 a5 a6 a7 a8 a9 a10 ms mbef msav misv mpast mpm (1 - 0) mways mnds mtkp mline mlm mtxt mlen mat mwr merr mfail mcmd mcm) H := hP
    have hD : va_D A (bModel tA a0 a1 a2 a3 a4 a5 a6 a7 a8 a9 a10 ms mbef msav misv mpast mpm (1 - 0) mways mnds mtkp mline mlm mtxt mlen mat mwr merr mfail mcmd mcm) := hD
    have q_16 : z16_3 = 0 := p16_4
    have hzz : z16_3 = 0 ∨ z16_3 = 1 := by omega
    refine zz_if_eq (tgt := 29) hx hb dX11_lowerPortAt_19 (by decide) (by omega) (fun c_19 => ?_) (fun c_19 => ?_)
    · refine zz_iconst hx hb dX11_lowerPortAt_29 ?_
      exact hret 0 (1 - 0) _ _ _ _ dX11_lowerPortAt_30 (show ∃ c, LatK ms pos 100 c ∧ (((1 - 0) = 1 ∧ c = -1) ∨ ((1 - 0) = 0 ∧ 0 ≤ c ∧ c < 100 ∧ (0 : Int) = c / 10)) from by exact ⟨_, q_2, by omega⟩) hP hD hS
    · refine lv_iload_n hx hb dX11_lowerPortAt_22 rfl (lv_at hl 0 rfl) ?_
      refine zz_bipush hx hb dX11_lowerPortAt_23 (by decide) ?_
      refine zz_idiv hx hb dX11_lowerPortAt_25 (by omega) (by omega) ?_
      refine lv_goto (tgt := 30) hx hb dX11_lowerPortAt_26 (by decide) ?_
      exact hret (z2_1 / 10) (1 - 0) _ _ _ _ dX11_lowerPortAt_30 (show ∃ c, LatK ms pos 100 c ∧ (((1 - 0) = 1 ∧ c = -1) ∨ ((1 - 0) = 0 ∧ 0 ≤ c ∧ c < 100 ∧ (z2_1 / 10) = c / 10)) from by exact ⟨_, q_2, by omega⟩) hP hD hS
  · refine zz_iconst hx hb dX11_lowerPortAt_11 ?_
    refine lv_goto (tgt := 16) hx hb dX11_lowerPortAt_12 (by decide) ?_
    refine zz_callVi (As := [.int (iI 1)]) (rest := []) (wf := fun u => bModel tA a0 a1 a2 a3 a4 a5 a6 a7 a8 a9 a10 ms mbef msav misv mpast mpm (1 - 1) mways mnds mtkp mline mlm mtxt mlen mat mwr merr mfail mcmd mcm) ⟨hx, hb, hml, hown, hts⟩ (c_X11_isThere l D tA a0 a1 a2 a3 a4 a5 a6 a7 a8 a9 a10 H.size ms mbef msav misv mpast mpm mthr mways mnds mtkp mline mlm mtxt mlen mat mwr merr mfail mcmd mcm 1 (by first | assumption | omega)) (cwV 1 hts gX11_lowerPortAt_X11_isThere rfl rfl rfl (by decide +kernel) ⟨Nat.le_of_ble_eq_true rfl, Nat.le_of_ble_eq_true rfl⟩) hK hP hD hS hA [0, 1, 2, 3, 4, 5, 6, 7, 8, 9, 10] [] [0, 1, 2, 3, 4, 5, 6, 7, 8, 9, 10] rfl rfl (by decide) (by decide) (by decide) (by decide) (fun _ => rfl) (ci := 13) (q0 := 0) rfl rfl rfl rfl rfl hl.1 (Nat.le_of_ble_eq_true rfl) dX11_lowerPortAt_16 ⟨Nat.le_of_ble_eq_true rfl, Nat.le_of_ble_eq_true rfl⟩ ?_
    intro z16_5 u H locs p16_6 hP hD hS
    have hP : va_P D vwCl (bModel tA a0 a1 a2 a3 a4 a5 a6 a7 a8 a9 a10 ms mbef msav misv mpast mpm (1 - 1) mways mnds mtkp mline mlm mtxt mlen mat mwr merr mfail mcmd mcm) H := hP
    have hD : va_D A (bModel tA a0 a1 a2 a3 a4 a5 a6 a7 a8 a9 a10 ms mbef msav misv mpast mpm (1 - 1) mways mnds mtkp mline mlm mtxt mlen mat mwr merr mfail mcmd mcm) := hD
    have q_16 : z16_5 = 1 := p16_6
    have hzz : z16_5 = 0 ∨ z16_5 = 1 := by omega
    refine zz_if_eq (tgt := 29) hx hb dX11_lowerPortAt_19 (by decide) (by omega) (fun c_19 => ?_) (fun c_19 => ?_)
    · refine zz_iconst hx hb dX11_lowerPortAt_29 ?_
      exact hret 0 (1 - 1) _ _ _ _ dX11_lowerPortAt_30 (show ∃ c, LatK ms pos 100 c ∧ (((1 - 1) = 1 ∧ c = -1) ∨ ((1 - 1) = 0 ∧ 0 ≤ c ∧ c < 100 ∧ (0 : Int) = c / 10)) from by exact ⟨_, q_2, by omega⟩) hP hD hS
    · refine lv_iload_n hx hb dX11_lowerPortAt_22 rfl (lv_at hl 0 rfl) ?_
      refine zz_bipush hx hb dX11_lowerPortAt_23 (by decide) ?_
      refine zz_idiv hx hb dX11_lowerPortAt_25 (by omega) (by omega) ?_
      refine lv_goto (tgt := 30) hx hb dX11_lowerPortAt_26 (by decide) ?_
      exact hret (z2_1 / 10) (1 - 1) _ _ _ _ dX11_lowerPortAt_30 (show ∃ c, LatK ms pos 100 c ∧ (((1 - 1) = 1 ∧ c = -1) ∨ ((1 - 1) = 0 ∧ 0 ≤ c ∧ c < 100 ∧ (z2_1 / 10) = c / 10)) from by exact ⟨_, q_2, by omega⟩) hP hD hS

set_option maxHeartbeats 4000000 in
set_option maxRecDepth 100000 in
theorem c_X11_upperPortAt (l : Launch) (D : va_G) (tA : Nat → ClassId) (a0 a1 a2 a3 a4 a5 a6 a7 a8 a9 a10 : Nat) (sz : Nat) (ms : Int → Int) (mbef : Int → Int) (msav : Int → Int) (misv : Int) (mpast : Int → Int) (mpm : Int) (mthr : Int) (mways : Int → Int) (mnds : Int → Int) (mtkp : Int → Int) (mline : Int → Int) (mlm : Int) (mtxt : Int → Int) (mlen : Int) (mat : Int) (mwr : Int) (merr : Int) (mfail : Int) (mcmd : Int → Int) (mcm : Int) (pos : Int) (r_pos : -2147483648 ≤ pos ∧ pos ≤ 2147483647) (hlr : MLr ms) : zMi l yX11_upperPortAt wsX11_upperPortAt ({ frames := 3, cells := 0, slots := 0, locals := 73 }) D tA [.ref a0, .int (iI pos)] (bModel tA a0 a1 a2 a3 a4 a5 a6 a7 a8 a9 a10 ms mbef msav misv mpast mpm mthr mways mnds mtkp mline mlm mtxt mlen mat mwr merr mfail mcmd mcm) sz (fun (z : Int) (u : (Int)) => (∃ c, LatK ms pos 100 c ∧ ((u = 1 ∧ c = -1) ∨ (u = 0 ∧ 0 ≤ c ∧ c < 100 ∧ z = c % 10)))) (fun (u : (Int)) => bModel tA a0 a1 a2 a3 a4 a5 a6 a7 a8 a9 a10 ms mbef msav misv mpast mpm u mways mnds mtkp mline mlm mtxt mlen mat mwr merr mfail mcmd mcm) 0 0 := by
  refine zMi_of (cc := cX11_upperPortAt) (maxL := 3) (by decide) rfl (fun z u h => rfl) (Nat.le_of_ble_eq_true rfl) ?_
  intro p e s m args below meth c A Q ls hx hb hml hts hown hK hP hD hA hret hl
  obtain ⟨H, hHe⟩ : ∃ H : Heap, H = s.heap := ⟨_, rfl⟩
  have hS : va_S A s.heap H [] := by rw [hHe]; exact va_S.rf
  rw [← hHe] at hP ⊢
  have hl : lv_has ls 3 [(0, .ref a0), (1, .int (iI pos))] := hl
  refine lv_aload_n hx hb dX11_upperPortAt_0 rfl (lv_at hl 0 rfl) ?_
  refine lv_iload_n hx hb dX11_upperPortAt_1 rfl (lv_at hl 1 rfl) ?_
  refine zz_callVi (As := [.int (iI pos)]) (rest := []) (wf := fun u => bModel tA a0 a1 a2 a3 a4 a5 a6 a7 a8 a9 a10 ms mbef msav misv mpast mpm mthr mways mnds mtkp mline mlm mtxt mlen mat mwr merr mfail mcmd mcm) ⟨hx, hb, hml, hown, hts⟩ (c_X11_legAt l D tA a0 a1 a2 a3 a4 a5 a6 a7 a8 a9 a10 H.size ms mbef msav misv mpast mpm mthr mways mnds mtkp mline mlm mtxt mlen mat mwr merr mfail mcmd mcm pos (by first | assumption | omega) (by first | assumption | omega)) (cwV 1 hts gX11_upperPortAt_X11_legAt rfl rfl rfl (by decide +kernel) ⟨Nat.le_of_ble_eq_true rfl, Nat.le_of_ble_eq_true rfl⟩) hK hP hD hS hA [0, 1, 2, 3, 4, 5, 6, 7, 8, 9, 10] [] [0, 1, 2, 3, 4, 5, 6, 7, 8, 9, 10] rfl rfl (by decide) (by decide) (by decide) (by decide) (fun _ => rfl) (ci := 13) (q0 := 0) rfl rfl rfl rfl rfl hl.1 (Nat.le_of_ble_eq_true rfl) dX11_upperPortAt_2 ⟨Nat.le_of_ble_eq_true rfl, Nat.le_of_ble_eq_true rfl⟩ ?_
  intro z2_1 u H locs p2_2 hP hD hS
  have hP : va_P D vwCl (bModel tA a0 a1 a2 a3 a4 a5 a6 a7 a8 a9 a10 ms mbef msav misv mpast mpm mthr mways mnds mtkp mline mlm mtxt mlen mat mwr merr mfail mcmd mcm) H := hP
  have hD : va_D A (bModel tA a0 a1 a2 a3 a4 a5 a6 a7 a8 a9 a10 ms mbef msav misv mpast mpm mthr mways mnds mtkp mline mlm mtxt mlen mat mwr merr mfail mcmd mcm) := hD
  have q_2 : LatK ms pos 100 z2_1 := p2_2.1
  have q2_2 : -1 ≤ z2_1 ∧ z2_1 < 100 := p2_2.2
  refine lv_istore_n (lv' := [(2, .int (iI z2_1)), (0, .ref a0), (1, .int (iI pos))]) hx hb dX11_upperPortAt_5 rfl hl (by decide) rfl (fun ls hl => ?_)
  refine lv_aload_n hx hb dX11_upperPortAt_6 rfl (lv_at hl 1 rfl) ?_
  refine lv_iload_n hx hb dX11_upperPortAt_7 rfl (lv_at hl 0 rfl) ?_
  refine zz_if_lt (tgt := 15) hx hb dX11_upperPortAt_8 (by decide) (by omega) (fun c_8 => ?_) (fun c_8 => ?_)
  · refine zz_iconst hx hb dX11_upperPortAt_15 ?_
    refine zz_callVi (As := [.int (iI 0)]) (rest := []) (wf := fun u => bModel tA a0 a1 a2 a3 a4 a5 a6 a7 a8 a9 a10 ms mbef msav misv mpast mpm (1 - 0) mways mnds mtkp mline mlm mtxt mlen mat mwr merr mfail mcmd mcm) ⟨hx, hb, hml, hown, hts⟩ (c_X11_isThere l D tA a0 a1 a2 a3 a4 a5 a6 a7 a8 a9 a10 H.size ms mbef msav misv mpast mpm mthr mways mnds mtkp mline mlm mtxt mlen mat mwr merr mfail mcmd mcm 0 (by first | assumption | omega)) (cwV 1 hts gX11_upperPortAt_X11_isThere rfl rfl rfl (by decide +kernel) ⟨Nat.le_of_ble_eq_true rfl, Nat.le_of_ble_eq_true rfl⟩) hK hP hD hS hA [0, 1, 2, 3, 4, 5, 6, 7, 8, 9, 10] [] [0, 1, 2, 3, 4, 5, 6, 7, 8, 9, 10] rfl rfl (by decide) (by decide) (by decide) (by decide) (fun _ => rfl) (ci := 13) (q0 := 0) rfl rfl rfl rfl rfl hl.1 (Nat.le_of_ble_eq_true rfl) dX11_upperPortAt_16 ⟨Nat.le_of_ble_eq_true rfl, Nat.le_of_ble_eq_true rfl⟩ ?_
    intro z16_3 u H locs p16_4 hP hD hS
    have hP : va_P D vwCl (bModel tA a0 a1 a2 a3 a4 a5 a6 a7 a8 a9 a10 ms mbef msav misv mpast mpm (1 - 0) mways mnds mtkp mline mlm mtxt mlen mat mwr merr mfail mcmd mcm) H := hP
    have hD : va_D A (bModel tA a0 a1 a2 a3 a4 a5 a6 a7 a8 a9 a10 ms mbef msav misv mpast mpm (1 - 0) mways mnds mtkp mline mlm mtxt mlen mat mwr merr mfail mcmd mcm) := hD
    have q_16 : z16_3 = 0 := p16_4
    have hzz : z16_3 = 0 ∨ z16_3 = 1 := by omega
    refine zz_if_eq (tgt := 29) hx hb dX11_upperPortAt_19 (by decide) (by omega) (fun c_19 => ?_) (fun c_19 => ?_)
    · refine zz_iconst hx hb dX11_upperPortAt_29 ?_
      exact hret 0 (1 - 0) _ _ _ _ dX11_upperPortAt_30 (show ∃ c, LatK ms pos 100 c ∧ (((1 - 0) = 1 ∧ c = -1) ∨ ((1 - 0) = 0 ∧ 0 ≤ c ∧ c < 100 ∧ (0 : Int) = c % 10)) from by exact ⟨_, q_2, by omega⟩) hP hD hS
    · refine lv_iload_n hx hb dX11_upperPortAt_22 rfl (lv_at hl 0 rfl) ?_
      refine zz_bipush hx hb dX11_upperPortAt_23 (by decide) ?_
      refine zz_irem hx hb dX11_upperPortAt_25 (by omega) (by omega) ?_
      refine lv_goto (tgt := 30) hx hb dX11_upperPortAt_26 (by decide) ?_
      exact hret (z2_1 % 10) (1 - 0) _ _ _ _ dX11_upperPortAt_30 (show ∃ c, LatK ms pos 100 c ∧ (((1 - 0) = 1 ∧ c = -1) ∨ ((1 - 0) = 0 ∧ 0 ≤ c ∧ c < 100 ∧ (z2_1 % 10) = c % 10)) from by exact ⟨_, q_2, by omega⟩) hP hD hS
  · refine zz_iconst hx hb dX11_upperPortAt_11 ?_
    refine lv_goto (tgt := 16) hx hb dX11_upperPortAt_12 (by decide) ?_
    refine zz_callVi (As := [.int (iI 1)]) (rest := []) (wf := fun u => bModel tA a0 a1 a2 a3 a4 a5 a6 a7 a8 a9 a10 ms mbef msav misv mpast mpm (1 - 1) mways mnds mtkp mline mlm mtxt mlen mat mwr merr mfail mcmd mcm) ⟨hx, hb, hml, hown, hts⟩ (c_X11_isThere l D tA a0 a1 a2 a3 a4 a5 a6 a7 a8 a9 a10 H.size ms mbef msav misv mpast mpm mthr mways mnds mtkp mline mlm mtxt mlen mat mwr merr mfail mcmd mcm 1 (by first | assumption | omega)) (cwV 1 hts gX11_upperPortAt_X11_isThere rfl rfl rfl (by decide +kernel) ⟨Nat.le_of_ble_eq_true rfl, Nat.le_of_ble_eq_true rfl⟩) hK hP hD hS hA [0, 1, 2, 3, 4, 5, 6, 7, 8, 9, 10] [] [0, 1, 2, 3, 4, 5, 6, 7, 8, 9, 10] rfl rfl (by decide) (by decide) (by decide) (by decide) (fun _ => rfl) (ci := 13) (q0 := 0) rfl rfl rfl rfl rfl hl.1 (Nat.le_of_ble_eq_true rfl) dX11_upperPortAt_16 ⟨Nat.le_of_ble_eq_true rfl, Nat.le_of_ble_eq_true rfl⟩ ?_
    intro z16_5 u H locs p16_6 hP hD hS
    have hP : va_P D vwCl (bModel tA a0 a1 a2 a3 a4 a5 a6 a7 a8 a9 a10 ms mbef msav misv mpast mpm (1 - 1) mways mnds mtkp mline mlm mtxt mlen mat mwr merr mfail mcmd mcm) H := hP
    have hD : va_D A (bModel tA a0 a1 a2 a3 a4 a5 a6 a7 a8 a9 a10 ms mbef msav misv mpast mpm (1 - 1) mways mnds mtkp mline mlm mtxt mlen mat mwr merr mfail mcmd mcm) := hD
    have q_16 : z16_5 = 1 := p16_6
    have hzz : z16_5 = 0 ∨ z16_5 = 1 := by omega
    refine zz_if_eq (tgt := 29) hx hb dX11_upperPortAt_19 (by decide) (by omega) (fun c_19 => ?_) (fun c_19 => ?_)
    · refine zz_iconst hx hb dX11_upperPortAt_29 ?_
      exact hret 0 (1 - 1) _ _ _ _ dX11_upperPortAt_30 (show ∃ c, LatK ms pos 100 c ∧ (((1 - 1) = 1 ∧ c = -1) ∨ ((1 - 1) = 0 ∧ 0 ≤ c ∧ c < 100 ∧ (0 : Int) = c % 10)) from by exact ⟨_, q_2, by omega⟩) hP hD hS
    · refine lv_iload_n hx hb dX11_upperPortAt_22 rfl (lv_at hl 0 rfl) ?_
      refine zz_bipush hx hb dX11_upperPortAt_23 (by decide) ?_
      refine zz_irem hx hb dX11_upperPortAt_25 (by omega) (by omega) ?_
      refine lv_goto (tgt := 30) hx hb dX11_upperPortAt_26 (by decide) ?_
      exact hret (z2_1 % 10) (1 - 1) _ _ _ _ dX11_upperPortAt_30 (show ∃ c, LatK ms pos 100 c ∧ (((1 - 1) = 1 ∧ c = -1) ∨ ((1 - 1) = 0 ∧ 0 ≤ c ∧ c < 100 ∧ (z2_1 % 10) = c % 10)) from by exact ⟨_, q_2, by omega⟩) hP hD hS
