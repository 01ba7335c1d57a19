/-! ===== HarborLightsModel: lines, text ===== -/
theorem say_1 {f : Int → Int} {p v : Int} (h0 : 0 ≤ v) (h : v ≤ 9) : zU f p (48 + v % 10) = wrL f p (dgL v) := by
  have e := wrL_cons f p (48 + v) [] (p + 1) rfl
  rw [wrL_nil] at e
  rw [dgL_1 h0 h, show v % 10 = v by omega]
  exact e
theorem say_s {f : Int → Int} {p v : Int} (h : 10 ≤ v) (h2 : v ≤ 999999999) : zU (wrL f p (dgL (v / 10))) (p + dgN (v / 10)) (48 + v % 10) = wrL f p (dgL v) := by
  rw [dgL_s h h2, wrL_app]
  rfl
set_option maxHeartbeats 4000000 in
set_option maxRecDepth 100000 in
theorem c_X11_errorPosition (l : Launch) (D : va_G) (tA : Nat → ClassId) (a0 a1 a2 a3 a4 a5 a6 a7 a8 a9 a10 : Nat) (sz : Nat) (ms : Int → Int) (mbef : Int → Int) (msav : Int → Int) (misv : Int) (mpast : Int → Int) (mpm : Int) (mthr : Int) (mways : Int → Int) (mnds : Int → Int) (mtkp : Int → Int) (mline : Int → Int) (mlm : Int) (mtxt : Int → Int) (mlen : Int) (mat : Int) (mwr : Int) (merr : Int) (mfail : Int) (mcmd : Int → Int) (mcm : Int) (he : -1 ≤ merr ∧ merr ≤ 60) : zMi l yX11_errorPosition wsX11_errorPosition ({ frames := 1, cells := 0, slots := 0, locals := 21 }) D tA [.ref a0] (bModel tA a0 a1 a2 a3 a4 a5 a6 a7 a8 a9 a10 ms mbef msav misv mpast mpm mthr mways mnds mtkp mline mlm mtxt mlen mat mwr merr mfail mcmd mcm) sz (fun (z : Int) (u : (Int)) => ((u = 1 ∧ merr = -1) ∨ (u = 0 ∧ merr ≠ -1 ∧ z = merr))) (fun (u : (Int)) => bModel tA a0 a1 a2 a3 a4 a5 a6 a7 a8 a9 a10 ms mbef msav misv mpast mpm u mways mnds mtkp mline mlm mtxt mlen mat mwr merr mfail mcmd mcm) 0 0 := by
  refine zMi_of (cc := cX11_errorPosition) (maxL := 1) (by decide) rfl (fun z u h => rfl) (Nat.le_of_ble_eq_true rfl) ?_
  intro p e s m args below meth c A Q ls hx hb hml hts hown hK hP hD hA hret hl
  obtain ⟨H, hHe⟩ : ∃ H : Heap, H = s.heap := ⟨_, rfl⟩
  have hS : va_S A s.heap H [] := by rw [hHe]; exact va_S.rf
  rw [← hHe] at hP ⊢
  have hl : lv_has ls 1 [(0, .ref a0)] := hl
  have iX11 : ∀ v ∈ wsX110, v ∈ wsX11_errorPosition := by decide +kernel
  have f_39 := hts (.fieldLink RX11 39 "HarborLightsModel" "errorAt" "I") (by decide +kernel)
  refine lv_aload_n hx hb dX11_errorPosition_0 rfl (lv_at hl 0 rfl) ?_
  refine lv_aload_n hx hb dX11_errorPosition_1 rfl (lv_at hl 0 rfl) ?_
  refine va_get (D := D) (ci := 13) (v := .int (iI merr)) (C := RX11) (T := TX11) (N := 20) hx hb hts iX11 hown hK hP 0 rfl rfl 16 (by decide) f_39 (fun _ h9 => h9) rfl dX11_errorPosition_2 ?_
  refine zz_if_lt (tgt := 12) hx hb dX11_errorPosition_5 (by decide) (by omega) (fun c_5 => ?_) (fun c_5 => ?_)
  · refine zz_iconst hx hb dX11_errorPosition_12 ?_
    refine zz_callVi (As := [.int (iI 0)]) (rest := []) (wf := fun u => bModel tA a0 a1 a2 a3 a4 a5 a6 a7 a8 a9 a10 ms mbef msav misv mpast mpm (1 - 0) mways mnds mtkp mline mlm mtxt mlen mat mwr merr mfail mcmd mcm) ⟨hx, hb, hml, hown, hts⟩ (c_X11_isThere l D tA a0 a1 a2 a3 a4 a5 a6 a7 a8 a9 a10 H.size ms mbef msav misv mpast mpm mthr mways mnds mtkp mline mlm mtxt mlen mat mwr merr mfail mcmd mcm 0 (by first | assumption | omega)) (cwV 1 hts gX11_errorPosition_X11_isThere rfl rfl rfl (by decide +kernel) ⟨Nat.le_of_ble_eq_true rfl, Nat.le_of_ble_eq_true rfl⟩) hK hP hD hS hA [0, 1, 2, 3, 4, 5, 6, 7, 8, 9, 10] [] [0, 1, 2, 3, 4, 5, 6, 7, 8, 9, 10] rfl rfl (by decide) (by decide) (by decide) (by decide) (fun _ => rfl) (ci := 13) (q0 := 0) rfl rfl rfl rfl rfl hl.1 (Nat.le_of_ble_eq_true rfl) dX11_errorPosition_13 ⟨Nat.le_of_ble_eq_true rfl, Nat.le_of_ble_eq_true rfl⟩ ?_
    intro z13_1 u H locs p13_2 hP hD hS
    have hP : va_P D vwCl (bModel tA a0 a1 a2 a3 a4 a5 a6 a7 a8 a9 a10 ms mbef msav misv mpast mpm (1 - 0) mways mnds mtkp mline mlm mtxt mlen mat mwr merr mfail mcmd mcm) H := hP
    have hD : va_D A (bModel tA a0 a1 a2 a3 a4 a5 a6 a7 a8 a9 a10 ms mbef msav misv mpast mpm (1 - 0) mways mnds mtkp mline mlm mtxt mlen mat mwr merr mfail mcmd mcm) := hD
    have q_13 : z13_1 = 0 := p13_2
    refine zz_if_eq (tgt := 26) hx hb dX11_errorPosition_16 (by decide) (by omega) (fun c_16 => ?_) (fun c_16 => ?_)
    · refine zz_iconst hx hb dX11_errorPosition_26 ?_
      exact hret 0 (1 - 0) _ _ _ _ dX11_errorPosition_27 (show ((1 - 0) = 1 ∧ merr = -1) ∨ ((1 - 0) = 0 ∧ merr ≠ -1 ∧ (0 : Int) = merr) from by omega) hP hD hS
    · refine lv_aload_n hx hb dX11_errorPosition_19 rfl (lv_at hl 0 rfl) ?_
      refine va_get (D := D) (ci := 13) (v := .int (iI merr)) (C := RX11) (T := TX11) (N := 20) hx hb hts iX11 hown hK hP 0 rfl rfl 16 (by decide) f_39 (fun _ h9 => h9) rfl dX11_errorPosition_20 ?_
      refine lv_goto (tgt := 27) hx hb dX11_errorPosition_23 (by decide) ?_
      exact hret merr (1 - 0) _ _ _ _ dX11_errorPosition_27 (show ((1 - 0) = 1 ∧ merr = -1) ∨ ((1 - 0) = 0 ∧ merr ≠ -1 ∧ merr = merr) from by omega) hP hD hS
  · refine zz_iconst hx hb dX11_errorPosition_8 ?_
    refine lv_goto (tgt := 13) hx hb dX11_errorPosition_9 (by decide) ?_
    refine zz_callVi (As := [.int (iI 1)]) (rest := []) (wf := fun u => bModel tA a0 a1 a2 a3 a4 a5 a6 a7 a8 a9 a10 ms mbef msav misv mpast mpm (1 - 1) mways mnds mtkp mline mlm mtxt mlen mat mwr merr mfail mcmd mcm) ⟨hx, hb, hml, hown, hts⟩ (c_X11_isThere l D tA a0 a1 a2 a3 a4 a5 a6 a7 a8 a9 a10 H.size ms mbef msav misv mpast mpm mthr mways mnds mtkp mline mlm mtxt mlen mat mwr merr mfail mcmd mcm 1 (by first | assumption | omega)) (cwV 1 hts gX11_errorPosition_X11_isThere rfl rfl rfl (by decide +kernel) ⟨Nat.le_of_ble_eq_true rfl, Nat.le_of_ble_eq_true rfl⟩) hK hP hD hS hA [0, 1, 2, 3, 4, 5, 6, 7, 8, 9, 10] [] [0, 1, 2, 3, 4, 5, 6, 7, 8, 9, 10] rfl rfl (by decide) (by decide) (by decide) (by decide) (fun _ => rfl) (ci := 13) (q0 := 0) rfl rfl rfl rfl rfl hl.1 (Nat.le_of_ble_eq_true rfl) dX11_errorPosition_13 ⟨Nat.le_of_ble_eq_true rfl, Nat.le_of_ble_eq_true rfl⟩ ?_
    intro z13_3 u H locs p13_4 hP hD hS
    have hP : va_P D vwCl (bModel tA a0 a1 a2 a3 a4 a5 a6 a7 a8 a9 a10 ms mbef msav misv mpast mpm (1 - 1) mways mnds mtkp mline mlm mtxt mlen mat mwr merr mfail mcmd mcm) H := hP
    have hD : va_D A (bModel tA a0 a1 a2 a3 a4 a5 a6 a7 a8 a9 a10 ms mbef msav misv mpast mpm (1 - 1) mways mnds mtkp mline mlm mtxt mlen mat mwr merr mfail mcmd mcm) := hD
    have q_13 : z13_3 = 1 := p13_4
    refine zz_if_eq (tgt := 26) hx hb dX11_errorPosition_16 (by decide) (by omega) (fun c_16 => ?_) (fun c_16 => ?_)
    · refine zz_iconst hx hb dX11_errorPosition_26 ?_
      exact hret 0 (1 - 1) _ _ _ _ dX11_errorPosition_27 (show ((1 - 1) = 1 ∧ merr = -1) ∨ ((1 - 1) = 0 ∧ merr ≠ -1 ∧ (0 : Int) = merr) from by omega) hP hD hS
    · refine lv_aload_n hx hb dX11_errorPosition_19 rfl (lv_at hl 0 rfl) ?_
      refine va_get (D := D) (ci := 13) (v := .int (iI merr)) (C := RX11) (T := TX11) (N := 20) hx hb hts iX11 hown hK hP 0 rfl rfl 16 (by decide) f_39 (fun _ h9 => h9) rfl dX11_errorPosition_20 ?_
      refine lv_goto (tgt := 27) hx hb dX11_errorPosition_23 (by decide) ?_
      exact hret merr (1 - 1) _ _ _ _ dX11_errorPosition_27 (show ((1 - 1) = 1 ∧ merr = -1) ∨ ((1 - 1) = 0 ∧ merr ≠ -1 ∧ merr = merr) from by omega) hP hD hS

set_option maxHeartbeats 4000000 in
set_option maxRecDepth 100000 in
theorem c_X11_failedCommand (l : Launch) (D : va_G) (tA : Nat → ClassId) (a0 a1 a2 a3 a4 a5 a6 a7 a8 a9 a10 : Nat) (sz : Nat) (ms : Int → Int) (mbef : Int → Int) (msav : Int → Int) (misv : Int) (mpast : Int → Int) (mpm : Int) (mthr : Int) (mways : Int → Int) (mnds : Int → Int) (mtkp : Int → Int) (mline : Int → Int) (mlm : Int) (mtxt : Int → Int) (mlen : Int) (mat : Int) (mwr : Int) (merr : Int) (mfail : Int) (mcmd : Int → Int) (mcm : Int) (he : -1 ≤ mfail ∧ mfail ≤ 60) : zMi l yX11_failedCommand wsX11_failedCommand ({ frames := 1, cells := 0, slots := 0, locals := 21 }) D tA [.ref a0] (bModel tA a0 a1 a2 a3 a4 a5 a6 a7 a8 a9 a10 ms mbef msav misv mpast mpm mthr mways mnds mtkp mline mlm mtxt mlen mat mwr merr mfail mcmd mcm) sz (fun (z : Int) (u : (Int)) => ((u = 1 ∧ mfail = -1) ∨ (u = 0 ∧ mfail ≠ -1 ∧ z = mfail))) (fun (u : (Int)) => bModel tA a0 a1 a2 a3 a4 a5 a6 a7 a8 a9 a10 ms mbef msav misv mpast mpm u mways mnds mtkp mline mlm mtxt mlen mat mwr merr mfail mcmd mcm) 0 0 := by
  refine zMi_of (cc := cX11_failedCommand) (maxL := 1) (by decide) rfl (fun z u h => rfl) (Nat.le_of_ble_eq_true rfl) ?_
  intro p e s m args below meth c A Q ls hx hb hml hts hown hK hP hD hA hret hl
  obtain ⟨H, hHe⟩ : ∃ H : Heap, H = s.heap := ⟨_, rfl⟩
  have hS : va_S A s.heap H [] := by rw [hHe]; exact va_S.rf
  rw [← hHe] at hP ⊢
  have hl : lv_has ls 1 [(0, .ref a0)] := hl
  have iX11 : ∀ v ∈ wsX110, v ∈ wsX11_failedCommand := by decide +kernel
  have f_43 := hts (.fieldLink RX11 43 "HarborLightsModel" "failedAt" "I") (by decide +kernel)
  refine lv_aload_n hx hb dX11_failedCommand_0 rfl (lv_at hl 0 rfl) ?_
  refine lv_aload_n hx hb dX11_failedCommand_1 rfl (lv_at hl 0 rfl) ?_
  refine va_get (D := D) (ci := 13) (v := .int (iI mfail)) (C := RX11) (T := TX11) (N := 20) hx hb hts iX11 hown hK hP 0 rfl rfl 17 (by decide) f_43 (fun _ h9 => h9) rfl dX11_failedCommand_2 ?_
  refine zz_if_lt (tgt := 12) hx hb dX11_failedCommand_5 (by decide) (by omega) (fun c_5 => ?_) (fun c_5 => ?_)
  · refine zz_iconst hx hb dX11_failedCommand_12 ?_
    refine zz_callVi (As := [.int (iI 0)]) (rest := []) (wf := fun u => bModel tA a0 a1 a2 a3 a4 a5 a6 a7 a8 a9 a10 ms mbef msav misv mpast mpm (1 - 0) mways mnds mtkp mline mlm mtxt mlen mat mwr merr mfail mcmd mcm) ⟨hx, hb, hml, hown, hts⟩ (c_X11_isThere l D tA a0 a1 a2 a3 a4 a5 a6 a7 a8 a9 a10 H.size ms mbef msav misv mpast mpm mthr mways mnds mtkp mline mlm mtxt mlen mat mwr merr mfail mcmd mcm 0 (by first | assumption | omega)) (cwV 1 hts gX11_failedCommand_X11_isThere rfl rfl rfl (by decide +kernel) ⟨Nat.le_of_ble_eq_true rfl, Nat.le_of_ble_eq_true rfl⟩) hK hP hD hS hA [0, 1, 2, 3, 4, 5, 6, 7, 8, 9, 10] [] [0, 1, 2, 3, 4, 5, 6, 7, 8, 9, 10] rfl rfl (by decide) (by decide) (by decide) (by decide) (fun _ => rfl) (ci := 13) (q0 := 0) rfl rfl rfl rfl rfl hl.1 (Nat.le_of_ble_eq_true rfl) dX11_failedCommand_13 ⟨Nat.le_of_ble_eq_true rfl, Nat.le_of_ble_eq_true rfl⟩ ?_
    intro z13_1 u H locs p13_2 hP hD hS
    have hP : va_P D vwCl (bModel tA a0 a1 a2 a3 a4 a5 a6 a7 a8 a9 a10 ms mbef msav misv mpast mpm (1 - 0) mways mnds mtkp mline mlm mtxt mlen mat mwr merr mfail mcmd mcm) H := hP
    have hD : va_D A (bModel tA a0 a1 a2 a3 a4 a5 a6 a7 a8 a9 a10 ms mbef msav misv mpast mpm (1 - 0) mways mnds mtkp mline mlm mtxt mlen mat mwr merr mfail mcmd mcm) := hD
    have q_13 : z13_1 = 0 := p13_2
    refine zz_if_eq (tgt := 26) hx hb dX11_failedCommand_16 (by decide) (by omega) (fun c_16 => ?_) (fun c_16 => ?_)
    · refine zz_iconst hx hb dX11_failedCommand_26 ?_
      exact hret 0 (1 - 0) _ _ _ _ dX11_failedCommand_27 (show ((1 - 0) = 1 ∧ mfail = -1) ∨ ((1 - 0) = 0 ∧ mfail ≠ -1 ∧ (0 : Int) = mfail) from by omega) hP hD hS
    · refine lv_aload_n hx hb dX11_failedCommand_19 rfl (lv_at hl 0 rfl) ?_
      refine va_get (D := D) (ci := 13) (v := .int (iI mfail)) (C := RX11) (T := TX11) (N := 20) hx hb hts iX11 hown hK hP 0 rfl rfl 17 (by decide) f_43 (fun _ h9 => h9) rfl dX11_failedCommand_20 ?_
      refine lv_goto (tgt := 27) hx hb dX11_failedCommand_23 (by decide) ?_
      exact hret mfail (1 - 0) _ _ _ _ dX11_failedCommand_27 (show ((1 - 0) = 1 ∧ mfail = -1) ∨ ((1 - 0) = 0 ∧ mfail ≠ -1 ∧ mfail = mfail) from by omega) hP hD hS
  · refine zz_iconst hx hb dX11_failedCommand_8 ?_
    refine lv_goto (tgt := 13) hx hb dX11_failedCommand_9 (by decide) ?_
    refine zz_callVi (As := [.int (iI 1)]) (rest := []) (wf := fun u => bModel tA a0 a1 a2 a3 a4 a5 a6 a7 a8 a9 a10 ms mbef msav misv mpast mpm (1 - 1) mways mnds mtkp mline mlm mtxt mlen mat mwr merr mfail mcmd mcm) ⟨hx, hb, hml, hown, hts⟩ (c_X11_isThere l D tA a0 a1 a2 a3 a4 a5 a6 a7 a8 a9 a10 H.size ms mbef msav misv mpast mpm mthr mways mnds mtkp mline mlm mtxt mlen mat mwr merr mfail mcmd mcm 1 (by first | assumption | omega)) (cwV 1 hts gX11_failedCommand_X11_isThere rfl rfl rfl (by decide +kernel) ⟨Nat.le_of_ble_eq_true rfl, Nat.le_of_ble_eq_true rfl⟩) hK hP hD hS hA [0, 1, 2, 3, 4, 5, 6, 7, 8, 9, 10] [] [0, 1, 2, 3, 4, 5, 6, 7, 8, 9, 10] rfl rfl (by decide) (by decide) (by decide) (by decide) (fun _ => rfl) (ci := 13) (q0 := 0) rfl rfl rfl rfl rfl hl.1 (Nat.le_of_ble_eq_true rfl) dX11_failedCommand_13 ⟨Nat.le_of_ble_eq_true rfl, Nat.le_of_ble_eq_true rfl⟩ ?_
    intro z13_3 u H locs p13_4 hP hD hS
    have hP : va_P D vwCl (bModel tA a0 a1 a2 a3 a4 a5 a6 a7 a8 a9 a10 ms mbef msav misv mpast mpm (1 - 1) mways mnds mtkp mline mlm mtxt mlen mat mwr merr mfail mcmd mcm) H := hP
    have hD : va_D A (bModel tA a0 a1 a2 a3 a4 a5 a6 a7 a8 a9 a10 ms mbef msav misv mpast mpm (1 - 1) mways mnds mtkp mline mlm mtxt mlen mat mwr merr mfail mcmd mcm) := hD
    have q_13 : z13_3 = 1 := p13_4
    refine zz_if_eq (tgt := 26) hx hb dX11_failedCommand_16 (by decide) (by omega) (fun c_16 => ?_) (fun c_16 => ?_)
    · refine zz_iconst hx hb dX11_failedCommand_26 ?_
      exact hret 0 (1 - 1) _ _ _ _ dX11_failedCommand_27 (show ((1 - 1) = 1 ∧ mfail = -1) ∨ ((1 - 1) = 0 ∧ mfail ≠ -1 ∧ (0 : Int) = mfail) from by omega) hP hD hS
    · refine lv_aload_n hx hb dX11_failedCommand_19 rfl (lv_at hl 0 rfl) ?_
      refine va_get (D := D) (ci := 13) (v := .int (iI mfail)) (C := RX11) (T := TX11) (N := 20) hx hb hts iX11 hown hK hP 0 rfl rfl 17 (by decide) f_43 (fun _ h9 => h9) rfl dX11_failedCommand_20 ?_
      refine lv_goto (tgt := 27) hx hb dX11_failedCommand_23 (by decide) ?_
      exact hret mfail (1 - 1) _ _ _ _ dX11_failedCommand_27 (show ((1 - 1) = 1 ∧ mfail = -1) ∨ ((1 - 1) = 0 ∧ mfail ≠ -1 ∧ mfail = mfail) from by omega) hP hD hS

set_option maxHeartbeats 4000000 in
set_option maxRecDepth 100000 in
theorem c_X11_says (l : Launch) (D : va_G) (tA : Nat → ClassId) (a0 a1 a2 a3 a4 a5 a6 a7 a8 a9 a10 : Nat) (sz : Nat) (ms : Int → Int) (mbef : Int → Int) (msav : Int → Int) (misv : Int) (mpast : Int → Int) (mpm : Int) (mthr : Int) (mways : Int → Int) (mnds : Int → Int) (mtkp : Int → Int) (mline : Int → Int) (mlm : Int) (mtxt : Int → Int) (mlen : Int) (mat : Int) (mwr : Int) (merr : Int) (mfail : Int) (mcmd : Int → Int) (mcm : Int) (ch : Int) (r_ch : -2147483648 ≤ ch ∧ ch ≤ 2147483647) (hlm : 0 ≤ mlm ∧ mlm < 40) (hch : 0 ≤ ch ∧ ch ≤ 65535) : zMv l yX11_says wsX11_says ({ frames := 0, cells := 0, slots := 0, locals := 0 }) D tA [.ref a0, .int (iI ch)] (bModel tA a0 a1 a2 a3 a4 a5 a6 a7 a8 a9 a10 ms mbef msav misv mpast mpm mthr mways mnds mtkp mline mlm mtxt mlen mat mwr merr mfail mcmd mcm) sz (fun (u : Unit) => True) (fun (u : Unit) => bModel tA a0 a1 a2 a3 a4 a5 a6 a7 a8 a9 a10 ms mbef msav misv mpast mpm mthr mways mnds mtkp (zU mline mlm ch) (mlm + 1) mtxt mlen mat mwr merr mfail mcmd mcm) 0 0 := by
  refine zMv_of (cc := cX11_says) (maxL := 2) (by decide) rfl (Nat.le_of_ble_eq_true rfl) ?_
  intro p e s m args below meth c A Q ls hx hb hml hts hown hK hP hD hA hret hl
  obtain ⟨H, hHe⟩ : ∃ H : Heap, H = s.heap := ⟨_, rfl⟩
  have hS : va_S A s.heap H [] := by rw [hHe]; exact va_S.rf
  rw [← hHe] at hP ⊢
  have hl : lv_has ls 2 [(0, .ref a0), (1, .int (iI ch))] := hl
  have iX11 : ∀ v ∈ wsX110, v ∈ wsX11_says := by decide +kernel
  have f_32 := hts (.fieldLink RX11 32 "HarborLightsModel" "line" "[C") (by decide +kernel)
  have f_194 := hts (.fieldLink RX11 194 "HarborLightsModel" "lineMany" "I") (by decide +kernel)
  refine lv_aload_n hx hb dX11_says_0 rfl (lv_at hl 0 rfl) ?_
  refine va_get (D := D) (ci := 13) (v := .ref a8) (C := RX11) (T := TX11) (N := 20) hx hb hts iX11 hown hK hP 0 rfl rfl 10 (by decide) f_32 (fun _ h9 => h9) rfl dX11_says_1 ?_
  refine lv_aload_n hx hb dX11_says_4 rfl (lv_at hl 0 rfl) ?_
  refine va_get (D := D) (ci := 13) (v := .int (iI mlm)) (C := RX11) (T := TX11) (N := 20) hx hb hts iX11 hown hK hP 0 rfl rfl 11 (by decide) f_194 (fun _ h9 => h9) rfl dX11_says_5 ?_
  refine lv_iload_n hx hb dX11_says_8 rfl (lv_at hl 1 rfl) ?_
  refine zz_cast hx hb hK hP hD hS 8 rfl (by decide) (by omega) (by omega) dX11_says_9 (fun H locs hP hD hS => ?_)
  have hP : va_P D vwCl (bModel tA a0 a1 a2 a3 a4 a5 a6 a7 a8 a9 a10 ms mbef msav misv mpast mpm mthr mways mnds mtkp (zU mline mlm ch) mlm mtxt mlen mat mwr merr mfail mcmd mcm) H := hP
  have hD : va_D A (bModel tA a0 a1 a2 a3 a4 a5 a6 a7 a8 a9 a10 ms mbef msav misv mpast mpm mthr mways mnds mtkp (zU mline mlm ch) mlm mtxt mlen mat mwr merr mfail mcmd mcm) := hD
  refine lv_aload_n hx hb dX11_says_10 rfl (lv_at hl 0 rfl) ?_
  refine lv_dup hx hb dX11_says_11 rfl ?_
  refine va_get (D := D) (ci := 13) (v := .int (iI mlm)) (C := RX11) (T := TX11) (N := 20) hx hb hts iX11 hown hK hP 0 rfl rfl 11 (by decide) f_194 (fun _ h9 => h9) rfl dX11_says_12 ?_
  refine zz_iconst hx hb dX11_says_15 ?_
  refine zz_iadd hx hb dX11_says_16 ?_
  refine va_put (D := D) (ci := 13) (v := .int (iI (mlm + 1))) (ty := .int) (C := RX11) (T := TX11) (N := 20) hx hb hts iX11 tyX11 tyX11_ok nmX11 hown hK hP hD hS 0 rfl rfl 11 (by decide) f_194 (fun _ h9 => h9) rfl (by decide +kernel) rfl rfl (Nat.le_of_ble_eq_true rfl) dX11_says_17 (fun H locs hP hD hS => ?_)
  have hP : va_P D vwCl (bModel tA a0 a1 a2 a3 a4 a5 a6 a7 a8 a9 a10 ms mbef msav misv mpast mpm mthr mways mnds mtkp (zU mline mlm ch) (mlm + 1) mtxt mlen mat mwr merr mfail mcmd mcm) H := hP
  have hD : va_D A (bModel tA a0 a1 a2 a3 a4 a5 a6 a7 a8 a9 a10 ms mbef msav misv mpast mpm mthr mways mnds mtkp (zU mline mlm ch) (mlm + 1) mtxt mlen mat mwr merr mfail mcmd mcm) := hD
  exact hret () _ _ _ _ dX11_says_20 True.intro hP hD hS

set_option maxHeartbeats 4000000 in
set_option maxRecDepth 100000 in
theorem c_X11_lineAt (l : Launch) (D : va_G) (tA : Nat → ClassId) (a0 a1 a2 a3 a4 a5 a6 a7 a8 a9 a10 : Nat) (sz : Nat) (ms : Int → Int) (mbef : Int → Int) (msav : Int → Int) (misv : Int) (mpast : Int → Int) (mpm : Int) (mthr : Int) (mways : Int → Int) (mnds : Int → Int) (mtkp : Int → Int) (mline : Int → Int) (mlm : Int) (mtxt : Int → Int) (mlen : Int) (mat : Int) (mwr : Int) (merr : Int) (mfail : Int) (mcmd : Int → Int) (mcm : Int) (i : Int) (r_i : -2147483648 ≤ i ∧ i ≤ 2147483647) (hlm : 0 ≤ mlm ∧ mlm ≤ 40) (hlr : ∀ j, 0 ≤ j → j < mlm → 0 ≤ mline j ∧ mline j ≤ 127) : zMi l yX11_lineAt wsX11_lineAt ({ frames := 1, cells := 0, slots := 0, locals := 22 }) D tA [.ref a0, .int (iI i)] (bModel tA a0 a1 a2 a3 a4 a5 a6 a7 a8 a9 a10 ms mbef msav misv mpast mpm mthr mways mnds mtkp mline mlm mtxt mlen mat mwr merr mfail mcmd mcm) sz (fun (z : Int) (u : (Int)) => ((u = 1 ∧ ¬ (0 ≤ i ∧ i < mlm)) ∨ (u = 0 ∧ (0 ≤ i ∧ i < mlm) ∧ z = mline i)) ∧ (0 ≤ z ∧ z ≤ 127)) (fun (u : (Int)) => bModel tA a0 a1 a2 a3 a4 a5 a6 a7 a8 a9 a10 ms mbef msav misv mpast mpm u mways mnds mtkp mline mlm mtxt mlen mat mwr merr mfail mcmd mcm) 0 0 := by
  refine zMi_of (cc := cX11_lineAt) (maxL := 2) (by decide) rfl (fun z u h => (zcharv z (by omega)).1) (Nat.le_of_ble_eq_true rfl) ?_
  intro p e s m args below meth c A Q ls hx hb hml hts hown hK hP hD hA hret hl
  obtain ⟨H, hHe⟩ : ∃ H : Heap, H = s.heap := ⟨_, rfl⟩
  have hS : va_S A s.heap H [] := by rw [hHe]; exact va_S.rf
  rw [← hHe] at hP ⊢
  have hl : lv_has ls 2 [(0, .ref a0), (1, .int (iI i))] := hl
  have iX11 : ∀ v ∈ wsX110, v ∈ wsX11_lineAt := by decide +kernel
  have f_32 := hts (.fieldLink RX11 32 "HarborLightsModel" "line" "[C") (by decide +kernel)
  have f_194 := hts (.fieldLink RX11 194 "HarborLightsModel" "lineMany" "I") (by decide +kernel)
  refine lv_aload_n hx hb dX11_lineAt_0 rfl (lv_at hl 0 rfl) ?_
  refine lv_iload_n hx hb dX11_lineAt_1 rfl (lv_at hl 1 rfl) ?_
  refine zz_iconst hx hb dX11_lineAt_2 ?_
  refine lv_aload_n hx hb dX11_lineAt_3 rfl (lv_at hl 0 rfl) ?_
  refine va_get (D := D) (ci := 13) (v := .int (iI mlm)) (C := RX11) (T := TX11) (N := 20) hx hb hts iX11 hown hK hP 0 rfl rfl 11 (by decide) f_194 (fun _ h9 => h9) rfl dX11_lineAt_4 ?_
  refine zz_iconst hx hb dX11_lineAt_7 ?_
  refine zz_isub hx hb dX11_lineAt_8 ?_
  refine zz_callSi (As := [.int (iI i), .int (iI 0), .int (iI (mlm - 1))]) (rest := [.ref a0]) (wf := fun u => bModel tA a0 a1 a2 a3 a4 a5 a6 a7 a8 a9 a10 ms mbef msav misv mpast mpm mthr mways mnds mtkp mline mlm mtxt mlen mat mwr merr mfail mcmd mcm) ⟨hx, hb, hml, hown, hts⟩ (c_X11_in l D tA  H.size i 0 (mlm - 1) (by first | assumption | omega) (by first | assumption | omega) (by first | assumption | omega)) (va_cwS 3 hts gX11_lineAt_X11_in rfl rfl rfl (by decide +kernel) ⟨Nat.le_of_ble_eq_true rfl, Nat.le_of_ble_eq_true rfl⟩) hK hP hD hS hA [] [0, 1, 2, 3, 4, 5, 6, 7, 8, 9, 10] [0, 1, 2, 3, 4, 5, 6, 7, 8, 9, 10] rfl rfl (by decide) (by decide) (by decide) (by decide) (fun _ => rfl) rfl rfl hl.1 (Nat.le_of_ble_eq_true rfl) dX11_lineAt_9 ⟨Nat.le_of_ble_eq_true rfl, Nat.le_of_ble_eq_true rfl⟩ ?_
  intro z9_1 u H locs p9_2 hP hD hS
  have hP : va_P D vwCl (bModel tA a0 a1 a2 a3 a4 a5 a6 a7 a8 a9 a10 ms mbef msav misv mpast mpm mthr mways mnds mtkp mline mlm mtxt mlen mat mwr merr mfail mcmd mcm) H := hP
  have hD : va_D A (bModel tA a0 a1 a2 a3 a4 a5 a6 a7 a8 a9 a10 ms mbef msav misv mpast mpm mthr mways mnds mtkp mline mlm mtxt mlen mat mwr merr mfail mcmd mcm) := hD
  have q_9 : (z9_1 = 1 ∧ 0 ≤ i ∧ i ≤ (mlm - 1)) ∨ (z9_1 = 0 ∧ ¬ (0 ≤ i ∧ i ≤ (mlm - 1))) := p9_2
  refine zz_callVi (As := [.int (iI z9_1)]) (rest := []) (wf := fun u => bModel tA a0 a1 a2 a3 a4 a5 a6 a7 a8 a9 a10 ms mbef msav misv mpast mpm (1 - z9_1) mways mnds mtkp mline mlm mtxt mlen mat mwr merr mfail mcmd mcm) ⟨hx, hb, hml, hown, hts⟩ (c_X11_isThere l D tA a0 a1 a2 a3 a4 a5 a6 a7 a8 a9 a10 H.size ms mbef msav misv mpast mpm mthr mways mnds mtkp mline mlm mtxt mlen mat mwr merr mfail mcmd mcm z9_1 (by first | assumption | omega)) (cwV 1 hts gX11_lineAt_X11_isThere rfl rfl rfl (by decide +kernel) ⟨Nat.le_of_ble_eq_true rfl, Nat.le_of_ble_eq_true rfl⟩) hK hP hD hS hA [0, 1, 2, 3, 4, 5, 6, 7, 8, 9, 10] [] [0, 1, 2, 3, 4, 5, 6, 7, 8, 9, 10] rfl rfl (by decide) (by decide) (by decide) (by decide) (fun _ => rfl) (ci := 13) (q0 := 0) rfl rfl rfl rfl rfl hl.1 (Nat.le_of_ble_eq_true rfl) dX11_lineAt_12 ⟨Nat.le_of_ble_eq_true rfl, Nat.le_of_ble_eq_true rfl⟩ ?_
  intro z12_3 u H locs p12_4 hP hD hS
  have hP : va_P D vwCl (bModel tA a0 a1 a2 a3 a4 a5 a6 a7 a8 a9 a10 ms mbef msav misv mpast mpm (1 - z9_1) mways mnds mtkp mline mlm mtxt mlen mat mwr merr mfail mcmd mcm) H := hP
  have hD : va_D A (bModel tA a0 a1 a2 a3 a4 a5 a6 a7 a8 a9 a10 ms mbef msav misv mpast mpm (1 - z9_1) mways mnds mtkp mline mlm mtxt mlen mat mwr merr mfail mcmd mcm) := hD
  have q_12 : z12_3 = z9_1 := p12_4
  refine zz_if_eq (tgt := 27) hx hb dX11_lineAt_15 (by decide) (by omega) (fun c_15 => ?_) (fun c_15 => ?_)
  · refine zz_bipush hx hb dX11_lineAt_27 (by decide) ?_
    exact hret 32 (1 - z9_1) _ _ _ _ dX11_lineAt_29 ⟨(show ((1 - z9_1) = 1 ∧ ¬ (0 ≤ i ∧ i < mlm)) ∨ ((1 - z9_1) = 0 ∧ (0 ≤ i ∧ i < mlm) ∧ (32 : Int) = mline i) from by omega), (show 0 ≤ (32 : Int) ∧ (32 : Int) ≤ 127 from by omega)⟩ hP hD hS
  · refine lv_aload_n hx hb dX11_lineAt_18 rfl (lv_at hl 0 rfl) ?_
    refine va_get (D := D) (ci := 13) (v := .ref a8) (C := RX11) (T := TX11) (N := 20) hx hb hts iX11 hown hK hP 0 rfl rfl 10 (by decide) f_32 (fun _ h9 => h9) rfl dX11_lineAt_19 ?_
    refine lv_iload_n hx hb dX11_lineAt_22 rfl (lv_at hl 1 rfl) ?_
    refine zz_cald hx hb hK hP 8 rfl (by decide) (by omega) dX11_lineAt_23 ?_
    have r_23 := hlr i (by omega) (by omega)
    refine lv_goto (tgt := 29) hx hb dX11_lineAt_24 (by decide) ?_
    exact hret (mline i) (1 - z9_1) _ _ _ _ dX11_lineAt_29 ⟨(show ((1 - z9_1) = 1 ∧ ¬ (0 ≤ i ∧ i < mlm)) ∨ ((1 - z9_1) = 0 ∧ (0 ≤ i ∧ i < mlm) ∧ (mline i) = mline i) from by omega), (show 0 ≤ (mline i) ∧ (mline i) ≤ 127 from by omega)⟩ hP hD hS

set_option maxHeartbeats 4000000 in
set_option maxRecDepth 100000 in
theorem c_X11_type (l : Launch) (D : va_G) (tA : Nat → ClassId) (a0 a1 a2 a3 a4 a5 a6 a7 a8 a9 a10 : Nat) (sz : Nat) (ms : Int → Int) (mbef : Int → Int) (msav : Int → Int) (misv : Int) (mpast : Int → Int) (mpm : Int) (mthr : Int) (mways : Int → Int) (mnds : Int → Int) (mtkp : Int → Int) (mline : Int → Int) (mlm : Int) (mtxt : Int → Int) (mlen : Int) (mat : Int) (mwr : Int) (merr : Int) (mfail : Int) (mcmd : Int → Int) (mcm : Int) (ch : Int) (r_ch : -2147483648 ≤ ch ∧ ch ≤ 2147483647) (hln : 0 ≤ mlen ∧ mlen ≤ 60) (hch : 0 ≤ ch ∧ ch ≤ 65535) : zMi l yX11_type wsX11_type ({ frames := 1, cells := 0, slots := 0, locals := 22 }) D tA [.ref a0, .int (iI ch)] (bModel tA a0 a1 a2 a3 a4 a5 a6 a7 a8 a9 a10 ms mbef msav misv mpast mpm mthr mways mnds mtkp mline mlm mtxt mlen mat mwr merr mfail mcmd mcm) sz (fun (z : Int) (u : (Int) × (Int → Int) × (Int)) => ((u.1 = 1 ∧ ¬ (32 ≤ ch ∧ ch ≤ 126) ∧ u.2.1 = mtxt ∧ u.2.2 = mlen) ∨ (u.1 = 2 ∧ (32 ≤ ch ∧ ch ≤ 126) ∧ mlen = 60 ∧ u.2.1 = mtxt ∧ u.2.2 = mlen) ∨ (u.1 = 0 ∧ (32 ≤ ch ∧ ch ≤ 126) ∧ mlen < 60 ∧ u.2.1 = zU mtxt mlen ch ∧ u.2.2 = mlen + 1 ∧ z = mlen + 1))) (fun (u : (Int) × (Int → Int) × (Int)) => bModel tA a0 a1 a2 a3 a4 a5 a6 a7 a8 a9 a10 ms mbef msav misv mpast mpm u.1 mways mnds mtkp mline mlm u.2.1 u.2.2 mat mwr merr mfail mcmd mcm) 0 0 := by
  refine zMi_of (cc := cX11_type) (maxL := 2) (by decide) rfl (fun z u h => rfl) (Nat.le_of_ble_eq_true rfl) ?_
  intro p e s m args below meth c A Q ls hx hb hml hts hown hK hP hD hA hret hl
  obtain ⟨H, hHe⟩ : ∃ H : Heap, H = s.heap := ⟨_, rfl⟩
  have hS : va_S A s.heap H [] := by rw [hHe]; exact va_S.rf
  rw [← hHe] at hP ⊢
  have hl : lv_has ls 2 [(0, .ref a0), (1, .int (iI ch))] := hl
  have iX11 : ∀ v ∈ wsX110, v ∈ wsX11_type := by decide +kernel
  have f_36 := hts (.fieldLink RX11 36 "HarborLightsModel" "text" "[C") (by decide +kernel)
  have f_49 := hts (.fieldLink RX11 49 "HarborLightsModel" "thrown" "I") (by decide +kernel)
  have f_205 := hts (.fieldLink RX11 205 "HarborLightsModel" "length" "I") (by decide +kernel)
  refine lv_aload_n hx hb dX11_type_0 rfl (lv_at hl 0 rfl) ?_
  refine lv_iload_n hx hb dX11_type_1 rfl (lv_at hl 1 rfl) ?_
  refine zz_bipush hx hb dX11_type_2 (by decide) ?_
  refine zz_bipush hx hb dX11_type_4 (by decide) ?_
  refine zz_callSi (As := [.int (iI ch), .int (iI 32), .int (iI 126)]) (rest := [.ref a0]) (wf := fun u => bModel tA a0 a1 a2 a3 a4 a5 a6 a7 a8 a9 a10 ms mbef msav misv mpast mpm mthr mways mnds mtkp mline mlm mtxt mlen mat mwr merr mfail mcmd mcm) ⟨hx, hb, hml, hown, hts⟩ (c_X11_in l D tA  H.size ch 32 126 (by first | assumption | omega) (by first | assumption | omega) (by first | assumption | omega)) (va_cwS 3 hts gX11_type_X11_in rfl rfl rfl (by decide +kernel) ⟨Nat.le_of_ble_eq_true rfl, Nat.le_of_ble_eq_true rfl⟩) hK hP hD hS hA [] [0, 1, 2, 3, 4, 5, 6, 7, 8, 9, 10] [0, 1, 2, 3, 4, 5, 6, 7, 8, 9, 10] rfl rfl (by decide) (by decide) (by decide) (by decide) (fun _ => rfl) rfl rfl hl.1 (Nat.le_of_ble_eq_true rfl) dX11_type_6 ⟨Nat.le_of_ble_eq_true rfl, Nat.le_of_ble_eq_true rfl⟩ ?_
  intro z6_1 u H locs p6_2 hP hD hS
  have hP : va_P D vwCl (bModel tA a0 a1 a2 a3 a4 a5 a6 a7 a8 a9 a10 ms mbef msav misv mpast mpm mthr mways mnds mtkp mline mlm mtxt mlen mat mwr merr mfail mcmd mcm) H := hP
  have hD : va_D A (bModel tA a0 a1 a2 a3 a4 a5 a6 a7 a8 a9 a10 ms mbef msav misv mpast mpm mthr mways mnds mtkp mline mlm mtxt mlen mat mwr merr mfail mcmd mcm) := hD
  have q_6 : (z6_1 = 1 ∧ 32 ≤ ch ∧ ch ≤ 126) ∨ (z6_1 = 0 ∧ ¬ (32 ≤ ch ∧ ch ≤ 126)) := p6_2
  refine zz_if_ne (tgt := 16) hx hb dX11_type_9 (by decide) (by omega) (fun c_9 => ?_) (fun c_9 => ?_)
  · refine lv_aload_n hx hb dX11_type_16 rfl (lv_at hl 0 rfl) ?_
    refine va_get (D := D) (ci := 13) (v := .int (iI mlen)) (C := RX11) (T := TX11) (N := 20) hx hb hts iX11 hown hK hP 0 rfl rfl 13 (by decide) f_205 (fun _ h9 => h9) rfl dX11_type_17 ?_
    refine zz_bipush hx hb dX11_type_20 (by decide) ?_
    refine zz_icmp_ne (tgt := 29) hx hb dX11_type_22 (by decide) (by omega) (by decide) (fun c_22 => ?_) (fun c_22 => ?_)
    · refine zz_iconst hx hb dX11_type_29 ?_
      refine va_put (D := D) (ci := 13) (v := .int (iI 0)) (ty := .int) (C := RX11) (T := TX11) (N := 20) hx hb hts iX11 tyX11 tyX11_ok nmX11 hown hK hP hD hS 0 rfl rfl 6 (by decide) f_49 (fun _ h9 => h9) rfl (by decide +kernel) rfl rfl (Nat.le_of_ble_eq_true rfl) dX11_type_30 (fun H locs hP hD hS => ?_)
      have hP : va_P D vwCl (bModel tA a0 a1 a2 a3 a4 a5 a6 a7 a8 a9 a10 ms mbef msav misv mpast mpm 0 mways mnds mtkp mline mlm mtxt mlen mat mwr merr mfail mcmd mcm) H := hP
      have hD : va_D A (bModel tA a0 a1 a2 a3 a4 a5 a6 a7 a8 a9 a10 ms mbef msav misv mpast mpm 0 mways mnds mtkp mline mlm mtxt mlen mat mwr merr mfail mcmd mcm) := hD
      refine lv_aload_n hx hb dX11_type_33 rfl (lv_at hl 0 rfl) ?_
      refine va_get (D := D) (ci := 13) (v := .int (iI 0)) (C := RX11) (T := TX11) (N := 20) hx hb hts iX11 hown hK hP 0 rfl rfl 6 (by decide) f_49 (fun _ h9 => h9) rfl dX11_type_34 ?_
      refine zz_if_le (tgt := 42) hx hb dX11_type_37 (by decide) (by decide) (fun c_37 => ?_) (fun c_37 => ?_)
      · refine lv_aload_n hx hb dX11_type_42 rfl (lv_at hl 0 rfl) ?_
        refine va_get (D := D) (ci := 13) (v := .ref a9) (C := RX11) (T := TX11) (N := 20) hx hb hts iX11 hown hK hP 0 rfl rfl 12 (by decide) f_36 (fun _ h9 => h9) rfl dX11_type_43 ?_
        refine lv_aload_n hx hb dX11_type_46 rfl (lv_at hl 0 rfl) ?_
        refine va_get (D := D) (ci := 13) (v := .int (iI mlen)) (C := RX11) (T := TX11) (N := 20) hx hb hts iX11 hown hK hP 0 rfl rfl 13 (by decide) f_205 (fun _ h9 => h9) rfl dX11_type_47 ?_
        refine lv_iload_n hx hb dX11_type_50 rfl (lv_at hl 1 rfl) ?_
        refine zz_cast hx hb hK hP hD hS 9 rfl (by decide) (by omega) (by omega) dX11_type_51 (fun H locs hP hD hS => ?_)
        have hP : va_P D vwCl (bModel tA a0 a1 a2 a3 a4 a5 a6 a7 a8 a9 a10 ms mbef msav misv mpast mpm 0 mways mnds mtkp mline mlm (zU mtxt mlen ch) mlen mat mwr merr mfail mcmd mcm) H := hP
        have hD : va_D A (bModel tA a0 a1 a2 a3 a4 a5 a6 a7 a8 a9 a10 ms mbef msav misv mpast mpm 0 mways mnds mtkp mline mlm (zU mtxt mlen ch) mlen mat mwr merr mfail mcmd mcm) := hD
        refine lv_aload_n hx hb dX11_type_52 rfl (lv_at hl 0 rfl) ?_
        refine lv_dup hx hb dX11_type_53 rfl ?_
        refine va_get (D := D) (ci := 13) (v := .int (iI mlen)) (C := RX11) (T := TX11) (N := 20) hx hb hts iX11 hown hK hP 0 rfl rfl 13 (by decide) f_205 (fun _ h9 => h9) rfl dX11_type_54 ?_
        refine zz_iconst hx hb dX11_type_57 ?_
        refine zz_iadd hx hb dX11_type_58 ?_
        refine va_put (D := D) (ci := 13) (v := .int (iI (mlen + 1))) (ty := .int) (C := RX11) (T := TX11) (N := 20) hx hb hts iX11 tyX11 tyX11_ok nmX11 hown hK hP hD hS 0 rfl rfl 13 (by decide) f_205 (fun _ h9 => h9) rfl (by decide +kernel) rfl rfl (Nat.le_of_ble_eq_true rfl) dX11_type_59 (fun H locs hP hD hS => ?_)
        have hP : va_P D vwCl (bModel tA a0 a1 a2 a3 a4 a5 a6 a7 a8 a9 a10 ms mbef msav misv mpast mpm 0 mways mnds mtkp mline mlm (zU mtxt mlen ch) (mlen + 1) mat mwr merr mfail mcmd mcm) H := hP
        have hD : va_D A (bModel tA a0 a1 a2 a3 a4 a5 a6 a7 a8 a9 a10 ms mbef msav misv mpast mpm 0 mways mnds mtkp mline mlm (zU mtxt mlen ch) (mlen + 1) mat mwr merr mfail mcmd mcm) := hD
        refine lv_aload_n hx hb dX11_type_62 rfl (lv_at hl 0 rfl) ?_
        refine va_get (D := D) (ci := 13) (v := .int (iI (mlen + 1))) (C := RX11) (T := TX11) (N := 20) hx hb hts iX11 hown hK hP 0 rfl rfl 13 (by decide) f_205 (fun _ h9 => h9) rfl dX11_type_63 ?_
        exact hret (mlen + 1) (0, (zU mtxt mlen ch), (mlen + 1)) _ _ _ _ dX11_type_66 (show (0 = 1 ∧ ¬ (32 ≤ ch ∧ ch ≤ 126) ∧ (zU mtxt mlen ch) = mtxt ∧ (mlen + 1) = mlen) ∨ (0 = 2 ∧ (32 ≤ ch ∧ ch ≤ 126) ∧ mlen = 60 ∧ (zU mtxt mlen ch) = mtxt ∧ (mlen + 1) = mlen) ∨ (0 = 0 ∧ (32 ≤ ch ∧ ch ≤ 126) ∧ mlen < 60 ∧ (zU mtxt mlen ch) = zU mtxt mlen ch ∧ (mlen + 1) = mlen + 1 ∧ (mlen + 1) = mlen + 1) from by first | (exfalso; omega) | exact Or.inl ⟨by omega, by omega, rfl, rfl⟩ | exact Or.inr (Or.inl ⟨by omega, by omega, by omega, rfl, rfl⟩) | exact Or.inr (Or.inr ⟨by omega, by omega, by omega, rfl, rfl, by omega⟩)) hP hD hS
      · exact absurd c_37 (by decide)
    · refine zz_iconst hx hb dX11_type_25 ?_
      refine lv_goto (tgt := 30) hx hb dX11_type_26 (by decide) ?_
      refine va_put (D := D) (ci := 13) (v := .int (iI 2)) (ty := .int) (C := RX11) (T := TX11) (N := 20) hx hb hts iX11 tyX11 tyX11_ok nmX11 hown hK hP hD hS 0 rfl rfl 6 (by decide) f_49 (fun _ h9 => h9) rfl (by decide +kernel) rfl rfl (Nat.le_of_ble_eq_true rfl) dX11_type_30 (fun H locs hP hD hS => ?_)
      have hP : va_P D vwCl (bModel tA a0 a1 a2 a3 a4 a5 a6 a7 a8 a9 a10 ms mbef msav misv mpast mpm 2 mways mnds mtkp mline mlm mtxt mlen mat mwr merr mfail mcmd mcm) H := hP
      have hD : va_D A (bModel tA a0 a1 a2 a3 a4 a5 a6 a7 a8 a9 a10 ms mbef msav misv mpast mpm 2 mways mnds mtkp mline mlm mtxt mlen mat mwr merr mfail mcmd mcm) := hD
      refine lv_aload_n hx hb dX11_type_33 rfl (lv_at hl 0 rfl) ?_
      refine va_get (D := D) (ci := 13) (v := .int (iI 2)) (C := RX11) (T := TX11) (N := 20) hx hb hts iX11 hown hK hP 0 rfl rfl 6 (by decide) f_49 (fun _ h9 => h9) rfl dX11_type_34 ?_
      refine zz_if_le (tgt := 42) hx hb dX11_type_37 (by decide) (by decide) (fun c_37 => ?_) (fun c_37 => ?_)
      · exact absurd c_37 (by decide)
      · refine zz_iconst hx hb dX11_type_40 ?_
        exact hret 0 (2, mtxt, mlen) _ _ _ _ dX11_type_41 (show (2 = 1 ∧ ¬ (32 ≤ ch ∧ ch ≤ 126) ∧ mtxt = mtxt ∧ mlen = mlen) ∨ (2 = 2 ∧ (32 ≤ ch ∧ ch ≤ 126) ∧ mlen = 60 ∧ mtxt = mtxt ∧ mlen = mlen) ∨ (2 = 0 ∧ (32 ≤ ch ∧ ch ≤ 126) ∧ mlen < 60 ∧ mtxt = zU mtxt mlen ch ∧ mlen = mlen + 1 ∧ (0 : Int) = mlen + 1) from by first | (exfalso; omega) | exact Or.inl ⟨by omega, by omega, rfl, rfl⟩ | exact Or.inr (Or.inl ⟨by omega, by omega, by omega, rfl, rfl⟩) | exact Or.inr (Or.inr ⟨by omega, by omega, by omega, rfl, rfl, by omega⟩)) hP hD hS
  · refine zz_iconst hx hb dX11_type_12 ?_
    refine lv_goto (tgt := 30) hx hb dX11_type_13 (by decide) ?_
    refine va_put (D := D) (ci := 13) (v := .int (iI 1)) (ty := .int) (C := RX11) (T := TX11) (N := 20) hx hb hts iX11 tyX11 tyX11_ok nmX11 hown hK hP hD hS 0 rfl rfl 6 (by decide) f_49 (fun _ h9 => h9) rfl (by decide +kernel) rfl rfl (Nat.le_of_ble_eq_true rfl) dX11_type_30 (fun H locs hP hD hS => ?_)
    have hP : va_P D vwCl (bModel tA a0 a1 a2 a3 a4 a5 a6 a7 a8 a9 a10 ms mbef msav misv mpast mpm 1 mways mnds mtkp mline mlm mtxt mlen mat mwr merr mfail mcmd mcm) H := hP
    have hD : va_D A (bModel tA a0 a1 a2 a3 a4 a5 a6 a7 a8 a9 a10 ms mbef msav misv mpast mpm 1 mways mnds mtkp mline mlm mtxt mlen mat mwr merr mfail mcmd mcm) := hD
    refine lv_aload_n hx hb dX11_type_33 rfl (lv_at hl 0 rfl) ?_
    refine va_get (D := D) (ci := 13) (v := .int (iI 1)) (C := RX11) (T := TX11) (N := 20) hx hb hts iX11 hown hK hP 0 rfl rfl 6 (by decide) f_49 (fun _ h9 => h9) rfl dX11_type_34 ?_
    refine zz_if_le (tgt := 42) hx hb dX11_type_37 (by decide) (by decide) (fun c_37 => ?_) (fun c_37 => ?_)
    · exact absurd c_37 (by decide)
    · refine zz_iconst hx hb dX11_type_40 ?_
      exact hret 0 (1, mtxt, mlen) _ _ _ _ dX11_type_41 (show (1 = 1 ∧ ¬ (32 ≤ ch ∧ ch ≤ 126) ∧ mtxt = mtxt ∧ mlen = mlen) ∨ (1 = 2 ∧ (32 ≤ ch ∧ ch ≤ 126) ∧ mlen = 60 ∧ mtxt = mtxt ∧ mlen = mlen) ∨ (1 = 0 ∧ (32 ≤ ch ∧ ch ≤ 126) ∧ mlen < 60 ∧ mtxt = zU mtxt mlen ch ∧ mlen = mlen + 1 ∧ (0 : Int) = mlen + 1) from by first | (exfalso; omega) | exact Or.inl ⟨by omega, by omega, rfl, rfl⟩ | exact Or.inr (Or.inl ⟨by omega, by omega, by omega, rfl, rfl⟩) | exact Or.inr (Or.inr ⟨by omega, by omega, by omega, rfl, rfl, by omega⟩)) hP hD hS

set_option maxHeartbeats 4000000 in
set_option maxRecDepth 100000 in
theorem c_X11_saysNumber_1 (l : Launch) (D : va_G) (tA : Nat → ClassId) (a0 a1 a2 a3 a4 a5 a6 a7 a8 a9 a10 : Nat) (sz : Nat) (ms : Int → Int) (mbef : Int → Int) (msav : Int → Int) (misv : Int) (mpast : Int → Int) (mpm : Int) (mthr : Int) (mways : Int → Int) (mnds : Int → Int) (mtkp : Int → Int) (mline : Int → Int) (mlm : Int) (mtxt : Int → Int) (mlen : Int) (mat : Int) (mwr : Int) (merr : Int) (mfail : Int) (mcmd : Int → Int) (mcm : Int) (v : Int) (r_v : -2147483648 ≤ v ∧ v ≤ 2147483647) (hv : 0 ≤ v ∧ v ≤ 9) (hlm : 0 ≤ mlm ∧ mlm ≤ 30) : zMv l yX11_saysNumber wsX11_saysNumber ({ frames := 1, cells := 0, slots := 0, locals := 24 }) D tA [.ref a0, .int (iI v)] (bModel tA a0 a1 a2 a3 a4 a5 a6 a7 a8 a9 a10 ms mbef msav misv mpast mpm mthr mways mnds mtkp mline mlm mtxt mlen mat mwr merr mfail mcmd mcm) sz (fun (u : Unit) => True) (fun (u : Unit) => bModel tA a0 a1 a2 a3 a4 a5 a6 a7 a8 a9 a10 ms mbef msav misv mpast mpm mthr mways mnds mtkp (wrL mline mlm (dgL v)) (mlm + dgN v) mtxt mlen mat mwr merr mfail mcmd mcm) 0 0 := by
  refine zMv_of (cc := cX11_saysNumber) (maxL := 2) (by decide) rfl (Nat.le_of_ble_eq_true rfl) ?_
  intro p e s m args below meth c A Q ls hx hb hml hts hown hK hP hD hA hret hl
  obtain ⟨H, hHe⟩ : ∃ H : Heap, H = s.heap := ⟨_, rfl⟩
  have hS : va_S A s.heap H [] := by rw [hHe]; exact va_S.rf
  rw [← hHe] at hP ⊢
  have hl : lv_has ls 2 [(0, .ref a0), (1, .int (iI v))] := hl
  have hdn := dgN_in (x := v / 10) (by omega) (by omega)
  refine lv_iload_n hx hb dX11_saysNumber_0 rfl (lv_at hl 1 rfl) ?_
  refine zz_bipush hx hb dX11_saysNumber_1 (by decide) ?_
  refine zz_icmp_le (tgt := 14) hx hb dX11_saysNumber_3 (by decide) (by omega) (by decide) (fun c_3 => ?_) (fun c_3 => ?_)
  · refine lv_aload_n hx hb dX11_saysNumber_14 rfl (lv_at hl 0 rfl) ?_
    refine zz_bipush hx hb dX11_saysNumber_15 (by decide) ?_
    refine lv_iload_n hx hb dX11_saysNumber_17 rfl (lv_at hl 1 rfl) ?_
    refine zz_bipush hx hb dX11_saysNumber_18 (by decide) ?_
    refine zz_irem hx hb dX11_saysNumber_20 (by omega) (by omega) ?_
    refine zz_iadd hx hb dX11_saysNumber_21 ?_
    refine zz_i2c hx hb dX11_saysNumber_22 (by omega) ?_
    refine zz_callVv (As := [.int (iI (48 + (v % 10)))]) (rest := []) (wf := fun u => bModel tA a0 a1 a2 a3 a4 a5 a6 a7 a8 a9 a10 ms mbef msav misv mpast mpm mthr mways mnds mtkp (zU mline mlm (48 + (v % 10))) (mlm + 1) mtxt mlen mat mwr merr mfail mcmd mcm) ⟨hx, hb, hml, hown, hts⟩ (c_X11_says l D tA a0 a1 a2 a3 a4 a5 a6 a7 a8 a9 a10 H.size ms mbef msav misv mpast mpm mthr mways mnds mtkp mline mlm mtxt mlen mat mwr merr mfail mcmd mcm (48 + (v % 10)) (by first | assumption | omega) (by first | assumption | omega) (by first | assumption | omega)) (cwV 1 hts gX11_saysNumber_X11_says rfl rfl rfl (by decide +kernel) ⟨Nat.le_of_ble_eq_true rfl, Nat.le_of_ble_eq_true rfl⟩) hK hP hD hS hA [0, 1, 2, 3, 4, 5, 6, 7, 8, 9, 10] [] [0, 1, 2, 3, 4, 5, 6, 7, 8, 9, 10] rfl rfl (by decide) (by decide) (by decide) (by decide) (fun _ => rfl) (ci := 13) (q0 := 0) rfl rfl rfl rfl rfl hl.1 (Nat.le_of_ble_eq_true rfl) dX11_saysNumber_23 ⟨Nat.le_of_ble_eq_true rfl, Nat.le_of_ble_eq_true rfl⟩ ?_
    intro u H locs p23_1 hP hD hS
    have hP : va_P D vwCl (bModel tA a0 a1 a2 a3 a4 a5 a6 a7 a8 a9 a10 ms mbef msav misv mpast mpm mthr mways mnds mtkp (zU mline mlm (48 + (v % 10))) (mlm + 1) mtxt mlen mat mwr merr mfail mcmd mcm) H := hP
    have hD : va_D A (bModel tA a0 a1 a2 a3 a4 a5 a6 a7 a8 a9 a10 ms mbef msav misv mpast mpm mthr mways mnds mtkp (zU mline mlm (48 + (v % 10))) (mlm + 1) mtxt mlen mat mwr merr mfail mcmd mcm) := hD
    have e_mline : ((zU mline mlm (48 + (v % 10))) : Int → Int) = (wrL mline mlm (dgL v)) := by first | exact say_1 (by omega) (by omega) | exact say_s (by omega) (by omega)
    rw [e_mline] at hP hD
    have e_mlm : ((mlm + 1) : Int) = (mlm + dgN v) := by first | (rw [dgN_1 (x := v) (by omega) (by omega)]) | (rw [dgN_s (x := v) (by omega) (by omega)]; omega)
    rw [e_mlm] at hP hD
    exact hret () _ _ _ _ dX11_saysNumber_26 True.intro hP hD hS
  · exact absurd c_3 (by omega)

set_option maxHeartbeats 4000000 in
set_option maxRecDepth 100000 in
theorem c_X11_saysNumber_2 (l : Launch) (D : va_G) (tA : Nat → ClassId) (a0 a1 a2 a3 a4 a5 a6 a7 a8 a9 a10 : Nat) (sz : Nat) (ms : Int → Int) (mbef : Int → Int) (msav : Int → Int) (misv : Int) (mpast : Int → Int) (mpm : Int) (mthr : Int) (mways : Int → Int) (mnds : Int → Int) (mtkp : Int → Int) (mline : Int → Int) (mlm : Int) (mtxt : Int → Int) (mlen : Int) (mat : Int) (mwr : Int) (merr : Int) (mfail : Int) (mcmd : Int → Int) (mcm : Int) (v : Int) (r_v : -2147483648 ≤ v ∧ v ≤ 2147483647) (hv : 0 ≤ v ∧ v ≤ 99) (hlm : 0 ≤ mlm ∧ mlm ≤ 30) : zMv l yX11_saysNumber wsX11_saysNumber ({ frames := 2, cells := 0, slots := 0, locals := 48 }) D tA [.ref a0, .int (iI v)] (bModel tA a0 a1 a2 a3 a4 a5 a6 a7 a8 a9 a10 ms mbef msav misv mpast mpm mthr mways mnds mtkp mline mlm mtxt mlen mat mwr merr mfail mcmd mcm) sz (fun (u : Unit) => True) (fun (u : Unit) => bModel tA a0 a1 a2 a3 a4 a5 a6 a7 a8 a9 a10 ms mbef msav misv mpast mpm mthr mways mnds mtkp (wrL mline mlm (dgL v)) (mlm + dgN v) mtxt mlen mat mwr merr mfail mcmd mcm) 0 0 := by
  refine zMv_of (cc := cX11_saysNumber) (maxL := 2) (by decide) rfl (Nat.le_of_ble_eq_true rfl) ?_
  intro p e s m args below meth c A Q ls hx hb hml hts hown hK hP hD hA hret hl
  obtain ⟨H, hHe⟩ : ∃ H : Heap, H = s.heap := ⟨_, rfl⟩
  have hS : va_S A s.heap H [] := by rw [hHe]; exact va_S.rf
  rw [← hHe] at hP ⊢
  have hl : lv_has ls 2 [(0, .ref a0), (1, .int (iI v))] := hl
  have hdn := dgN_in (x := v / 10) (by omega) (by omega)
  refine lv_iload_n hx hb dX11_saysNumber_0 rfl (lv_at hl 1 rfl) ?_
  refine zz_bipush hx hb dX11_saysNumber_1 (by decide) ?_
  refine zz_icmp_le (tgt := 14) hx hb dX11_saysNumber_3 (by decide) (by omega) (by decide) (fun c_3 => ?_) (fun c_3 => ?_)
  · refine lv_aload_n hx hb dX11_saysNumber_14 rfl (lv_at hl 0 rfl) ?_
    refine zz_bipush hx hb dX11_saysNumber_15 (by decide) ?_
    refine lv_iload_n hx hb dX11_saysNumber_17 rfl (lv_at hl 1 rfl) ?_
    refine zz_bipush hx hb dX11_saysNumber_18 (by decide) ?_
    refine zz_irem hx hb dX11_saysNumber_20 (by omega) (by omega) ?_
    refine zz_iadd hx hb dX11_saysNumber_21 ?_
    refine zz_i2c hx hb dX11_saysNumber_22 (by omega) ?_
    refine zz_callVv (As := [.int (iI (48 + (v % 10)))]) (rest := []) (wf := fun u => bModel tA a0 a1 a2 a3 a4 a5 a6 a7 a8 a9 a10 ms mbef msav misv mpast mpm mthr mways mnds mtkp (zU mline mlm (48 + (v % 10))) (mlm + 1) mtxt mlen mat mwr merr mfail mcmd mcm) ⟨hx, hb, hml, hown, hts⟩ (c_X11_says l D tA a0 a1 a2 a3 a4 a5 a6 a7 a8 a9 a10 H.size ms mbef msav misv mpast mpm mthr mways mnds mtkp mline mlm mtxt mlen mat mwr merr mfail mcmd mcm (48 + (v % 10)) (by first | assumption | omega) (by first | assumption | omega) (by first | assumption | omega)) (cwV 1 hts gX11_saysNumber_X11_says rfl rfl rfl (by decide +kernel) ⟨Nat.le_of_ble_eq_true rfl, Nat.le_of_ble_eq_true rfl⟩) hK hP hD hS hA [0, 1, 2, 3, 4, 5, 6, 7, 8, 9, 10] [] [0, 1, 2, 3, 4, 5, 6, 7, 8, 9, 10] rfl rfl (by decide) (by decide) (by decide) (by decide) (fun _ => rfl) (ci := 13) (q0 := 0) rfl rfl rfl rfl rfl hl.1 (Nat.le_of_ble_eq_true rfl) dX11_saysNumber_23 ⟨Nat.le_of_ble_eq_true rfl, Nat.le_of_ble_eq_true rfl⟩ ?_
    intro u H locs p23_1 hP hD hS
    have hP : va_P D vwCl (bModel tA a0 a1 a2 a3 a4 a5 a6 a7 a8 a9 a10 ms mbef msav misv mpast mpm mthr mways mnds mtkp (zU mline mlm (48 + (v % 10))) (mlm + 1) mtxt mlen mat mwr merr mfail mcmd mcm) H := hP
    have hD : va_D A (bModel tA a0 a1 a2 a3 a4 a5 a6 a7 a8 a9 a10 ms mbef msav misv mpast mpm mthr mways mnds mtkp (zU mline mlm (48 + (v % 10))) (mlm + 1) mtxt mlen mat mwr merr mfail mcmd mcm) := hD
    have e_mline : ((zU mline mlm (48 + (v % 10))) : Int → Int) = (wrL mline mlm (dgL v)) := by first | exact say_1 (by omega) (by omega) | exact say_s (by omega) (by omega)
    rw [e_mline] at hP hD
    have e_mlm : ((mlm + 1) : Int) = (mlm + dgN v) := by first | (rw [dgN_1 (x := v) (by omega) (by omega)]) | (rw [dgN_s (x := v) (by omega) (by omega)]; omega)
    rw [e_mlm] at hP hD
    exact hret () _ _ _ _ dX11_saysNumber_26 True.intro hP hD hS
  · refine lv_aload_n hx hb dX11_saysNumber_6 rfl (lv_at hl 0 rfl) ?_
    refine lv_iload_n hx hb dX11_saysNumber_7 rfl (lv_at hl 1 rfl) ?_
    refine zz_bipush hx hb dX11_saysNumber_8 (by decide) ?_
    refine zz_idiv hx hb dX11_saysNumber_10 (by omega) (by omega) ?_
    refine zz_callVv (As := [.int (iI (v / 10))]) (rest := []) (wf := fun u => bModel tA a0 a1 a2 a3 a4 a5 a6 a7 a8 a9 a10 ms mbef msav misv mpast mpm mthr mways mnds mtkp (wrL mline mlm (dgL (v / 10))) (mlm + dgN (v / 10)) mtxt mlen mat mwr merr mfail mcmd mcm) ⟨hx, hb, hml, hown, hts⟩ (c_X11_saysNumber_1 l D tA a0 a1 a2 a3 a4 a5 a6 a7 a8 a9 a10 H.size ms mbef msav misv mpast mpm mthr mways mnds mtkp mline mlm mtxt mlen mat mwr merr mfail mcmd mcm (v / 10) (by first | assumption | omega) (by first | assumption | omega) (by first | assumption | omega)) (cwV 1 hts gX11_saysNumber_X11_saysNumber rfl rfl rfl (by decide +kernel) ⟨Nat.le_of_ble_eq_true rfl, Nat.le_of_ble_eq_true rfl⟩) hK hP hD hS hA [0, 1, 2, 3, 4, 5, 6, 7, 8, 9, 10] [] [0, 1, 2, 3, 4, 5, 6, 7, 8, 9, 10] rfl rfl (by decide) (by decide) (by decide) (by decide) (fun _ => rfl) (ci := 13) (q0 := 0) rfl rfl rfl rfl rfl hl.1 (Nat.le_of_ble_eq_true rfl) dX11_saysNumber_11 ⟨Nat.le_of_ble_eq_true rfl, Nat.le_of_ble_eq_true rfl⟩ ?_
    intro u H locs p11_2 hP hD hS
    have hP : va_P D vwCl (bModel tA a0 a1 a2 a3 a4 a5 a6 a7 a8 a9 a10 ms mbef msav misv mpast mpm mthr mways mnds mtkp (wrL mline mlm (dgL (v / 10))) (mlm + dgN (v / 10)) mtxt mlen mat mwr merr mfail mcmd mcm) H := hP
    have hD : va_D A (bModel tA a0 a1 a2 a3 a4 a5 a6 a7 a8 a9 a10 ms mbef msav misv mpast mpm mthr mways mnds mtkp (wrL mline mlm (dgL (v / 10))) (mlm + dgN (v / 10)) mtxt mlen mat mwr merr mfail mcmd mcm) := hD
    refine lv_aload_n hx hb dX11_saysNumber_14 rfl (lv_at hl 0 rfl) ?_
    refine zz_bipush hx hb dX11_saysNumber_15 (by decide) ?_
    refine lv_iload_n hx hb dX11_saysNumber_17 rfl (lv_at hl 1 rfl) ?_
    refine zz_bipush hx hb dX11_saysNumber_18 (by decide) ?_
    refine zz_irem hx hb dX11_saysNumber_20 (by omega) (by omega) ?_
    refine zz_iadd hx hb dX11_saysNumber_21 ?_
    refine zz_i2c hx hb dX11_saysNumber_22 (by omega) ?_
    refine zz_callVv (As := [.int (iI (48 + (v % 10)))]) (rest := []) (wf := fun u => bModel tA a0 a1 a2 a3 a4 a5 a6 a7 a8 a9 a10 ms mbef msav misv mpast mpm mthr mways mnds mtkp (zU (wrL mline mlm (dgL (v / 10))) (mlm + dgN (v / 10)) (48 + (v % 10))) ((mlm + dgN (v / 10)) + 1) mtxt mlen mat mwr merr mfail mcmd mcm) ⟨hx, hb, hml, hown, hts⟩ (c_X11_says l D tA a0 a1 a2 a3 a4 a5 a6 a7 a8 a9 a10 H.size ms mbef msav misv mpast mpm mthr mways mnds mtkp (wrL mline mlm (dgL (v / 10))) (mlm + dgN (v / 10)) mtxt mlen mat mwr merr mfail mcmd mcm (48 + (v % 10)) (by first | assumption | omega) (by first | assumption | omega) (by first | assumption | omega)) (cwV 1 hts gX11_saysNumber_X11_says rfl rfl rfl (by decide +kernel) ⟨Nat.le_of_ble_eq_true rfl, Nat.le_of_ble_eq_true rfl⟩) hK hP hD hS hA [0, 1, 2, 3, 4, 5, 6, 7, 8, 9, 10] [] [0, 1, 2, 3, 4, 5, 6, 7, 8, 9, 10] rfl rfl (by decide) (by decide) (by decide) (by decide) (fun _ => rfl) (ci := 13) (q0 := 0) rfl rfl rfl rfl rfl hl.1 (Nat.le_of_ble_eq_true rfl) dX11_saysNumber_23 ⟨Nat.le_of_ble_eq_true rfl, Nat.le_of_ble_eq_true rfl⟩ ?_
    intro u H locs p23_3 hP hD hS
    have hP : va_P D vwCl (bModel tA a0 a1 a2 a3 a4 a5 a6 a7 a8 a9 a10 ms mbef msav misv mpast mpm mthr mways mnds mtkp (zU (wrL mline mlm (dgL (v / 10))) (mlm + dgN (v / 10)) (48 + (v % 10))) ((mlm + dgN (v / 10)) + 1) mtxt mlen mat mwr merr mfail mcmd mcm) H := hP
    have hD : va_D A (bModel tA a0 a1 a2 a3 a4 a5 a6 a7 a8 a9 a10 ms mbef msav misv mpast mpm mthr mways mnds mtkp (zU (wrL mline mlm (dgL (v / 10))) (mlm + dgN (v / 10)) (48 + (v % 10))) ((mlm + dgN (v / 10)) + 1) mtxt mlen mat mwr merr mfail mcmd mcm) := hD
    have e_mline : ((zU (wrL mline mlm (dgL (v / 10))) (mlm + dgN (v / 10)) (48 + (v % 10))) : Int → Int) = (wrL mline mlm (dgL v)) := by first | exact say_1 (by omega) (by omega) | exact say_s (by omega) (by omega)
    rw [e_mline] at hP hD
    have e_mlm : (((mlm + dgN (v / 10)) + 1) : Int) = (mlm + dgN v) := by first | (rw [dgN_1 (x := v) (by omega) (by omega)]) | (rw [dgN_s (x := v) (by omega) (by omega)]; omega)
    rw [e_mlm] at hP hD
    exact hret () _ _ _ _ dX11_saysNumber_26 True.intro hP hD hS

set_option maxHeartbeats 4000000 in
set_option maxRecDepth 100000 in
theorem c_X11_saysNumber_3 (l : Launch) (D : va_G) (tA : Nat → ClassId) (a0 a1 a2 a3 a4 a5 a6 a7 a8 a9 a10 : Nat) (sz : Nat) (ms : Int → Int) (mbef : Int → Int) (msav : Int → Int) (misv : Int) (mpast : Int → Int) (mpm : Int) (mthr : Int) (mways : Int → Int) (mnds : Int → Int) (mtkp : Int → Int) (mline : Int → Int) (mlm : Int) (mtxt : Int → Int) (mlen : Int) (mat : Int) (mwr : Int) (merr : Int) (mfail : Int) (mcmd : Int → Int) (mcm : Int) (v : Int) (r_v : -2147483648 ≤ v ∧ v ≤ 2147483647) (hv : 0 ≤ v ∧ v ≤ 999) (hlm : 0 ≤ mlm ∧ mlm ≤ 30) : zMv l yX11_saysNumber wsX11_saysNumber ({ frames := 3, cells := 0, slots := 0, locals := 72 }) D tA [.ref a0, .int (iI v)] (bModel tA a0 a1 a2 a3 a4 a5 a6 a7 a8 a9 a10 ms mbef msav misv mpast mpm mthr mways mnds mtkp mline mlm mtxt mlen mat mwr merr mfail mcmd mcm) sz (fun (u : Unit) => True) (fun (u : Unit) => bModel tA a0 a1 a2 a3 a4 a5 a6 a7 a8 a9 a10 ms mbef msav misv mpast mpm mthr mways mnds mtkp (wrL mline mlm (dgL v)) (mlm + dgN v) mtxt mlen mat mwr merr mfail mcmd mcm) 0 0 := by
  refine zMv_of (cc := cX11_saysNumber) (maxL := 2) (by decide) rfl (Nat.le_of_ble_eq_true rfl) ?_
  intro p e s m args below meth c A Q ls hx hb hml hts hown hK hP hD hA hret hl
  obtain ⟨H, hHe⟩ : ∃ H : Heap, H = s.heap := ⟨_, rfl⟩
  have hS : va_S A s.heap H [] := by rw [hHe]; exact va_S.rf
  rw [← hHe] at hP ⊢
  have hl : lv_has ls 2 [(0, .ref a0), (1, .int (iI v))] := hl
  have hdn := dgN_in (x := v / 10) (by omega) (by omega)
  refine lv_iload_n hx hb dX11_saysNumber_0 rfl (lv_at hl 1 rfl) ?_
  refine zz_bipush hx hb dX11_saysNumber_1 (by decide) ?_
  refine zz_icmp_le (tgt := 14) hx hb dX11_saysNumber_3 (by decide) (by omega) (by decide) (fun c_3 => ?_) (fun c_3 => ?_)
  · refine lv_aload_n hx hb dX11_saysNumber_14 rfl (lv_at hl 0 rfl) ?_
    refine zz_bipush hx hb dX11_saysNumber_15 (by decide) ?_
    refine lv_iload_n hx hb dX11_saysNumber_17 rfl (lv_at hl 1 rfl) ?_
    refine zz_bipush hx hb dX11_saysNumber_18 (by decide) ?_
    refine zz_irem hx hb dX11_saysNumber_20 (by omega) (by omega) ?_
    refine zz_iadd hx hb dX11_saysNumber_21 ?_
    refine zz_i2c hx hb dX11_saysNumber_22 (by omega) ?_
    refine zz_callVv (As := [.int (iI (48 + (v % 10)))]) (rest := []) (wf := fun u => bModel tA a0 a1 a2 a3 a4 a5 a6 a7 a8 a9 a10 ms mbef msav misv mpast mpm mthr mways mnds mtkp (zU mline mlm (48 + (v % 10))) (mlm + 1) mtxt mlen mat mwr merr mfail mcmd mcm) ⟨hx, hb, hml, hown, hts⟩ (c_X11_says l D tA a0 a1 a2 a3 a4 a5 a6 a7 a8 a9 a10 H.size ms mbef msav misv mpast mpm mthr mways mnds mtkp mline mlm mtxt mlen mat mwr merr mfail mcmd mcm (48 + (v % 10)) (by first | assumption | omega) (by first | assumption | omega) (by first | assumption | omega)) (cwV 1 hts gX11_saysNumber_X11_says rfl rfl rfl (by decide +kernel) ⟨Nat.le_of_ble_eq_true rfl, Nat.le_of_ble_eq_true rfl⟩) hK hP hD hS hA [0, 1, 2, 3, 4, 5, 6, 7, 8, 9, 10] [] [0, 1, 2, 3, 4, 5, 6, 7, 8, 9, 10] rfl rfl (by decide) (by decide) (by decide) (by decide) (fun _ => rfl) (ci := 13) (q0 := 0) rfl rfl rfl rfl rfl hl.1 (Nat.le_of_ble_eq_true rfl) dX11_saysNumber_23 ⟨Nat.le_of_ble_eq_true rfl, Nat.le_of_ble_eq_true rfl⟩ ?_
    intro u H locs p23_1 hP hD hS
    have hP : va_P D vwCl (bModel tA a0 a1 a2 a3 a4 a5 a6 a7 a8 a9 a10 ms mbef msav misv mpast mpm mthr mways mnds mtkp (zU mline mlm (48 + (v % 10))) (mlm + 1) mtxt mlen mat mwr merr mfail mcmd mcm) H := hP
    have hD : va_D A (bModel tA a0 a1 a2 a3 a4 a5 a6 a7 a8 a9 a10 ms mbef msav misv mpast mpm mthr mways mnds mtkp (zU mline mlm (48 + (v % 10))) (mlm + 1) mtxt mlen mat mwr merr mfail mcmd mcm) := hD
    have e_mline : ((zU mline mlm (48 + (v % 10))) : Int → Int) = (wrL mline mlm (dgL v)) := by first | exact say_1 (by omega) (by omega) | exact say_s (by omega) (by omega)
    rw [e_mline] at hP hD
    have e_mlm : ((mlm + 1) : Int) = (mlm + dgN v) := by first | (rw [dgN_1 (x := v) (by omega) (by omega)]) | (rw [dgN_s (x := v) (by omega) (by omega)]; omega)
    rw [e_mlm] at hP hD
    exact hret () _ _ _ _ dX11_saysNumber_26 True.intro hP hD hS
  · refine lv_aload_n hx hb dX11_saysNumber_6 rfl (lv_at hl 0 rfl) ?_
    refine lv_iload_n hx hb dX11_saysNumber_7 rfl (lv_at hl 1 rfl) ?_
    refine zz_bipush hx hb dX11_saysNumber_8 (by decide) ?_
    refine zz_idiv hx hb dX11_saysNumber_10 (by omega) (by omega) ?_
    refine zz_callVv (As := [.int (iI (v / 10))]) (rest := []) (wf := fun u => bModel tA a0 a1 a2 a3 a4 a5 a6 a7 a8 a9 a10 ms mbef msav misv mpast mpm mthr mways mnds mtkp (wrL mline mlm (dgL (v / 10))) (mlm + dgN (v / 10)) mtxt mlen mat mwr merr mfail mcmd mcm) ⟨hx, hb, hml, hown, hts⟩ (c_X11_saysNumber_2 l D tA a0 a1 a2 a3 a4 a5 a6 a7 a8 a9 a10 H.size ms mbef msav misv mpast mpm mthr mways mnds mtkp mline mlm mtxt mlen mat mwr merr mfail mcmd mcm (v / 10) (by first | assumption | omega) (by first | assumption | omega) (by first | assumption | omega)) (cwV 1 hts gX11_saysNumber_X11_saysNumber rfl rfl rfl (by decide +kernel) ⟨Nat.le_of_ble_eq_true rfl, Nat.le_of_ble_eq_true rfl⟩) hK hP hD hS hA [0, 1, 2, 3, 4, 5, 6, 7, 8, 9, 10] [] [0, 1, 2, 3, 4, 5, 6, 7, 8, 9, 10] rfl rfl (by decide) (by decide) (by decide) (by decide) (fun _ => rfl) (ci := 13) (q0 := 0) rfl rfl rfl rfl rfl hl.1 (Nat.le_of_ble_eq_true rfl) dX11_saysNumber_11 ⟨Nat.le_of_ble_eq_true rfl, Nat.le_of_ble_eq_true rfl⟩ ?_
    intro u H locs p11_2 hP hD hS
    have hP : va_P D vwCl (bModel tA a0 a1 a2 a3 a4 a5 a6 a7 a8 a9 a10 ms mbef msav misv mpast mpm mthr mways mnds mtkp (wrL mline mlm (dgL (v / 10))) (mlm + dgN (v / 10)) mtxt mlen mat mwr merr mfail mcmd mcm) H := hP
    have hD : va_D A (bModel tA a0 a1 a2 a3 a4 a5 a6 a7 a8 a9 a10 ms mbef msav misv mpast mpm mthr mways mnds mtkp (wrL mline mlm (dgL (v / 10))) (mlm + dgN (v / 10)) mtxt mlen mat mwr merr mfail mcmd mcm) := hD
    refine lv_aload_n hx hb dX11_saysNumber_14 rfl (lv_at hl 0 rfl) ?_
    refine zz_bipush hx hb dX11_saysNumber_15 (by decide) ?_
    refine lv_iload_n hx hb dX11_saysNumber_17 rfl (lv_at hl 1 rfl) ?_
    refine zz_bipush hx hb dX11_saysNumber_18 (by decide) ?_
    refine zz_irem hx hb dX11_saysNumber_20 (by omega) (by omega) ?_
    refine zz_iadd hx hb dX11_saysNumber_21 ?_
    refine zz_i2c hx hb dX11_saysNumber_22 (by omega) ?_
    refine zz_callVv (As := [.int (iI (48 + (v % 10)))]) (rest := []) (wf := fun u => bModel tA a0 a1 a2 a3 a4 a5 a6 a7 a8 a9 a10 ms mbef msav misv mpast mpm mthr mways mnds mtkp (zU (wrL mline mlm (dgL (v / 10))) (mlm + dgN (v / 10)) (48 + (v % 10))) ((mlm + dgN (v / 10)) + 1) mtxt mlen mat mwr merr mfail mcmd mcm) ⟨hx, hb, hml, hown, hts⟩ (c_X11_says l D tA a0 a1 a2 a3 a4 a5 a6 a7 a8 a9 a10 H.size ms mbef msav misv mpast mpm mthr mways mnds mtkp (wrL mline mlm (dgL (v / 10))) (mlm + dgN (v / 10)) mtxt mlen mat mwr merr mfail mcmd mcm (48 + (v % 10)) (by first | assumption | omega) (by first | assumption | omega) (by first | assumption | omega)) (cwV 1 hts gX11_saysNumber_X11_says rfl rfl rfl (by decide +kernel) ⟨Nat.le_of_ble_eq_true rfl, Nat.le_of_ble_eq_true rfl⟩) hK hP hD hS hA [0, 1, 2, 3, 4, 5, 6, 7, 8, 9, 10] [] [0, 1, 2, 3, 4, 5, 6, 7, 8, 9, 10] rfl rfl (by decide) (by decide) (by decide) (by decide) (fun _ => rfl) (ci := 13) (q0 := 0) rfl rfl rfl rfl rfl hl.1 (Nat.le_of_ble_eq_true rfl) dX11_saysNumber_23 ⟨Nat.le_of_ble_eq_true rfl, Nat.le_of_ble_eq_true rfl⟩ ?_
    intro u H locs p23_3 hP hD hS
    have hP : va_P D vwCl (bModel tA a0 a1 a2 a3 a4 a5 a6 a7 a8 a9 a10 ms mbef msav misv mpast mpm mthr mways mnds mtkp (zU (wrL mline mlm (dgL (v / 10))) (mlm + dgN (v / 10)) (48 + (v % 10))) ((mlm + dgN (v / 10)) + 1) mtxt mlen mat mwr merr mfail mcmd mcm) H := hP
    have hD : va_D A (bModel tA a0 a1 a2 a3 a4 a5 a6 a7 a8 a9 a10 ms mbef msav misv mpast mpm mthr mways mnds mtkp (zU (wrL mline mlm (dgL (v / 10))) (mlm + dgN (v / 10)) (48 + (v % 10))) ((mlm + dgN (v / 10)) + 1) mtxt mlen mat mwr merr mfail mcmd mcm) := hD
    have e_mline : ((zU (wrL mline mlm (dgL (v / 10))) (mlm + dgN (v / 10)) (48 + (v % 10))) : Int → Int) = (wrL mline mlm (dgL v)) := by first | exact say_1 (by omega) (by omega) | exact say_s (by omega) (by omega)
    rw [e_mline] at hP hD
    have e_mlm : (((mlm + dgN (v / 10)) + 1) : Int) = (mlm + dgN v) := by first | (rw [dgN_1 (x := v) (by omega) (by omega)]) | (rw [dgN_s (x := v) (by omega) (by omega)]; omega)
    rw [e_mlm] at hP hD
    exact hret () _ _ _ _ dX11_saysNumber_26 True.intro hP hD hS

set_option maxHeartbeats 4000000 in
set_option maxRecDepth 100000 in
theorem c_X11_saysNumber_4 (l : Launch) (D : va_G) (tA : Nat → ClassId) (a0 a1 a2 a3 a4 a5 a6 a7 a8 a9 a10 : Nat) (sz : Nat) (ms : Int → Int) (mbef : Int → Int) (msav : Int → Int) (misv : Int) (mpast : Int → Int) (mpm : Int) (mthr : Int) (mways : Int → Int) (mnds : Int → Int) (mtkp : Int → Int) (mline : Int → Int) (mlm : Int) (mtxt : Int → Int) (mlen : Int) (mat : Int) (mwr : Int) (merr : Int) (mfail : Int) (mcmd : Int → Int) (mcm : Int) (v : Int) (r_v : -2147483648 ≤ v ∧ v ≤ 2147483647) (hv : 0 ≤ v ∧ v ≤ 9999) (hlm : 0 ≤ mlm ∧ mlm ≤ 30) : zMv l yX11_saysNumber wsX11_saysNumber ({ frames := 4, cells := 0, slots := 0, locals := 96 }) D tA [.ref a0, .int (iI v)] (bModel tA a0 a1 a2 a3 a4 a5 a6 a7 a8 a9 a10 ms mbef msav misv mpast mpm mthr mways mnds mtkp mline mlm mtxt mlen mat mwr merr mfail mcmd mcm) sz (fun (u : Unit) => True) (fun (u : Unit) => bModel tA a0 a1 a2 a3 a4 a5 a6 a7 a8 a9 a10 ms mbef msav misv mpast mpm mthr mways mnds mtkp (wrL mline mlm (dgL v)) (mlm + dgN v) mtxt mlen mat mwr merr mfail mcmd mcm) 0 0 := by
  refine zMv_of (cc := cX11_saysNumber) (maxL := 2) (by decide) rfl (Nat.le_of_ble_eq_true rfl) ?_
  intro p e s m args below meth c A Q ls hx hb hml hts hown hK hP hD hA hret hl
  obtain ⟨H, hHe⟩ : ∃ H : Heap, H = s.heap := ⟨_, rfl⟩
  have hS : va_S A s.heap H [] := by rw [hHe]; exact va_S.rf
  rw [← hHe] at hP ⊢
  have hl : lv_has ls 2 [(0, .ref a0), (1, .int (iI v))] := hl
  have hdn := dgN_in (x := v / 10) (by omega) (by omega)
  refine lv_iload_n hx hb dX11_saysNumber_0 rfl (lv_at hl 1 rfl) ?_
  refine zz_bipush hx hb dX11_saysNumber_1 (by decide) ?_
  refine zz_icmp_le (tgt := 14) hx hb dX11_saysNumber_3 (by decide) (by omega) (by decide) (fun c_3 => ?_) (fun c_3 => ?_)
  · refine lv_aload_n hx hb dX11_saysNumber_14 rfl (lv_at hl 0 rfl) ?_
    refine zz_bipush hx hb dX11_saysNumber_15 (by decide) ?_
    refine lv_iload_n hx hb dX11_saysNumber_17 rfl (lv_at hl 1 rfl) ?_
    refine zz_bipush hx hb dX11_saysNumber_18 (by decide) ?_
    refine zz_irem hx hb dX11_saysNumber_20 (by omega) (by omega) ?_
    refine zz_iadd hx hb dX11_saysNumber_21 ?_
    refine zz_i2c hx hb dX11_saysNumber_22 (by omega) ?_
    refine zz_callVv (As := [.int (iI (48 + (v % 10)))]) (rest := []) (wf := fun u => bModel tA a0 a1 a2 a3 a4 a5 a6 a7 a8 a9 a10 ms mbef msav misv mpast mpm mthr mways mnds mtkp (zU mline mlm (48 + (v % 10))) (mlm + 1) mtxt mlen mat mwr merr mfail mcmd mcm) ⟨hx, hb, hml, hown, hts⟩ (c_X11_says l D tA a0 a1 a2 a3 a4 a5 a6 a7 a8 a9 a10 H.size ms mbef msav misv mpast mpm mthr mways mnds mtkp mline mlm mtxt mlen mat mwr merr mfail mcmd mcm (48 + (v % 10)) (by first | assumption | omega) (by first | assumption | omega) (by first | assumption | omega)) (cwV 1 hts gX11_saysNumber_X11_says rfl rfl rfl (by decide +kernel) ⟨Nat.le_of_ble_eq_true rfl, Nat.le_of_ble_eq_true rfl⟩) hK hP hD hS hA [0, 1, 2, 3, 4, 5, 6, 7, 8, 9, 10] [] [0, 1, 2, 3, 4, 5, 6, 7, 8, 9, 10] rfl rfl (by decide) (by decide) (by decide) (by decide) (fun _ => rfl) (ci := 13) (q0 := 0) rfl rfl rfl rfl rfl hl.1 (Nat.le_of_ble_eq_true rfl) dX11_saysNumber_23 ⟨Nat.le_of_ble_eq_true rfl, Nat.le_of_ble_eq_true rfl⟩ ?_
    intro u H locs p23_1 hP hD hS
    have hP : va_P D vwCl (bModel tA a0 a1 a2 a3 a4 a5 a6 a7 a8 a9 a10 ms mbef msav misv mpast mpm mthr mways mnds mtkp (zU mline mlm (48 + (v % 10))) (mlm + 1) mtxt mlen mat mwr merr mfail mcmd mcm) H := hP
    have hD : va_D A (bModel tA a0 a1 a2 a3 a4 a5 a6 a7 a8 a9 a10 ms mbef msav misv mpast mpm mthr mways mnds mtkp (zU mline mlm (48 + (v % 10))) (mlm + 1) mtxt mlen mat mwr merr mfail mcmd mcm) := hD
    have e_mline : ((zU mline mlm (48 + (v % 10))) : Int → Int) = (wrL mline mlm (dgL v)) := by first | exact say_1 (by omega) (by omega) | exact say_s (by omega) (by omega)
    rw [e_mline] at hP hD
    have e_mlm : ((mlm + 1) : Int) = (mlm + dgN v) := by first | (rw [dgN_1 (x := v) (by omega) (by omega)]) | (rw [dgN_s (x := v) (by omega) (by omega)]; omega)
    rw [e_mlm] at hP hD
    exact hret () _ _ _ _ dX11_saysNumber_26 True.intro hP hD hS
  · refine lv_aload_n hx hb dX11_saysNumber_6 rfl (lv_at hl 0 rfl) ?_
    refine lv_iload_n hx hb dX11_saysNumber_7 rfl (lv_at hl 1 rfl) ?_
    refine zz_bipush hx hb dX11_saysNumber_8 (by decide) ?_
    refine zz_idiv hx hb dX11_saysNumber_10 (by omega) (by omega) ?_
    refine zz_callVv (As := [.int (iI (v / 10))]) (rest := []) (wf := fun u => bModel tA a0 a1 a2 a3 a4 a5 a6 a7 a8 a9 a10 ms mbef msav misv mpast mpm mthr mways mnds mtkp (wrL mline mlm (dgL (v / 10))) (mlm + dgN (v / 10)) mtxt mlen mat mwr merr mfail mcmd mcm) ⟨hx, hb, hml, hown, hts⟩ (c_X11_saysNumber_3 l D tA a0 a1 a2 a3 a4 a5 a6 a7 a8 a9 a10 H.size ms mbef msav misv mpast mpm mthr mways mnds mtkp mline mlm mtxt mlen mat mwr merr mfail mcmd mcm (v / 10) (by first | assumption | omega) (by first | assumption | omega) (by first | assumption | omega)) (cwV 1 hts gX11_saysNumber_X11_saysNumber rfl rfl rfl (by decide +kernel) ⟨Nat.le_of_ble_eq_true rfl, Nat.le_of_ble_eq_true rfl⟩) hK hP hD hS hA [0, 1, 2, 3, 4, 5, 6, 7, 8, 9, 10] [] [0, 1, 2, 3, 4, 5, 6, 7, 8, 9, 10] rfl rfl (by decide) (by decide) (by decide) (by decide) (fun _ => rfl) (ci := 13) (q0 := 0) rfl rfl rfl rfl rfl hl.1 (Nat.le_of_ble_eq_true rfl) dX11_saysNumber_11 ⟨Nat.le_of_ble_eq_true rfl, Nat.le_of_ble_eq_true rfl⟩ ?_
    intro u H locs p11_2 hP hD hS
    have hP : va_P D vwCl (bModel tA a0 a1 a2 a3 a4 a5 a6 a7 a8 a9 a10 ms mbef msav misv mpast mpm mthr mways mnds mtkp (wrL mline mlm (dgL (v / 10))) (mlm + dgN (v / 10)) mtxt mlen mat mwr merr mfail mcmd mcm) H := hP
    have hD : va_D A (bModel tA a0 a1 a2 a3 a4 a5 a6 a7 a8 a9 a10 ms mbef msav misv mpast mpm mthr mways mnds mtkp (wrL mline mlm (dgL (v / 10))) (mlm + dgN (v / 10)) mtxt mlen mat mwr merr mfail mcmd mcm) := hD
    refine lv_aload_n hx hb dX11_saysNumber_14 rfl (lv_at hl 0 rfl) ?_
    refine zz_bipush hx hb dX11_saysNumber_15 (by decide) ?_
    refine lv_iload_n hx hb dX11_saysNumber_17 rfl (lv_at hl 1 rfl) ?_
    refine zz_bipush hx hb dX11_saysNumber_18 (by decide) ?_
    refine zz_irem hx hb dX11_saysNumber_20 (by omega) (by omega) ?_
    refine zz_iadd hx hb dX11_saysNumber_21 ?_
    refine zz_i2c hx hb dX11_saysNumber_22 (by omega) ?_
    refine zz_callVv (As := [.int (iI (48 + (v % 10)))]) (rest := []) (wf := fun u => bModel tA a0 a1 a2 a3 a4 a5 a6 a7 a8 a9 a10 ms mbef msav misv mpast mpm mthr mways mnds mtkp (zU (wrL mline mlm (dgL (v / 10))) (mlm + dgN (v / 10)) (48 + (v % 10))) ((mlm + dgN (v / 10)) + 1) mtxt mlen mat mwr merr mfail mcmd mcm) ⟨hx, hb, hml, hown, hts⟩ (c_X11_says l D tA a0 a1 a2 a3 a4 a5 a6 a7 a8 a9 a10 H.size ms mbef msav misv mpast mpm mthr mways mnds mtkp (wrL mline mlm (dgL (v / 10))) (mlm + dgN (v / 10)) mtxt mlen mat mwr merr mfail mcmd mcm (48 + (v % 10)) (by first | assumption | omega) (by first | assumption | omega) (by first | assumption | omega)) (cwV 1 hts gX11_saysNumber_X11_says rfl rfl rfl (by decide +kernel) ⟨Nat.le_of_ble_eq_true rfl, Nat.le_of_ble_eq_true rfl⟩) hK hP hD hS hA [0, 1, 2, 3, 4, 5, 6, 7, 8, 9, 10] [] [0, 1, 2, 3, 4, 5, 6, 7, 8, 9, 10] rfl rfl (by decide) (by decide) (by decide) (by decide) (fun _ => rfl) (ci := 13) (q0 := 0) rfl rfl rfl rfl rfl hl.1 (Nat.le_of_ble_eq_true rfl) dX11_saysNumber_23 ⟨Nat.le_of_ble_eq_true rfl, Nat.le_of_ble_eq_true rfl⟩ ?_
    intro u H locs p23_3 hP hD hS
    have hP : va_P D vwCl (bModel tA a0 a1 a2 a3 a4 a5 a6 a7 a8 a9 a10 ms mbef msav misv mpast mpm mthr mways mnds mtkp (zU (wrL mline mlm (dgL (v / 10))) (mlm + dgN (v / 10)) (48 + (v % 10))) ((mlm + dgN (v / 10)) + 1) mtxt mlen mat mwr merr mfail mcmd mcm) H := hP
    have hD : va_D A (bModel tA a0 a1 a2 a3 a4 a5 a6 a7 a8 a9 a10 ms mbef msav misv mpast mpm mthr mways mnds mtkp (zU (wrL mline mlm (dgL (v / 10))) (mlm + dgN (v / 10)) (48 + (v % 10))) ((mlm + dgN (v / 10)) + 1) mtxt mlen mat mwr merr mfail mcmd mcm) := hD
    have e_mline : ((zU (wrL mline mlm (dgL (v / 10))) (mlm + dgN (v / 10)) (48 + (v % 10))) : Int → Int) = (wrL mline mlm (dgL v)) := by first | exact say_1 (by omega) (by omega) | exact say_s (by omega) (by omega)
    rw [e_mline] at hP hD
    have e_mlm : (((mlm + dgN (v / 10)) + 1) : Int) = (mlm + dgN v) := by first | (rw [dgN_1 (x := v) (by omega) (by omega)]) | (rw [dgN_s (x := v) (by omega) (by omega)]; omega)
    rw [e_mlm] at hP hD
    exact hret () _ _ _ _ dX11_saysNumber_26 True.intro hP hD hS

set_option maxHeartbeats 4000000 in
set_option maxRecDepth 100000 in
theorem c_X11_saysNumber_5 (l : Launch) (D : va_G) (tA : Nat → ClassId) (a0 a1 a2 a3 a4 a5 a6 a7 a8 a9 a10 : Nat) (sz : Nat) (ms : Int → Int) (mbef : Int → Int) (msav : Int → Int) (misv : Int) (mpast : Int → Int) (mpm : Int) (mthr : Int) (mways : Int → Int) (mnds : Int → Int) (mtkp : Int → Int) (mline : Int → Int) (mlm : Int) (mtxt : Int → Int) (mlen : Int) (mat : Int) (mwr : Int) (merr : Int) (mfail : Int) (mcmd : Int → Int) (mcm : Int) (v : Int) (r_v : -2147483648 ≤ v ∧ v ≤ 2147483647) (hv : 0 ≤ v ∧ v ≤ 99999) (hlm : 0 ≤ mlm ∧ mlm ≤ 30) : zMv l yX11_saysNumber wsX11_saysNumber ({ frames := 5, cells := 0, slots := 0, locals := 120 }) D tA [.ref a0, .int (iI v)] (bModel tA a0 a1 a2 a3 a4 a5 a6 a7 a8 a9 a10 ms mbef msav misv mpast mpm mthr mways mnds mtkp mline mlm mtxt mlen mat mwr merr mfail mcmd mcm) sz (fun (u : Unit) => True) (fun (u : Unit) => bModel tA a0 a1 a2 a3 a4 a5 a6 a7 a8 a9 a10 ms mbef msav misv mpast mpm mthr mways mnds mtkp (wrL mline mlm (dgL v)) (mlm + dgN v) mtxt mlen mat mwr merr mfail mcmd mcm) 0 0 := by
  refine zMv_of (cc := cX11_saysNumber) (maxL := 2) (by decide) rfl (Nat.le_of_ble_eq_true rfl) ?_
  intro p e s m args below meth c A Q ls hx hb hml hts hown hK hP hD hA hret hl
  obtain ⟨H, hHe⟩ : ∃ H : Heap, H = s.heap := ⟨_, rfl⟩
  have hS : va_S A s.heap H [] := by rw [hHe]; exact va_S.rf
  rw [← hHe] at hP ⊢
  have hl : lv_has ls 2 [(0, .ref a0), (1, .int (iI v))] := hl
  have hdn := dgN_in (x := v / 10) (by omega) (by omega)
  refine lv_iload_n hx hb dX11_saysNumber_0 rfl (lv_at hl 1 rfl) ?_
  refine zz_bipush hx hb dX11_saysNumber_1 (by decide) ?_
  refine zz_icmp_le (tgt := 14) hx hb dX11_saysNumber_3 (by decide) (by omega) (by decide) (fun c_3 => ?_) (fun c_3 => ?_)
  · refine lv_aload_n hx hb dX11_saysNumber_14 rfl (lv_at hl 0 rfl) ?_
    refine zz_bipush hx hb dX11_saysNumber_15 (by decide) ?_
    refine lv_iload_n hx hb dX11_saysNumber_17 rfl (lv_at hl 1 rfl) ?_
    refine zz_bipush hx hb dX11_saysNumber_18 (by decide) ?_
    refine zz_irem hx hb dX11_saysNumber_20 (by omega) (by omega) ?_
    refine zz_iadd hx hb dX11_saysNumber_21 ?_
    refine zz_i2c hx hb dX11_saysNumber_22 (by omega) ?_
    refine zz_callVv (As := [.int (iI (48 + (v % 10)))]) (rest := []) (wf := fun u => bModel tA a0 a1 a2 a3 a4 a5 a6 a7 a8 a9 a10 ms mbef msav misv mpast mpm mthr mways mnds mtkp (zU mline mlm (48 + (v % 10))) (mlm + 1) mtxt mlen mat mwr merr mfail mcmd mcm) ⟨hx, hb, hml, hown, hts⟩ (c_X11_says l D tA a0 a1 a2 a3 a4 a5 a6 a7 a8 a9 a10 H.size ms mbef msav misv mpast mpm mthr mways mnds mtkp mline mlm mtxt mlen mat mwr merr mfail mcmd mcm (48 + (v % 10)) (by first | assumption | omega) (by first | assumption | omega) (by first | assumption | omega)) (cwV 1 hts gX11_saysNumber_X11_says rfl rfl rfl (by decide +kernel) ⟨Nat.le_of_ble_eq_true rfl, Nat.le_of_ble_eq_true rfl⟩) hK hP hD hS hA [0, 1, 2, 3, 4, 5, 6, 7, 8, 9, 10] [] [0, 1, 2, 3, 4, 5, 6, 7, 8, 9, 10] rfl rfl (by decide) (by decide) (by decide) (by decide) (fun _ => rfl) (ci := 13) (q0 := 0) rfl rfl rfl rfl rfl hl.1 (Nat.le_of_ble_eq_true rfl) dX11_saysNumber_23 ⟨Nat.le_of_ble_eq_true rfl, Nat.le_of_ble_eq_true rfl⟩ ?_
    intro u H locs p23_1 hP hD hS
    have hP : va_P D vwCl (bModel tA a0 a1 a2 a3 a4 a5 a6 a7 a8 a9 a10 ms mbef msav misv mpast mpm mthr mways mnds mtkp (zU mline mlm (48 + (v % 10))) (mlm + 1) mtxt mlen mat mwr merr mfail mcmd mcm) H := hP
    have hD : va_D A (bModel tA a0 a1 a2 a3 a4 a5 a6 a7 a8 a9 a10 ms mbef msav misv mpast mpm mthr mways mnds mtkp (zU mline mlm (48 + (v % 10))) (mlm + 1) mtxt mlen mat mwr merr mfail mcmd mcm) := hD
    have e_mline : ((zU mline mlm (48 + (v % 10))) : Int → Int) = (wrL mline mlm (dgL v)) := by first | exact say_1 (by omega) (by omega) | exact say_s (by omega) (by omega)
    rw [e_mline] at hP hD
    have e_mlm : ((mlm + 1) : Int) = (mlm + dgN v) := by first | (rw [dgN_1 (x := v) (by omega) (by omega)]) | (rw [dgN_s (x := v) (by omega) (by omega)]; omega)
    rw [e_mlm] at hP hD
    exact hret () _ _ _ _ dX11_saysNumber_26 True.intro hP hD hS
  · refine lv_aload_n hx hb dX11_saysNumber_6 rfl (lv_at hl 0 rfl) ?_
    refine lv_iload_n hx hb dX11_saysNumber_7 rfl (lv_at hl 1 rfl) ?_
    refine zz_bipush hx hb dX11_saysNumber_8 (by decide) ?_
    refine zz_idiv hx hb dX11_saysNumber_10 (by omega) (by omega) ?_
    refine zz_callVv (As := [.int (iI (v / 10))]) (rest := []) (wf := fun u => bModel tA a0 a1 a2 a3 a4 a5 a6 a7 a8 a9 a10 ms mbef msav misv mpast mpm mthr mways mnds mtkp (wrL mline mlm (dgL (v / 10))) (mlm + dgN (v / 10)) mtxt mlen mat mwr merr mfail mcmd mcm) ⟨hx, hb, hml, hown, hts⟩ (c_X11_saysNumber_4 l D tA a0 a1 a2 a3 a4 a5 a6 a7 a8 a9 a10 H.size ms mbef msav misv mpast mpm mthr mways mnds mtkp mline mlm mtxt mlen mat mwr merr mfail mcmd mcm (v / 10) (by first | assumption | omega) (by first | assumption | omega) (by first | assumption | omega)) (cwV 1 hts gX11_saysNumber_X11_saysNumber rfl rfl rfl (by decide +kernel) ⟨Nat.le_of_ble_eq_true rfl, Nat.le_of_ble_eq_true rfl⟩) hK hP hD hS hA [0, 1, 2, 3, 4, 5, 6, 7, 8, 9, 10] [] [0, 1, 2, 3, 4, 5, 6, 7, 8, 9, 10] rfl rfl (by decide) (by decide) (by decide) (by decide) (fun _ => rfl) (ci := 13) (q0 := 0) rfl rfl rfl rfl rfl hl.1 (Nat.le_of_ble_eq_true rfl) dX11_saysNumber_11 ⟨Nat.le_of_ble_eq_true rfl, Nat.le_of_ble_eq_true rfl⟩ ?_
    intro u H locs p11_2 hP hD hS
    have hP : va_P D vwCl (bModel tA a0 a1 a2 a3 a4 a5 a6 a7 a8 a9 a10 ms mbef msav misv mpast mpm mthr mways mnds mtkp (wrL mline mlm (dgL (v / 10))) (mlm + dgN (v / 10)) mtxt mlen mat mwr merr mfail mcmd mcm) H := hP
    have hD : va_D A (bModel tA a0 a1 a2 a3 a4 a5 a6 a7 a8 a9 a10 ms mbef msav misv mpast mpm mthr mways mnds mtkp (wrL mline mlm (dgL (v / 10))) (mlm + dgN (v / 10)) mtxt mlen mat mwr merr mfail mcmd mcm) := hD
    refine lv_aload_n hx hb dX11_saysNumber_14 rfl (lv_at hl 0 rfl) ?_
    refine zz_bipush hx hb dX11_saysNumber_15 (by decide) ?_
    refine lv_iload_n hx hb dX11_saysNumber_17 rfl (lv_at hl 1 rfl) ?_
    refine zz_bipush hx hb dX11_saysNumber_18 (by decide) ?_
    refine zz_irem hx hb dX11_saysNumber_20 (by omega) (by omega) ?_
    refine zz_iadd hx hb dX11_saysNumber_21 ?_
    refine zz_i2c hx hb dX11_saysNumber_22 (by omega) ?_
    refine zz_callVv (As := [.int (iI (48 + (v % 10)))]) (rest := []) (wf := fun u => bModel tA a0 a1 a2 a3 a4 a5 a6 a7 a8 a9 a10 ms mbef msav misv mpast mpm mthr mways mnds mtkp (zU (wrL mline mlm (dgL (v / 10))) (mlm + dgN (v / 10)) (48 + (v % 10))) ((mlm + dgN (v / 10)) + 1) mtxt mlen mat mwr merr mfail mcmd mcm) ⟨hx, hb, hml, hown, hts⟩ (c_X11_says l D tA a0 a1 a2 a3 a4 a5 a6 a7 a8 a9 a10 H.size ms mbef msav misv mpast mpm mthr mways mnds mtkp (wrL mline mlm (dgL (v / 10))) (mlm + dgN (v / 10)) mtxt mlen mat mwr merr mfail mcmd mcm (48 + (v % 10)) (by first | assumption | omega) (by first | assumption | omega) (by first | assumption | omega)) (cwV 1 hts gX11_saysNumber_X11_says rfl rfl rfl (by decide +kernel) ⟨Nat.le_of_ble_eq_true rfl, Nat.le_of_ble_eq_true rfl⟩) hK hP hD hS hA [0, 1, 2, 3, 4, 5, 6, 7, 8, 9, 10] [] [0, 1, 2, 3, 4, 5, 6, 7, 8, 9, 10] rfl rfl (by decide) (by decide) (by decide) (by decide) (fun _ => rfl) (ci := 13) (q0 := 0) rfl rfl rfl rfl rfl hl.1 (Nat.le_of_ble_eq_true rfl) dX11_saysNumber_23 ⟨Nat.le_of_ble_eq_true rfl, Nat.le_of_ble_eq_true rfl⟩ ?_
    intro u H locs p23_3 hP hD hS
    have hP : va_P D vwCl (bModel tA a0 a1 a2 a3 a4 a5 a6 a7 a8 a9 a10 ms mbef msav misv mpast mpm mthr mways mnds mtkp (zU (wrL mline mlm (dgL (v / 10))) (mlm + dgN (v / 10)) (48 + (v % 10))) ((mlm + dgN (v / 10)) + 1) mtxt mlen mat mwr merr mfail mcmd mcm) H := hP
    have hD : va_D A (bModel tA a0 a1 a2 a3 a4 a5 a6 a7 a8 a9 a10 ms mbef msav misv mpast mpm mthr mways mnds mtkp (zU (wrL mline mlm (dgL (v / 10))) (mlm + dgN (v / 10)) (48 + (v % 10))) ((mlm + dgN (v / 10)) + 1) mtxt mlen mat mwr merr mfail mcmd mcm) := hD
    have e_mline : ((zU (wrL mline mlm (dgL (v / 10))) (mlm + dgN (v / 10)) (48 + (v % 10))) : Int → Int) = (wrL mline mlm (dgL v)) := by first | exact say_1 (by omega) (by omega) | exact say_s (by omega) (by omega)
    rw [e_mline] at hP hD
    have e_mlm : (((mlm + dgN (v / 10)) + 1) : Int) = (mlm + dgN v) := by first | (rw [dgN_1 (x := v) (by omega) (by omega)]) | (rw [dgN_s (x := v) (by omega) (by omega)]; omega)
    rw [e_mlm] at hP hD
    exact hret () _ _ _ _ dX11_saysNumber_26 True.intro hP hD hS

set_option maxHeartbeats 4000000 in
set_option maxRecDepth 100000 in
theorem c_X11_saysNumber_6 (l : Launch) (D : va_G) (tA : Nat → ClassId) (a0 a1 a2 a3 a4 a5 a6 a7 a8 a9 a10 : Nat) (sz : Nat) (ms : Int → Int) (mbef : Int → Int) (msav : Int → Int) (misv : Int) (mpast : Int → Int) (mpm : Int) (mthr : Int) (mways : Int → Int) (mnds : Int → Int) (mtkp : Int → Int) (mline : Int → Int) (mlm : Int) (mtxt : Int → Int) (mlen : Int) (mat : Int) (mwr : Int) (merr : Int) (mfail : Int) (mcmd : Int → Int) (mcm : Int) (v : Int) (r_v : -2147483648 ≤ v ∧ v ≤ 2147483647) (hv : 0 ≤ v ∧ v ≤ 999999) (hlm : 0 ≤ mlm ∧ mlm ≤ 30) : zMv l yX11_saysNumber wsX11_saysNumber ({ frames := 6, cells := 0, slots := 0, locals := 144 }) D tA [.ref a0, .int (iI v)] (bModel tA a0 a1 a2 a3 a4 a5 a6 a7 a8 a9 a10 ms mbef msav misv mpast mpm mthr mways mnds mtkp mline mlm mtxt mlen mat mwr merr mfail mcmd mcm) sz (fun (u : Unit) => True) (fun (u : Unit) => bModel tA a0 a1 a2 a3 a4 a5 a6 a7 a8 a9 a10 ms mbef msav misv mpast mpm mthr mways mnds mtkp (wrL mline mlm (dgL v)) (mlm + dgN v) mtxt mlen mat mwr merr mfail mcmd mcm) 0 0 := by
  refine zMv_of (cc := cX11_saysNumber) (maxL := 2) (by decide) rfl (Nat.le_of_ble_eq_true rfl) ?_
  intro p e s m args below meth c A Q ls hx hb hml hts hown hK hP hD hA hret hl
  obtain ⟨H, hHe⟩ : ∃ H : Heap, H = s.heap := ⟨_, rfl⟩
  have hS : va_S A s.heap H [] := by rw [hHe]; exact va_S.rf
  rw [← hHe] at hP ⊢
  have hl : lv_has ls 2 [(0, .ref a0), (1, .int (iI v))] := hl
  have hdn := dgN_in (x := v / 10) (by omega) (by omega)
  refine lv_iload_n hx hb dX11_saysNumber_0 rfl (lv_at hl 1 rfl) ?_
  refine zz_bipush hx hb dX11_saysNumber_1 (by decide) ?_
  refine zz_icmp_le (tgt := 14) hx hb dX11_saysNumber_3 (by decide) (by omega) (by decide) (fun c_3 => ?_) (fun c_3 => ?_)
  · refine lv_aload_n hx hb dX11_saysNumber_14 rfl (lv_at hl 0 rfl) ?_
    refine zz_bipush hx hb dX11_saysNumber_15 (by decide) ?_
    refine lv_iload_n hx hb dX11_saysNumber_17 rfl (lv_at hl 1 rfl) ?_
    refine zz_bipush hx hb dX11_saysNumber_18 (by decide) ?_
    refine zz_irem hx hb dX11_saysNumber_20 (by omega) (by omega) ?_
    refine zz_iadd hx hb dX11_saysNumber_21 ?_
    refine zz_i2c hx hb dX11_saysNumber_22 (by omega) ?_
    refine zz_callVv (As := [.int (iI (48 + (v % 10)))]) (rest := []) (wf := fun u => bModel tA a0 a1 a2 a3 a4 a5 a6 a7 a8 a9 a10 ms mbef msav misv mpast mpm mthr mways mnds mtkp (zU mline mlm (48 + (v % 10))) (mlm + 1) mtxt mlen mat mwr merr mfail mcmd mcm) ⟨hx, hb, hml, hown, hts⟩ (c_X11_says l D tA a0 a1 a2 a3 a4 a5 a6 a7 a8 a9 a10 H.size ms mbef msav misv mpast mpm mthr mways mnds mtkp mline mlm mtxt mlen mat mwr merr mfail mcmd mcm (48 + (v % 10)) (by first | assumption | omega) (by first | assumption | omega) (by first | assumption | omega)) (cwV 1 hts gX11_saysNumber_X11_says rfl rfl rfl (by decide +kernel) ⟨Nat.le_of_ble_eq_true rfl, Nat.le_of_ble_eq_true rfl⟩) hK hP hD hS hA [0, 1, 2, 3, 4, 5, 6, 7, 8, 9, 10] [] [0, 1, 2, 3, 4, 5, 6, 7, 8, 9, 10] rfl rfl (by decide) (by decide) (by decide) (by decide) (fun _ => rfl) (ci := 13) (q0 := 0) rfl rfl rfl rfl rfl hl.1 (Nat.le_of_ble_eq_true rfl) dX11_saysNumber_23 ⟨Nat.le_of_ble_eq_true rfl, Nat.le_of_ble_eq_true rfl⟩ ?_
    intro u H locs p23_1 hP hD hS
    have hP : va_P D vwCl (bModel tA a0 a1 a2 a3 a4 a5 a6 a7 a8 a9 a10 ms mbef msav misv mpast mpm mthr mways mnds mtkp (zU mline mlm (48 + (v % 10))) (mlm + 1) mtxt mlen mat mwr merr mfail mcmd mcm) H := hP
    have hD : va_D A (bModel tA a0 a1 a2 a3 a4 a5 a6 a7 a8 a9 a10 ms mbef msav misv mpast mpm mthr mways mnds mtkp (zU mline mlm (48 + (v % 10))) (mlm + 1) mtxt mlen mat mwr merr mfail mcmd mcm) := hD
    have e_mline : ((zU mline mlm (48 + (v % 10))) : Int → Int) = (wrL mline mlm (dgL v)) := by first | exact say_1 (by omega) (by omega) | exact say_s (by omega) (by omega)
    rw [e_mline] at hP hD
    have e_mlm : ((mlm + 1) : Int) = (mlm + dgN v) := by first | (rw [dgN_1 (x := v) (by omega) (by omega)]) | (rw [dgN_s (x := v) (by omega) (by omega)]; omega)
    rw [e_mlm] at hP hD
    exact hret () _ _ _ _ dX11_saysNumber_26 True.intro hP hD hS
  · refine lv_aload_n hx hb dX11_saysNumber_6 rfl (lv_at hl 0 rfl) ?_
    refine lv_iload_n hx hb dX11_saysNumber_7 rfl (lv_at hl 1 rfl) ?_
    refine zz_bipush hx hb dX11_saysNumber_8 (by decide) ?_
    refine zz_idiv hx hb dX11_saysNumber_10 (by omega) (by omega) ?_
    refine zz_callVv (As := [.int (iI (v / 10))]) (rest := []) (wf := fun u => bModel tA a0 a1 a2 a3 a4 a5 a6 a7 a8 a9 a10 ms mbef msav misv mpast mpm mthr mways mnds mtkp (wrL mline mlm (dgL (v / 10))) (mlm + dgN (v / 10)) mtxt mlen mat mwr merr mfail mcmd mcm) ⟨hx, hb, hml, hown, hts⟩ (c_X11_saysNumber_5 l D tA a0 a1 a2 a3 a4 a5 a6 a7 a8 a9 a10 H.size ms mbef msav misv mpast mpm mthr mways mnds mtkp mline mlm mtxt mlen mat mwr merr mfail mcmd mcm (v / 10) (by first | assumption | omega) (by first | assumption | omega) (by first | assumption | omega)) (cwV 1 hts gX11_saysNumber_X11_saysNumber rfl rfl rfl (by decide +kernel) ⟨Nat.le_of_ble_eq_true rfl, Nat.le_of_ble_eq_true rfl⟩) hK hP hD hS hA [0, 1, 2, 3, 4, 5, 6, 7, 8, 9, 10] [] [0, 1, 2, 3, 4, 5, 6, 7, 8, 9, 10] rfl rfl (by decide) (by decide) (by decide) (by decide) (fun _ => rfl) (ci := 13) (q0 := 0) rfl rfl rfl rfl rfl hl.1 (Nat.le_of_ble_eq_true rfl) dX11_saysNumber_11 ⟨Nat.le_of_ble_eq_true rfl, Nat.le_of_ble_eq_true rfl⟩ ?_
    intro u H locs p11_2 hP hD hS
    have hP : va_P D vwCl (bModel tA a0 a1 a2 a3 a4 a5 a6 a7 a8 a9 a10 ms mbef msav misv mpast mpm mthr mways mnds mtkp (wrL mline mlm (dgL (v / 10))) (mlm + dgN (v / 10)) mtxt mlen mat mwr merr mfail mcmd mcm) H := hP
    have hD : va_D A (bModel tA a0 a1 a2 a3 a4 a5 a6 a7 a8 a9 a10 ms mbef msav misv mpast mpm mthr mways mnds mtkp (wrL mline mlm (dgL (v / 10))) (mlm + dgN (v / 10)) mtxt mlen mat mwr merr mfail mcmd mcm) := hD
    refine lv_aload_n hx hb dX11_saysNumber_14 rfl (lv_at hl 0 rfl) ?_
    refine zz_bipush hx hb dX11_saysNumber_15 (by decide) ?_
    refine lv_iload_n hx hb dX11_saysNumber_17 rfl (lv_at hl 1 rfl) ?_
    refine zz_bipush hx hb dX11_saysNumber_18 (by decide) ?_
    refine zz_irem hx hb dX11_saysNumber_20 (by omega) (by omega) ?_
    refine zz_iadd hx hb dX11_saysNumber_21 ?_
    refine zz_i2c hx hb dX11_saysNumber_22 (by omega) ?_
    refine zz_callVv (As := [.int (iI (48 + (v % 10)))]) (rest := []) (wf := fun u => bModel tA a0 a1 a2 a3 a4 a5 a6 a7 a8 a9 a10 ms mbef msav misv mpast mpm mthr mways mnds mtkp (zU (wrL mline mlm (dgL (v / 10))) (mlm + dgN (v / 10)) (48 + (v % 10))) ((mlm + dgN (v / 10)) + 1) mtxt mlen mat mwr merr mfail mcmd mcm) ⟨hx, hb, hml, hown, hts⟩ (c_X11_says l D tA a0 a1 a2 a3 a4 a5 a6 a7 a8 a9 a10 H.size ms mbef msav misv mpast mpm mthr mways mnds mtkp (wrL mline mlm (dgL (v / 10))) (mlm + dgN (v / 10)) mtxt mlen mat mwr merr mfail mcmd mcm (48 + (v % 10)) (by first | assumption | omega) (by first | assumption | omega) (by first | assumption | omega)) (cwV 1 hts gX11_saysNumber_X11_says rfl rfl rfl (by decide +kernel) ⟨Nat.le_of_ble_eq_true rfl, Nat.le_of_ble_eq_true rfl⟩) hK hP hD hS hA [0, 1, 2, 3, 4, 5, 6, 7, 8, 9, 10] [] [0, 1, 2, 3, 4, 5, 6, 7, 8, 9, 10] rfl rfl (by decide) (by decide) (by decide) (by decide) (fun _ => rfl) (ci := 13) (q0 := 0) rfl rfl rfl rfl rfl hl.1 (Nat.le_of_ble_eq_true rfl) dX11_saysNumber_23 ⟨Nat.le_of_ble_eq_true rfl, Nat.le_of_ble_eq_true rfl⟩ ?_
    intro u H locs p23_3 hP hD hS
    have hP : va_P D vwCl (bModel tA a0 a1 a2 a3 a4 a5 a6 a7 a8 a9 a10 ms mbef msav misv mpast mpm mthr mways mnds mtkp (zU (wrL mline mlm (dgL (v / 10))) (mlm + dgN (v / 10)) (48 + (v % 10))) ((mlm + dgN (v / 10)) + 1) mtxt mlen mat mwr merr mfail mcmd mcm) H := hP
    have hD : va_D A (bModel tA a0 a1 a2 a3 a4 a5 a6 a7 a8 a9 a10 ms mbef msav misv mpast mpm mthr mways mnds mtkp (zU (wrL mline mlm (dgL (v / 10))) (mlm + dgN (v / 10)) (48 + (v % 10))) ((mlm + dgN (v / 10)) + 1) mtxt mlen mat mwr merr mfail mcmd mcm) := hD
    have e_mline : ((zU (wrL mline mlm (dgL (v / 10))) (mlm + dgN (v / 10)) (48 + (v % 10))) : Int → Int) = (wrL mline mlm (dgL v)) := by first | exact say_1 (by omega) (by omega) | exact say_s (by omega) (by omega)
    rw [e_mline] at hP hD
    have e_mlm : (((mlm + dgN (v / 10)) + 1) : Int) = (mlm + dgN v) := by first | (rw [dgN_1 (x := v) (by omega) (by omega)]) | (rw [dgN_s (x := v) (by omega) (by omega)]; omega)
    rw [e_mlm] at hP hD
    exact hret () _ _ _ _ dX11_saysNumber_26 True.intro hP hD hS

set_option maxHeartbeats 4000000 in
set_option maxRecDepth 100000 in
theorem c_X11_saysNumber_7 (l : Launch) (D : va_G) (tA : Nat → ClassId) (a0 a1 a2 a3 a4 a5 a6 a7 a8 a9 a10 : Nat) (sz : Nat) (ms : Int → Int) (mbef : Int → Int) (msav : Int → Int) (misv : Int) (mpast : Int → Int) (mpm : Int) (mthr : Int) (mways : Int → Int) (mnds : Int → Int) (mtkp : Int → Int) (mline : Int → Int) (mlm : Int) (mtxt : Int → Int) (mlen : Int) (mat : Int) (mwr : Int) (merr : Int) (mfail : Int) (mcmd : Int → Int) (mcm : Int) (v : Int) (r_v : -2147483648 ≤ v ∧ v ≤ 2147483647) (hv : 0 ≤ v ∧ v ≤ 9999999) (hlm : 0 ≤ mlm ∧ mlm ≤ 30) : zMv l yX11_saysNumber wsX11_saysNumber ({ frames := 7, cells := 0, slots := 0, locals := 168 }) D tA [.ref a0, .int (iI v)] (bModel tA a0 a1 a2 a3 a4 a5 a6 a7 a8 a9 a10 ms mbef msav misv mpast mpm mthr mways mnds mtkp mline mlm mtxt mlen mat mwr merr mfail mcmd mcm) sz (fun (u : Unit) => True) (fun (u : Unit) => bModel tA a0 a1 a2 a3 a4 a5 a6 a7 a8 a9 a10 ms mbef msav misv mpast mpm mthr mways mnds mtkp (wrL mline mlm (dgL v)) (mlm + dgN v) mtxt mlen mat mwr merr mfail mcmd mcm) 0 0 := by
  refine zMv_of (cc := cX11_saysNumber) (maxL := 2) (by decide) rfl (Nat.le_of_ble_eq_true rfl) ?_
  intro p e s m args below meth c A Q ls hx hb hml hts hown hK hP hD hA hret hl
  obtain ⟨H, hHe⟩ : ∃ H : Heap, H = s.heap := ⟨_, rfl⟩
  have hS : va_S A s.heap H [] := by rw [hHe]; exact va_S.rf
  rw [← hHe] at hP ⊢
  have hl : lv_has ls 2 [(0, .ref a0), (1, .int (iI v))] := hl
  have hdn := dgN_in (x := v / 10) (by omega) (by omega)
  refine lv_iload_n hx hb dX11_saysNumber_0 rfl (lv_at hl 1 rfl) ?_
  refine zz_bipush hx hb dX11_saysNumber_1 (by decide) ?_
  refine zz_icmp_le (tgt := 14) hx hb dX11_saysNumber_3 (by decide) (by omega) (by decide) (fun c_3 => ?_) (fun c_3 => ?_)
  · refine lv_aload_n hx hb dX11_saysNumber_14 rfl (lv_at hl 0 rfl) ?_
    refine zz_bipush hx hb dX11_saysNumber_15 (by decide) ?_
    refine lv_iload_n hx hb dX11_saysNumber_17 rfl (lv_at hl 1 rfl) ?_
    refine zz_bipush hx hb dX11_saysNumber_18 (by decide) ?_
    refine zz_irem hx hb dX11_saysNumber_20 (by omega) (by omega) ?_
    refine zz_iadd hx hb dX11_saysNumber_21 ?_
    refine zz_i2c hx hb dX11_saysNumber_22 (by omega) ?_
    refine zz_callVv (As := [.int (iI (48 + (v % 10)))]) (rest := []) (wf := fun u => bModel tA a0 a1 a2 a3 a4 a5 a6 a7 a8 a9 a10 ms mbef msav misv mpast mpm mthr mways mnds mtkp (zU mline mlm (48 + (v % 10))) (mlm + 1) mtxt mlen mat mwr merr mfail mcmd mcm) ⟨hx, hb, hml, hown, hts⟩ (c_X11_says l D tA a0 a1 a2 a3 a4 a5 a6 a7 a8 a9 a10 H.size ms mbef msav misv mpast mpm mthr mways mnds mtkp mline mlm mtxt mlen mat mwr merr mfail mcmd mcm (48 + (v % 10)) (by first | assumption | omega) (by first | assumption | omega) (by first | assumption | omega)) (cwV 1 hts gX11_saysNumber_X11_says rfl rfl rfl (by decide +kernel) ⟨Nat.le_of_ble_eq_true rfl, Nat.le_of_ble_eq_true rfl⟩) hK hP hD hS hA [0, 1, 2, 3, 4, 5, 6, 7, 8, 9, 10] [] [0, 1, 2, 3, 4, 5, 6, 7, 8, 9, 10] rfl rfl (by decide) (by decide) (by decide) (by decide) (fun _ => rfl) (ci := 13) (q0 := 0) rfl rfl rfl rfl rfl hl.1 (Nat.le_of_ble_eq_true rfl) dX11_saysNumber_23 ⟨Nat.le_of_ble_eq_true rfl, Nat.le_of_ble_eq_true rfl⟩ ?_
    intro u H locs p23_1 hP hD hS
    have hP : va_P D vwCl (bModel tA a0 a1 a2 a3 a4 a5 a6 a7 a8 a9 a10 ms mbef msav misv mpast mpm mthr mways mnds mtkp (zU mline mlm (48 + (v % 10))) (mlm + 1) mtxt mlen mat mwr merr mfail mcmd mcm) H := hP
    have hD : va_D A (bModel tA a0 a1 a2 a3 a4 a5 a6 a7 a8 a9 a10 ms mbef msav misv mpast mpm mthr mways mnds mtkp (zU mline mlm (48 + (v % 10))) (mlm + 1) mtxt mlen mat mwr merr mfail mcmd mcm) := hD
    have e_mline : ((zU mline mlm (48 + (v % 10))) : Int → Int) = (wrL mline mlm (dgL v)) := by first | exact say_1 (by omega) (by omega) | exact say_s (by omega) (by omega)
    rw [e_mline] at hP hD
    have e_mlm : ((mlm + 1) : Int) = (mlm + dgN v) := by first | (rw [dgN_1 (x := v) (by omega) (by omega)]) | (rw [dgN_s (x := v) (by omega) (by omega)]; omega)
    rw [e_mlm] at hP hD
    exact hret () _ _ _ _ dX11_saysNumber_26 True.intro hP hD hS
  · refine lv_aload_n hx hb dX11_saysNumber_6 rfl (lv_at hl 0 rfl) ?_
    refine lv_iload_n hx hb dX11_saysNumber_7 rfl (lv_at hl 1 rfl) ?_
    refine zz_bipush hx hb dX11_saysNumber_8 (by decide) ?_
    refine zz_idiv hx hb dX11_saysNumber_10 (by omega) (by omega) ?_
    refine zz_callVv (As := [.int (iI (v / 10))]) (rest := []) (wf := fun u => bModel tA a0 a1 a2 a3 a4 a5 a6 a7 a8 a9 a10 ms mbef msav misv mpast mpm mthr mways mnds mtkp (wrL mline mlm (dgL (v / 10))) (mlm + dgN (v / 10)) mtxt mlen mat mwr merr mfail mcmd mcm) ⟨hx, hb, hml, hown, hts⟩ (c_X11_saysNumber_6 l D tA a0 a1 a2 a3 a4 a5 a6 a7 a8 a9 a10 H.size ms mbef msav misv mpast mpm mthr mways mnds mtkp mline mlm mtxt mlen mat mwr merr mfail mcmd mcm (v / 10) (by first | assumption | omega) (by first | assumption | omega) (by first | assumption | omega)) (cwV 1 hts gX11_saysNumber_X11_saysNumber rfl rfl rfl (by decide +kernel) ⟨Nat.le_of_ble_eq_true rfl, Nat.le_of_ble_eq_true rfl⟩) hK hP hD hS hA [0, 1, 2, 3, 4, 5, 6, 7, 8, 9, 10] [] [0, 1, 2, 3, 4, 5, 6, 7, 8, 9, 10] rfl rfl (by decide) (by decide) (by decide) (by decide) (fun _ => rfl) (ci := 13) (q0 := 0) rfl rfl rfl rfl rfl hl.1 (Nat.le_of_ble_eq_true rfl) dX11_saysNumber_11 ⟨Nat.le_of_ble_eq_true rfl, Nat.le_of_ble_eq_true rfl⟩ ?_
    intro u H locs p11_2 hP hD hS
    have hP : va_P D vwCl (bModel tA a0 a1 a2 a3 a4 a5 a6 a7 a8 a9 a10 ms mbef msav misv mpast mpm mthr mways mnds mtkp (wrL mline mlm (dgL (v / 10))) (mlm + dgN (v / 10)) mtxt mlen mat mwr merr mfail mcmd mcm) H := hP
    have hD : va_D A (bModel tA a0 a1 a2 a3 a4 a5 a6 a7 a8 a9 a10 ms mbef msav misv mpast mpm mthr mways mnds mtkp (wrL mline mlm (dgL (v / 10))) (mlm + dgN (v / 10)) mtxt mlen mat mwr merr mfail mcmd mcm) := hD
    refine lv_aload_n hx hb dX11_saysNumber_14 rfl (lv_at hl 0 rfl) ?_
    refine zz_bipush hx hb dX11_saysNumber_15 (by decide) ?_
    refine lv_iload_n hx hb dX11_saysNumber_17 rfl (lv_at hl 1 rfl) ?_
    refine zz_bipush hx hb dX11_saysNumber_18 (by decide) ?_
    refine zz_irem hx hb dX11_saysNumber_20 (by omega) (by omega) ?_
    refine zz_iadd hx hb dX11_saysNumber_21 ?_
    refine zz_i2c hx hb dX11_saysNumber_22 (by omega) ?_
    refine zz_callVv (As := [.int (iI (48 + (v % 10)))]) (rest := []) (wf := fun u => bModel tA a0 a1 a2 a3 a4 a5 a6 a7 a8 a9 a10 ms mbef msav misv mpast mpm mthr mways mnds mtkp (zU (wrL mline mlm (dgL (v / 10))) (mlm + dgN (v / 10)) (48 + (v % 10))) ((mlm + dgN (v / 10)) + 1) mtxt mlen mat mwr merr mfail mcmd mcm) ⟨hx, hb, hml, hown, hts⟩ (c_X11_says l D tA a0 a1 a2 a3 a4 a5 a6 a7 a8 a9 a10 H.size ms mbef msav misv mpast mpm mthr mways mnds mtkp (wrL mline mlm (dgL (v / 10))) (mlm + dgN (v / 10)) mtxt mlen mat mwr merr mfail mcmd mcm (48 + (v % 10)) (by first | assumption | omega) (by first | assumption | omega) (by first | assumption | omega)) (cwV 1 hts gX11_saysNumber_X11_says rfl rfl rfl (by decide +kernel) ⟨Nat.le_of_ble_eq_true rfl, Nat.le_of_ble_eq_true rfl⟩) hK hP hD hS hA [0, 1, 2, 3, 4, 5, 6, 7, 8, 9, 10] [] [0, 1, 2, 3, 4, 5, 6, 7, 8, 9, 10] rfl rfl (by decide) (by decide) (by decide) (by decide) (fun _ => rfl) (ci := 13) (q0 := 0) rfl rfl rfl rfl rfl hl.1 (Nat.le_of_ble_eq_true rfl) dX11_saysNumber_23 ⟨Nat.le_of_ble_eq_true rfl, Nat.le_of_ble_eq_true rfl⟩ ?_
    intro u H locs p23_3 hP hD hS
    have hP : va_P D vwCl (bModel tA a0 a1 a2 a3 a4 a5 a6 a7 a8 a9 a10 ms mbef msav misv mpast mpm mthr mways mnds mtkp (zU (wrL mline mlm (dgL (v / 10))) (mlm + dgN (v / 10)) (48 + (v % 10))) ((mlm + dgN (v / 10)) + 1) mtxt mlen mat mwr merr mfail mcmd mcm) H := hP
    have hD : va_D A (bModel tA a0 a1 a2 a3 a4 a5 a6 a7 a8 a9 a10 ms mbef msav misv mpast mpm mthr mways mnds mtkp (zU (wrL mline mlm (dgL (v / 10))) (mlm + dgN (v / 10)) (48 + (v % 10))) ((mlm + dgN (v / 10)) + 1) mtxt mlen mat mwr merr mfail mcmd mcm) := hD
    have e_mline : ((zU (wrL mline mlm (dgL (v / 10))) (mlm + dgN (v / 10)) (48 + (v % 10))) : Int → Int) = (wrL mline mlm (dgL v)) := by first | exact say_1 (by omega) (by omega) | exact say_s (by omega) (by omega)
    rw [e_mline] at hP hD
    have e_mlm : (((mlm + dgN (v / 10)) + 1) : Int) = (mlm + dgN v) := by first | (rw [dgN_1 (x := v) (by omega) (by omega)]) | (rw [dgN_s (x := v) (by omega) (by omega)]; omega)
    rw [e_mlm] at hP hD
    exact hret () _ _ _ _ dX11_saysNumber_26 True.intro hP hD hS

set_option maxHeartbeats 4000000 in
set_option maxRecDepth 100000 in
theorem c_X11_saysNumber_8 (l : Launch) (D : va_G) (tA : Nat → ClassId) (a0 a1 a2 a3 a4 a5 a6 a7 a8 a9 a10 : Nat) (sz : Nat) (ms : Int → Int) (mbef : Int → Int) (msav : Int → Int) (misv : Int) (mpast : Int → Int) (mpm : Int) (mthr : Int) (mways : Int → Int) (mnds : Int → Int) (mtkp : Int → Int) (mline : Int → Int) (mlm : Int) (mtxt : Int → Int) (mlen : Int) (mat : Int) (mwr : Int) (merr : Int) (mfail : Int) (mcmd : Int → Int) (mcm : Int) (v : Int) (r_v : -2147483648 ≤ v ∧ v ≤ 2147483647) (hv : 0 ≤ v ∧ v ≤ 99999999) (hlm : 0 ≤ mlm ∧ mlm ≤ 30) : zMv l yX11_saysNumber wsX11_saysNumber ({ frames := 8, cells := 0, slots := 0, locals := 192 }) D tA [.ref a0, .int (iI v)] (bModel tA a0 a1 a2 a3 a4 a5 a6 a7 a8 a9 a10 ms mbef msav misv mpast mpm mthr mways mnds mtkp mline mlm mtxt mlen mat mwr merr mfail mcmd mcm) sz (fun (u : Unit) => True) (fun (u : Unit) => bModel tA a0 a1 a2 a3 a4 a5 a6 a7 a8 a9 a10 ms mbef msav misv mpast mpm mthr mways mnds mtkp (wrL mline mlm (dgL v)) (mlm + dgN v) mtxt mlen mat mwr merr mfail mcmd mcm) 0 0 := by
  refine zMv_of (cc := cX11_saysNumber) (maxL := 2) (by decide) rfl (Nat.le_of_ble_eq_true rfl) ?_
  intro p e s m args below meth c A Q ls hx hb hml hts hown hK hP hD hA hret hl
  obtain ⟨H, hHe⟩ : ∃ H : Heap, H = s.heap := ⟨_, rfl⟩
  have hS : va_S A s.heap H [] := by rw [hHe]; exact va_S.rf
  rw [← hHe] at hP ⊢
  have hl : lv_has ls 2 [(0, .ref a0), (1, .int (iI v))] := hl
  have hdn := dgN_in (x := v / 10) (by omega) (by omega)
  refine lv_iload_n hx hb dX11_saysNumber_0 rfl (lv_at hl 1 rfl) ?_
  refine zz_bipush hx hb dX11_saysNumber_1 (by decide) ?_
  refine zz_icmp_le (tgt := 14) hx hb dX11_saysNumber_3 (by decide) (by omega) (by decide) (fun c_3 => ?_) (fun c_3 => ?_)
  · refine lv_aload_n hx hb dX11_saysNumber_14 rfl (lv_at hl 0 rfl) ?_
    refine zz_bipush hx hb dX11_saysNumber_15 (by decide) ?_
    refine lv_iload_n hx hb dX11_saysNumber_17 rfl (lv_at hl 1 rfl) ?_
    refine zz_bipush hx hb dX11_saysNumber_18 (by decide) ?_
    refine zz_irem hx hb dX11_saysNumber_20 (by omega) (by omega) ?_
    refine zz_iadd hx hb dX11_saysNumber_21 ?_
    refine zz_i2c hx hb dX11_saysNumber_22 (by omega) ?_
    refine zz_callVv (As := [.int (iI (48 + (v % 10)))]) (rest := []) (wf := fun u => bModel tA a0 a1 a2 a3 a4 a5 a6 a7 a8 a9 a10 ms mbef msav misv mpast mpm mthr mways mnds mtkp (zU mline mlm (48 + (v % 10))) (mlm + 1) mtxt mlen mat mwr merr mfail mcmd mcm) ⟨hx, hb, hml, hown, hts⟩ (c_X11_says l D tA a0 a1 a2 a3 a4 a5 a6 a7 a8 a9 a10 H.size ms mbef msav misv mpast mpm mthr mways mnds mtkp mline mlm mtxt mlen mat mwr merr mfail mcmd mcm (48 + (v % 10)) (by first | assumption | omega) (by first | assumption | omega) (by first | assumption | omega)) (cwV 1 hts gX11_saysNumber_X11_says rfl rfl rfl (by decide +kernel) ⟨Nat.le_of_ble_eq_true rfl, Nat.le_of_ble_eq_true rfl⟩) hK hP hD hS hA [0, 1, 2, 3, 4, 5, 6, 7, 8, 9, 10] [] [0, 1, 2, 3, 4, 5, 6, 7, 8, 9, 10] rfl rfl (by decide) (by decide) (by decide) (by decide) (fun _ => rfl) (ci := 13) (q0 := 0) rfl rfl rfl rfl rfl hl.1 (Nat.le_of_ble_eq_true rfl) dX11_saysNumber_23 ⟨Nat.le_of_ble_eq_true rfl, Nat.le_of_ble_eq_true rfl⟩ ?_
    intro u H locs p23_1 hP hD hS
    have hP : va_P D vwCl (bModel tA a0 a1 a2 a3 a4 a5 a6 a7 a8 a9 a10 ms mbef msav misv mpast mpm mthr mways mnds mtkp (zU mline mlm (48 + (v % 10))) (mlm + 1) mtxt mlen mat mwr merr mfail mcmd mcm) H := hP
    have hD : va_D A (bModel tA a0 a1 a2 a3 a4 a5 a6 a7 a8 a9 a10 ms mbef msav misv mpast mpm mthr mways mnds mtkp (zU mline mlm (48 + (v % 10))) (mlm + 1) mtxt mlen mat mwr merr mfail mcmd mcm) := hD
    have e_mline : ((zU mline mlm (48 + (v % 10))) : Int → Int) = (wrL mline mlm (dgL v)) := by first | exact say_1 (by omega) (by omega) | exact say_s (by omega) (by omega)
    rw [e_mline] at hP hD
    have e_mlm : ((mlm + 1) : Int) = (mlm + dgN v) := by first | (rw [dgN_1 (x := v) (by omega) (by omega)]) | (rw [dgN_s (x := v) (by omega) (by omega)]; omega)
    rw [e_mlm] at hP hD
    exact hret () _ _ _ _ dX11_saysNumber_26 True.intro hP hD hS
  · refine lv_aload_n hx hb dX11_saysNumber_6 rfl (lv_at hl 0 rfl) ?_
    refine lv_iload_n hx hb dX11_saysNumber_7 rfl (lv_at hl 1 rfl) ?_
    refine zz_bipush hx hb dX11_saysNumber_8 (by decide) ?_
    refine zz_idiv hx hb dX11_saysNumber_10 (by omega) (by omega) ?_
    refine zz_callVv (As := [.int (iI (v / 10))]) (rest := []) (wf := fun u => bModel tA a0 a1 a2 a3 a4 a5 a6 a7 a8 a9 a10 ms mbef msav misv mpast mpm mthr mways mnds mtkp (wrL mline mlm (dgL (v / 10))) (mlm + dgN (v / 10)) mtxt mlen mat mwr merr mfail mcmd mcm) ⟨hx, hb, hml, hown, hts⟩ (c_X11_saysNumber_7 l D tA a0 a1 a2 a3 a4 a5 a6 a7 a8 a9 a10 H.size ms mbef msav misv mpast mpm mthr mways mnds mtkp mline mlm mtxt mlen mat mwr merr mfail mcmd mcm (v / 10) (by first | assumption | omega) (by first | assumption | omega) (by first | assumption | omega)) (cwV 1 hts gX11_saysNumber_X11_saysNumber rfl rfl rfl (by decide +kernel) ⟨Nat.le_of_ble_eq_true rfl, Nat.le_of_ble_eq_true rfl⟩) hK hP hD hS hA [0, 1, 2, 3, 4, 5, 6, 7, 8, 9, 10] [] [0, 1, 2, 3, 4, 5, 6, 7, 8, 9, 10] rfl rfl (by decide) (by decide) (by decide) (by decide) (fun _ => rfl) (ci := 13) (q0 := 0) rfl rfl rfl rfl rfl hl.1 (Nat.le_of_ble_eq_true rfl) dX11_saysNumber_11 ⟨Nat.le_of_ble_eq_true rfl, Nat.le_of_ble_eq_true rfl⟩ ?_
    intro u H locs p11_2 hP hD hS
    have hP : va_P D vwCl (bModel tA a0 a1 a2 a3 a4 a5 a6 a7 a8 a9 a10 ms mbef msav misv mpast mpm mthr mways mnds mtkp (wrL mline mlm (dgL (v / 10))) (mlm + dgN (v / 10)) mtxt mlen mat mwr merr mfail mcmd mcm) H := hP
    have hD : va_D A (bModel tA a0 a1 a2 a3 a4 a5 a6 a7 a8 a9 a10 ms mbef msav misv mpast mpm mthr mways mnds mtkp (wrL mline mlm (dgL (v / 10))) (mlm + dgN (v / 10)) mtxt mlen mat mwr merr mfail mcmd mcm) := hD
    refine lv_aload_n hx hb dX11_saysNumber_14 rfl (lv_at hl 0 rfl) ?_
    refine zz_bipush hx hb dX11_saysNumber_15 (by decide) ?_
    refine lv_iload_n hx hb dX11_saysNumber_17 rfl (lv_at hl 1 rfl) ?_
    refine zz_bipush hx hb dX11_saysNumber_18 (by decide) ?_
    refine zz_irem hx hb dX11_saysNumber_20 (by omega) (by omega) ?_
    refine zz_iadd hx hb dX11_saysNumber_21 ?_
    refine zz_i2c hx hb dX11_saysNumber_22 (by omega) ?_
    refine zz_callVv (As := [.int (iI (48 + (v % 10)))]) (rest := []) (wf := fun u => bModel tA a0 a1 a2 a3 a4 a5 a6 a7 a8 a9 a10 ms mbef msav misv mpast mpm mthr mways mnds mtkp (zU (wrL mline mlm (dgL (v / 10))) (mlm + dgN (v / 10)) (48 + (v % 10))) ((mlm + dgN (v / 10)) + 1) mtxt mlen mat mwr merr mfail mcmd mcm) ⟨hx, hb, hml, hown, hts⟩ (c_X11_says l D tA a0 a1 a2 a3 a4 a5 a6 a7 a8 a9 a10 H.size ms mbef msav misv mpast mpm mthr mways mnds mtkp (wrL mline mlm (dgL (v / 10))) (mlm + dgN (v / 10)) mtxt mlen mat mwr merr mfail mcmd mcm (48 + (v % 10)) (by first | assumption | omega) (by first | assumption | omega) (by first | assumption | omega)) (cwV 1 hts gX11_saysNumber_X11_says rfl rfl rfl (by decide +kernel) ⟨Nat.le_of_ble_eq_true rfl, Nat.le_of_ble_eq_true rfl⟩) hK hP hD hS hA [0, 1, 2, 3, 4, 5, 6, 7, 8, 9, 10] [] [0, 1, 2, 3, 4, 5, 6, 7, 8, 9, 10] rfl rfl (by decide) (by decide) (by decide) (by decide) (fun _ => rfl) (ci := 13) (q0 := 0) rfl rfl rfl rfl rfl hl.1 (Nat.le_of_ble_eq_true rfl) dX11_saysNumber_23 ⟨Nat.le_of_ble_eq_true rfl, Nat.le_of_ble_eq_true rfl⟩ ?_
    intro u H locs p23_3 hP hD hS
    have hP : va_P D vwCl (bModel tA a0 a1 a2 a3 a4 a5 a6 a7 a8 a9 a10 ms mbef msav misv mpast mpm mthr mways mnds mtkp (zU (wrL mline mlm (dgL (v / 10))) (mlm + dgN (v / 10)) (48 + (v % 10))) ((mlm + dgN (v / 10)) + 1) mtxt mlen mat mwr merr mfail mcmd mcm) H := hP
    have hD : va_D A (bModel tA a0 a1 a2 a3 a4 a5 a6 a7 a8 a9 a10 ms mbef msav misv mpast mpm mthr mways mnds mtkp (zU (wrL mline mlm (dgL (v / 10))) (mlm + dgN (v / 10)) (48 + (v % 10))) ((mlm + dgN (v / 10)) + 1) mtxt mlen mat mwr merr mfail mcmd mcm) := hD
    have e_mline : ((zU (wrL mline mlm (dgL (v / 10))) (mlm + dgN (v / 10)) (48 + (v % 10))) : Int → Int) = (wrL mline mlm (dgL v)) := by first | exact say_1 (by omega) (by omega) | exact say_s (by omega) (by omega)
    rw [e_mline] at hP hD
    have e_mlm : (((mlm + dgN (v / 10)) + 1) : Int) = (mlm + dgN v) := by first | (rw [dgN_1 (x := v) (by omega) (by omega)]) | (rw [dgN_s (x := v) (by omega) (by omega)]; omega)
    rw [e_mlm] at hP hD
    exact hret () _ _ _ _ dX11_saysNumber_26 True.intro hP hD hS

set_option maxHeartbeats 4000000 in
set_option maxRecDepth 100000 in
theorem c_X11_saysNumber_9 (l : Launch) (D : va_G) (tA : Nat → ClassId) (a0 a1 a2 a3 a4 a5 a6 a7 a8 a9 a10 : Nat) (sz : Nat) (ms : Int → Int) (mbef : Int → Int) (msav : Int → Int) (misv : Int) (mpast : Int → Int) (mpm : Int) (mthr : Int) (mways : Int → Int) (mnds : Int → Int) (mtkp : Int → Int) (mline : Int → Int) (mlm : Int) (mtxt : Int → Int) (mlen : Int) (mat : Int) (mwr : Int) (merr : Int) (mfail : Int) (mcmd : Int → Int) (mcm : Int) (v : Int) (r_v : -2147483648 ≤ v ∧ v ≤ 2147483647) (hv : 0 ≤ v ∧ v ≤ 999999999) (hlm : 0 ≤ mlm ∧ mlm ≤ 30) : zMv l yX11_saysNumber wsX11_saysNumber ({ frames := 9, cells := 0, slots := 0, locals := 216 }) D tA [.ref a0, .int (iI v)] (bModel tA a0 a1 a2 a3 a4 a5 a6 a7 a8 a9 a10 ms mbef msav misv mpast mpm mthr mways mnds mtkp mline mlm mtxt mlen mat mwr merr mfail mcmd mcm) sz (fun (u : Unit) => True) (fun (u : Unit) => bModel tA a0 a1 a2 a3 a4 a5 a6 a7 a8 a9 a10 ms mbef msav misv mpast mpm mthr mways mnds mtkp (wrL mline mlm (dgL v)) (mlm + dgN v) mtxt mlen mat mwr merr mfail mcmd mcm) 0 0 := by
  refine zMv_of (cc := cX11_saysNumber) (maxL := 2) (by decide) rfl (Nat.le_of_ble_eq_true rfl) ?_
  intro p e s m args below meth c A Q ls hx hb hml hts hown hK hP hD hA hret hl
  obtain ⟨H, hHe⟩ : ∃ H : Heap, H = s.heap := ⟨_, rfl⟩
  have hS : va_S A s.heap H [] := by rw [hHe]; exact va_S.rf
  rw [← hHe] at hP ⊢
  have hl : lv_has ls 2 [(0, .ref a0), (1, .int (iI v))] := hl
  have hdn := dgN_in (x := v / 10) (by omega) (by omega)
  refine lv_iload_n hx hb dX11_saysNumber_0 rfl (lv_at hl 1 rfl) ?_
  refine zz_bipush hx hb dX11_saysNumber_1 (by decide) ?_
  refine zz_icmp_le (tgt := 14) hx hb dX11_saysNumber_3 (by decide) (by omega) (by decide) (fun c_3 => ?_) (fun c_3 => ?_)
  · refine lv_aload_n hx hb dX11_saysNumber_14 rfl (lv_at hl 0 rfl) ?_
    refine zz_bipush hx hb dX11_saysNumber_15 (by decide) ?_
    refine lv_iload_n hx hb dX11_saysNumber_17 rfl (lv_at hl 1 rfl) ?_
    refine zz_bipush hx hb dX11_saysNumber_18 (by decide) ?_
    refine zz_irem hx hb dX11_saysNumber_20 (by omega) (by omega) ?_
    refine zz_iadd hx hb dX11_saysNumber_21 ?_
    refine zz_i2c hx hb dX11_saysNumber_22 (by omega) ?_
    refine zz_callVv (As := [.int (iI (48 + (v % 10)))]) (rest := []) (wf := fun u => bModel tA a0 a1 a2 a3 a4 a5 a6 a7 a8 a9 a10 ms mbef msav misv mpast mpm mthr mways mnds mtkp (zU mline mlm (48 + (v % 10))) (mlm + 1) mtxt mlen mat mwr merr mfail mcmd mcm) ⟨hx, hb, hml, hown, hts⟩ (c_X11_says l D tA a0 a1 a2 a3 a4 a5 a6 a7 a8 a9 a10 H.size ms mbef msav misv mpast mpm mthr mways mnds mtkp mline mlm mtxt mlen mat mwr merr mfail mcmd mcm (48 + (v % 10)) (by first | assumption | omega) (by first | assumption | omega) (by first | assumption | omega)) (cwV 1 hts gX11_saysNumber_X11_says rfl rfl rfl (by decide +kernel) ⟨Nat.le_of_ble_eq_true rfl, Nat.le_of_ble_eq_true rfl⟩) hK hP hD hS hA [0, 1, 2, 3, 4, 5, 6, 7, 8, 9, 10] [] [0, 1, 2, 3, 4, 5, 6, 7, 8, 9, 10] rfl rfl (by decide) (by decide) (by decide) (by decide) (fun _ => rfl) (ci := 13) (q0 := 0) rfl rfl rfl rfl rfl hl.1 (Nat.le_of_ble_eq_true rfl) dX11_saysNumber_23 ⟨Nat.le_of_ble_eq_true rfl, Nat.le_of_ble_eq_true rfl⟩ ?_
    intro u H locs p23_1 hP hD hS
    have hP : va_P D vwCl (bModel tA a0 a1 a2 a3 a4 a5 a6 a7 a8 a9 a10 ms mbef msav misv mpast mpm mthr mways mnds mtkp (zU mline mlm (48 + (v % 10))) (mlm + 1) mtxt mlen mat mwr merr mfail mcmd mcm) H := hP
    have hD : va_D A (bModel tA a0 a1 a2 a3 a4 a5 a6 a7 a8 a9 a10 ms mbef msav misv mpast mpm mthr mways mnds mtkp (zU mline mlm (48 + (v % 10))) (mlm + 1) mtxt mlen mat mwr merr mfail mcmd mcm) := hD
    have e_mline : ((zU mline mlm (48 + (v % 10))) : Int → Int) = (wrL mline mlm (dgL v)) := by first | exact say_1 (by omega) (by omega) | exact say_s (by omega) (by omega)
    rw [e_mline] at hP hD
    have e_mlm : ((mlm + 1) : Int) = (mlm + dgN v) := by first | (rw [dgN_1 (x := v) (by omega) (by omega)]) | (rw [dgN_s (x := v) (by omega) (by omega)]; omega)
    rw [e_mlm] at hP hD
    exact hret () _ _ _ _ dX11_saysNumber_26 True.intro hP hD hS
  · refine lv_aload_n hx hb dX11_saysNumber_6 rfl (lv_at hl 0 rfl) ?_
    refine lv_iload_n hx hb dX11_saysNumber_7 rfl (lv_at hl 1 rfl) ?_
    refine zz_bipush hx hb dX11_saysNumber_8 (by decide) ?_
    refine zz_idiv hx hb dX11_saysNumber_10 (by omega) (by omega) ?_
    refine zz_callVv (As := [.int (iI (v / 10))]) (rest := []) (wf := fun u => bModel tA a0 a1 a2 a3 a4 a5 a6 a7 a8 a9 a10 ms mbef msav misv mpast mpm mthr mways mnds mtkp (wrL mline mlm (dgL (v / 10))) (mlm + dgN (v / 10)) mtxt mlen mat mwr merr mfail mcmd mcm) ⟨hx, hb, hml, hown, hts⟩ (c_X11_saysNumber_8 l D tA a0 a1 a2 a3 a4 a5 a6 a7 a8 a9 a10 H.size ms mbef msav misv mpast mpm mthr mways mnds mtkp mline mlm mtxt mlen mat mwr merr mfail mcmd mcm (v / 10) (by first | assumption | omega) (by first | assumption | omega) (by first | assumption | omega)) (cwV 1 hts gX11_saysNumber_X11_saysNumber rfl rfl rfl (by decide +kernel) ⟨Nat.le_of_ble_eq_true rfl, Nat.le_of_ble_eq_true rfl⟩) hK hP hD hS hA [0, 1, 2, 3, 4, 5, 6, 7, 8, 9, 10] [] [0, 1, 2, 3, 4, 5, 6, 7, 8, 9, 10] rfl rfl (by decide) (by decide) (by decide) (by decide) (fun _ => rfl) (ci := 13) (q0 := 0) rfl rfl rfl rfl rfl hl.1 (Nat.le_of_ble_eq_true rfl) dX11_saysNumber_11 ⟨Nat.le_of_ble_eq_true rfl, Nat.le_of_ble_eq_true rfl⟩ ?_
    intro u H locs p11_2 hP hD hS
    have hP : va_P D vwCl (bModel tA a0 a1 a2 a3 a4 a5 a6 a7 a8 a9 a10 ms mbef msav misv mpast mpm mthr mways mnds mtkp (wrL mline mlm (dgL (v / 10))) (mlm + dgN (v / 10)) mtxt mlen mat mwr merr mfail mcmd mcm) H := hP
    have hD : va_D A (bModel tA a0 a1 a2 a3 a4 a5 a6 a7 a8 a9 a10 ms mbef msav misv mpast mpm mthr mways mnds mtkp (wrL mline mlm (dgL (v / 10))) (mlm + dgN (v / 10)) mtxt mlen mat mwr merr mfail mcmd mcm) := hD
    refine lv_aload_n hx hb dX11_saysNumber_14 rfl (lv_at hl 0 rfl) ?_
    refine zz_bipush hx hb dX11_saysNumber_15 (by decide) ?_
    refine lv_iload_n hx hb dX11_saysNumber_17 rfl (lv_at hl 1 rfl) ?_
    refine zz_bipush hx hb dX11_saysNumber_18 (by decide) ?_
    refine zz_irem hx hb dX11_saysNumber_20 (by omega) (by omega) ?_
    refine zz_iadd hx hb dX11_saysNumber_21 ?_
    refine zz_i2c hx hb dX11_saysNumber_22 (by omega) ?_
    refine zz_callVv (As := [.int (iI (48 + (v % 10)))]) (rest := []) (wf := fun u => bModel tA a0 a1 a2 a3 a4 a5 a6 a7 a8 a9 a10 ms mbef msav misv mpast mpm mthr mways mnds mtkp (zU (wrL mline mlm (dgL (v / 10))) (mlm + dgN (v / 10)) (48 + (v % 10))) ((mlm + dgN (v / 10)) + 1) mtxt mlen mat mwr merr mfail mcmd mcm) ⟨hx, hb, hml, hown, hts⟩ (c_X11_says l D tA a0 a1 a2 a3 a4 a5 a6 a7 a8 a9 a10 H.size ms mbef msav misv mpast mpm mthr mways mnds mtkp (wrL mline mlm (dgL (v / 10))) (mlm + dgN (v / 10)) mtxt mlen mat mwr merr mfail mcmd mcm (48 + (v % 10)) (by first | assumption | omega) (by first | assumption | omega) (by first | assumption | omega)) (cwV 1 hts gX11_saysNumber_X11_says rfl rfl rfl (by decide +kernel) ⟨Nat.le_of_ble_eq_true rfl, Nat.le_of_ble_eq_true rfl⟩) hK hP hD hS hA [0, 1, 2, 3, 4, 5, 6, 7, 8, 9, 10] [] [0, 1, 2, 3, 4, 5, 6, 7, 8, 9, 10] rfl rfl (by decide) (by decide) (by decide) (by decide) (fun _ => rfl) (ci := 13) (q0 := 0) rfl rfl rfl rfl rfl hl.1 (Nat.le_of_ble_eq_true rfl) dX11_saysNumber_23 ⟨Nat.le_of_ble_eq_true rfl, Nat.le_of_ble_eq_true rfl⟩ ?_
    intro u H locs p23_3 hP hD hS
    have hP : va_P D vwCl (bModel tA a0 a1 a2 a3 a4 a5 a6 a7 a8 a9 a10 ms mbef msav misv mpast mpm mthr mways mnds mtkp (zU (wrL mline mlm (dgL (v / 10))) (mlm + dgN (v / 10)) (48 + (v % 10))) ((mlm + dgN (v / 10)) + 1) mtxt mlen mat mwr merr mfail mcmd mcm) H := hP
    have hD : va_D A (bModel tA a0 a1 a2 a3 a4 a5 a6 a7 a8 a9 a10 ms mbef msav misv mpast mpm mthr mways mnds mtkp (zU (wrL mline mlm (dgL (v / 10))) (mlm + dgN (v / 10)) (48 + (v % 10))) ((mlm + dgN (v / 10)) + 1) mtxt mlen mat mwr merr mfail mcmd mcm) := hD
    have e_mline : ((zU (wrL mline mlm (dgL (v / 10))) (mlm + dgN (v / 10)) (48 + (v % 10))) : Int → Int) = (wrL mline mlm (dgL v)) := by first | exact say_1 (by omega) (by omega) | exact say_s (by omega) (by omega)
    rw [e_mline] at hP hD
    have e_mlm : (((mlm + dgN (v / 10)) + 1) : Int) = (mlm + dgN v) := by first | (rw [dgN_1 (x := v) (by omega) (by omega)]) | (rw [dgN_s (x := v) (by omega) (by omega)]; omega)
    rw [e_mlm] at hP hD
    exact hret () _ _ _ _ dX11_saysNumber_26 True.intro hP hD hS

set_option maxHeartbeats 4000000 in
set_option maxRecDepth 100000 in
theorem c_X11_behind (l : Launch) (D : va_G) (tA : Nat → ClassId) (a0 a1 a2 a3 a4 a5 a6 a7 a8 a9 a10 : Nat) (sz : Nat) (ms : Int → Int) (mbef : Int → Int) (msav : Int → Int) (misv : Int) (mpast : Int → Int) (mpm : Int) (mthr : Int) (mways : Int → Int) (mnds : Int → Int) (mtkp : Int → Int) (mline : Int → Int) (mlm : Int) (mtxt : Int → Int) (mlen : Int) (mat : Int) (mwr : Int) (merr : Int) (mfail : Int) (mcmd : Int → Int) (mcm : Int) (far : Int) (r_far : -2147483648 ≤ far ∧ far ≤ 2147483647) (hln : 0 ≤ mlen ∧ mlen ≤ 60) (hat : 0 ≤ mat ∧ mat ≤ 60) (hf : 0 ≤ far ∧ far ≤ 4) (htx : ∀ j, 0 ≤ j → j < mlen → 0 ≤ mtxt j ∧ mtxt j ≤ 65535) : zMi l yX11_behind wsX11_behind ({ frames := 0, cells := 0, slots := 0, locals := 0 }) D tA [.ref a0, .int (iI far)] (bModel tA a0 a1 a2 a3 a4 a5 a6 a7 a8 a9 a10 ms mbef msav misv mpast mpm mthr mways mnds mtkp mline mlm mtxt mlen mat mwr merr mfail mcmd mcm) sz (fun (z : Int) (u : Unit) => ((mat + far < mlen ∧ z = mtxt (mat + far)) ∨ (mlen ≤ mat + far ∧ z = -1)) ∧ (-1 ≤ z ∧ z ≤ 65535)) (fun (u : Unit) => bModel tA a0 a1 a2 a3 a4 a5 a6 a7 a8 a9 a10 ms mbef msav misv mpast mpm mthr mways mnds mtkp mline mlm mtxt mlen mat mwr merr mfail mcmd mcm) 0 0 := by
  refine zMi_of (cc := cX11_behind) (maxL := 2) (by decide) rfl (fun z u h => rfl) (Nat.le_of_ble_eq_true rfl) ?_
  intro p e s m args below meth c A Q ls hx hb hml hts hown hK hP hD hA hret hl
  obtain ⟨H, hHe⟩ : ∃ H : Heap, H = s.heap := ⟨_, rfl⟩
  have hS : va_S A s.heap H [] := by rw [hHe]; exact va_S.rf
  rw [← hHe] at hP ⊢
  have hl : lv_has ls 2 [(0, .ref a0), (1, .int (iI far))] := hl
  have iX11 : ∀ v ∈ wsX110, v ∈ wsX11_behind := by decide +kernel
  have f_36 := hts (.fieldLink RX11 36 "HarborLightsModel" "text" "[C") (by decide +kernel)
  have f_205 := hts (.fieldLink RX11 205 "HarborLightsModel" "length" "I") (by decide +kernel)
  have f_208 := hts (.fieldLink RX11 208 "HarborLightsModel" "at" "I") (by decide +kernel)
  refine lv_aload_n hx hb dX11_behind_0 rfl (lv_at hl 0 rfl) ?_
  refine va_get (D := D) (ci := 13) (v := .int (iI mat)) (C := RX11) (T := TX11) (N := 20) hx hb hts iX11 hown hK hP 0 rfl rfl 14 (by decide) f_208 (fun _ h9 => h9) rfl dX11_behind_1 ?_
  refine lv_iload_n hx hb dX11_behind_4 rfl (lv_at hl 1 rfl) ?_
  refine zz_iadd hx hb dX11_behind_5 ?_
  refine lv_aload_n hx hb dX11_behind_6 rfl (lv_at hl 0 rfl) ?_
  refine va_get (D := D) (ci := 13) (v := .int (iI mlen)) (C := RX11) (T := TX11) (N := 20) hx hb hts iX11 hown hK hP 0 rfl rfl 13 (by decide) f_205 (fun _ h9 => h9) rfl dX11_behind_7 ?_
  refine zz_icmp_ge (tgt := 27) hx hb dX11_behind_10 (by decide) (by omega) (by omega) (fun c_10 => ?_) (fun c_10 => ?_)
  · refine zz_iconst hx hb dX11_behind_27 ?_
    exact hret (-1) () _ _ _ _ dX11_behind_28 ⟨(show (mat + far < mlen ∧ ((-1) : Int) = mtxt (mat + far)) ∨ (mlen ≤ mat + far ∧ ((-1) : Int) = -1) from by omega), (show -1 ≤ ((-1) : Int) ∧ ((-1) : Int) ≤ 65535 from by omega)⟩ hP hD hS
  · refine lv_aload_n hx hb dX11_behind_13 rfl (lv_at hl 0 rfl) ?_
    refine va_get (D := D) (ci := 13) (v := .ref a9) (C := RX11) (T := TX11) (N := 20) hx hb hts iX11 hown hK hP 0 rfl rfl 12 (by decide) f_36 (fun _ h9 => h9) rfl dX11_behind_14 ?_
    refine lv_aload_n hx hb dX11_behind_17 rfl (lv_at hl 0 rfl) ?_
    refine va_get (D := D) (ci := 13) (v := .int (iI mat)) (C := RX11) (T := TX11) (N := 20) hx hb hts iX11 hown hK hP 0 rfl rfl 14 (by decide) f_208 (fun _ h9 => h9) rfl dX11_behind_18 ?_
    refine lv_iload_n hx hb dX11_behind_21 rfl (lv_at hl 1 rfl) ?_
    refine zz_iadd hx hb dX11_behind_22 ?_
    refine zz_cald hx hb hK hP 9 rfl (by decide) (by omega) dX11_behind_23 ?_
    have r_23 := htx (mat + far) (by omega) (by omega)
    refine lv_goto (tgt := 28) hx hb dX11_behind_24 (by decide) ?_
    exact hret (mtxt (mat + far)) () _ _ _ _ dX11_behind_28 ⟨(show (mat + far < mlen ∧ (mtxt (mat + far)) = mtxt (mat + far)) ∨ (mlen ≤ mat + far ∧ (mtxt (mat + far)) = -1) from by omega), (show -1 ≤ (mtxt (mat + far)) ∧ (mtxt (mat + far)) ≤ 65535 from by omega)⟩ hP hD hS

set_option maxHeartbeats 4000000 in
set_option maxRecDepth 100000 in
theorem c_X11_isDigit (l : Launch) (D : va_G) (tA : Nat → ClassId) (a0 a1 a2 a3 a4 a5 a6 a7 a8 a9 a10 : Nat) (sz : Nat) (ms : Int → Int) (mbef : Int → Int) (msav : Int → Int) (misv : Int) (mpast : Int → Int) (mpm : Int) (mthr : Int) (mways : Int → Int) (mnds : Int → Int) (mtkp : Int → Int) (mline : Int → Int) (mlm : Int) (mtxt : Int → Int) (mlen : Int) (mat : Int) (mwr : Int) (merr : Int) (mfail : Int) (mcmd : Int → Int) (mcm : Int) (hln : 0 ≤ mlen ∧ mlen ≤ 60) (hat : 0 ≤ mat ∧ mat ≤ 60) (hw : mwr = 0 ∨ mwr = 1) (htx : ∀ j, 0 ≤ j → j < mlen → 0 ≤ mtxt j ∧ mtxt j ≤ 65535) : zMi l yX11_isDigit wsX11_isDigit ({ frames := 1, cells := 0, slots := 0, locals := 22 }) D tA [.ref a0] (bModel tA a0 a1 a2 a3 a4 a5 a6 a7 a8 a9 a10 ms mbef msav misv mpast mpm mthr mways mnds mtkp mline mlm mtxt mlen mat mwr merr mfail mcmd mcm) sz (fun (z : Int) (u : Unit) => ((z = 1 ∧ mwr = 0 ∧ mat < mlen ∧ 48 ≤ mtxt mat ∧ mtxt mat ≤ 57) ∨ (z = 0 ∧ ¬ (mwr = 0 ∧ mat < mlen ∧ 48 ≤ mtxt mat ∧ mtxt mat ≤ 57)))) (fun (u : Unit) => bModel tA a0 a1 a2 a3 a4 a5 a6 a7 a8 a9 a10 ms mbef msav misv mpast mpm mthr mways mnds mtkp mline mlm mtxt mlen mat mwr merr mfail mcmd mcm) 0 0 := by
  refine zMi_of (cc := cX11_isDigit) (maxL := 1) (by decide) rfl (fun z u h => zbool z (by omega)) (Nat.le_of_ble_eq_true rfl) ?_
  intro p e s m args below meth c A Q ls hx hb hml hts hown hK hP hD hA hret hl
  obtain ⟨H, hHe⟩ : ∃ H : Heap, H = s.heap := ⟨_, rfl⟩
  have hS : va_S A s.heap H [] := by rw [hHe]; exact va_S.rf
  rw [← hHe] at hP ⊢
  have hl : lv_has ls 1 [(0, .ref a0)] := hl
  have iX11 : ∀ v ∈ wsX110, v ∈ wsX11_isDigit := by decide +kernel
  have f_215 := hts (.fieldLink RX11 215 "HarborLightsModel" "isWrong" "Z") (by decide +kernel)
  refine lv_aload_n hx hb dX11_isDigit_0 rfl (lv_at hl 0 rfl) ?_
  refine va_get (D := D) (ci := 13) (v := .int (iI mwr)) (C := RX11) (T := TX11) (N := 20) hx hb hts iX11 hown hK hP 0 rfl rfl 15 (by decide) f_215 (fun _ h9 => h9) rfl dX11_isDigit_1 ?_
  refine zz_if_ne (tgt := 26) hx hb dX11_isDigit_4 (by decide) (by omega) (fun c_4 => ?_) (fun c_4 => ?_)
  · refine zz_iconst hx hb dX11_isDigit_26 ?_
    exact hret 0 () _ _ _ _ dX11_isDigit_27 (show ((0 : Int) = 1 ∧ mwr = 0 ∧ mat < mlen ∧ 48 ≤ mtxt mat ∧ mtxt mat ≤ 57) ∨ ((0 : Int) = 0 ∧ ¬ (mwr = 0 ∧ mat < mlen ∧ 48 ≤ mtxt mat ∧ mtxt mat ≤ 57)) from by omega) hP hD hS
  · refine lv_aload_n hx hb dX11_isDigit_7 rfl (lv_at hl 0 rfl) ?_
    refine zz_iconst hx hb dX11_isDigit_8 ?_
    refine zz_callVi (As := [.int (iI 0)]) (rest := []) (wf := fun u => bModel tA a0 a1 a2 a3 a4 a5 a6 a7 a8 a9 a10 ms mbef msav misv mpast mpm mthr mways mnds mtkp mline mlm mtxt mlen mat mwr merr mfail mcmd mcm) ⟨hx, hb, hml, hown, hts⟩ (c_X11_behind l D tA a0 a1 a2 a3 a4 a5 a6 a7 a8 a9 a10 H.size ms mbef msav misv mpast mpm mthr mways mnds mtkp mline mlm mtxt mlen mat mwr merr mfail mcmd mcm 0 (by first | assumption | omega) (by first | assumption | omega) (by first | assumption | omega) (by first | assumption | omega) (by first | assumption | omega)) (cwV 1 hts gX11_isDigit_X11_behind rfl rfl rfl (by decide +kernel) ⟨Nat.le_of_ble_eq_true rfl, Nat.le_of_ble_eq_true rfl⟩) hK hP hD hS hA [0, 1, 2, 3, 4, 5, 6, 7, 8, 9, 10] [] [0, 1, 2, 3, 4, 5, 6, 7, 8, 9, 10] rfl rfl (by decide) (by decide) (by decide) (by decide) (fun _ => rfl) (ci := 13) (q0 := 0) rfl rfl rfl rfl rfl hl.1 (Nat.le_of_ble_eq_true rfl) dX11_isDigit_9 ⟨Nat.le_of_ble_eq_true rfl, Nat.le_of_ble_eq_true rfl⟩ ?_
    intro z9_1 u H locs p9_2 hP hD hS
    have hP : va_P D vwCl (bModel tA a0 a1 a2 a3 a4 a5 a6 a7 a8 a9 a10 ms mbef msav misv mpast mpm mthr mways mnds mtkp mline mlm mtxt mlen mat mwr merr mfail mcmd mcm) H := hP
    have hD : va_D A (bModel tA a0 a1 a2 a3 a4 a5 a6 a7 a8 a9 a10 ms mbef msav misv mpast mpm mthr mways mnds mtkp mline mlm mtxt mlen mat mwr merr mfail mcmd mcm) := hD
    have q_9 : (mat + 0 < mlen ∧ z9_1 = mtxt (mat + 0)) ∨ (mlen ≤ mat + 0 ∧ z9_1 = -1) := p9_2.1
    have q2_9 : -1 ≤ z9_1 ∧ z9_1 ≤ 65535 := p9_2.2
    rw [Int.add_zero] at q_9
    refine zz_bipush hx hb dX11_isDigit_12 (by decide) ?_
    refine zz_bipush hx hb dX11_isDigit_14 (by decide) ?_
    refine zz_callSi (As := [.int (iI z9_1), .int (iI 48), .int (iI 57)]) (rest := []) (wf := fun u => bModel tA a0 a1 a2 a3 a4 a5 a6 a7 a8 a9 a10 ms mbef msav misv mpast mpm mthr mways mnds mtkp mline mlm mtxt mlen mat mwr merr mfail mcmd mcm) ⟨hx, hb, hml, hown, hts⟩ (c_X11_in l D tA  H.size z9_1 48 57 (by first | assumption | omega) (by first | assumption | omega) (by first | assumption | omega)) (va_cwS 3 hts gX11_isDigit_X11_in rfl rfl rfl (by decide +kernel) ⟨Nat.le_of_ble_eq_true rfl, Nat.le_of_ble_eq_true rfl⟩) hK hP hD hS hA [] [0, 1, 2, 3, 4, 5, 6, 7, 8, 9, 10] [0, 1, 2, 3, 4, 5, 6, 7, 8, 9, 10] rfl rfl (by decide) (by decide) (by decide) (by decide) (fun _ => rfl) rfl rfl hl.1 (Nat.le_of_ble_eq_true rfl) dX11_isDigit_16 ⟨Nat.le_of_ble_eq_true rfl, Nat.le_of_ble_eq_true rfl⟩ ?_
    intro z16_3 u H locs p16_4 hP hD hS
    have hP : va_P D vwCl (bModel tA a0 a1 a2 a3 a4 a5 a6 a7 a8 a9 a10 ms mbef msav misv mpast mpm mthr mways mnds mtkp mline mlm mtxt mlen mat mwr merr mfail mcmd mcm) H := hP
    have hD : va_D A (bModel tA a0 a1 a2 a3 a4 a5 a6 a7 a8 a9 a10 ms mbef msav misv mpast mpm mthr mways mnds mtkp mline mlm mtxt mlen mat mwr merr mfail mcmd mcm) := hD
    have q_16 : (z16_3 = 1 ∧ 48 ≤ z9_1 ∧ z9_1 ≤ 57) ∨ (z16_3 = 0 ∧ ¬ (48 ≤ z9_1 ∧ z9_1 ≤ 57)) := p16_4
    refine zz_if_eq (tgt := 26) hx hb dX11_isDigit_19 (by decide) (by omega) (fun c_19 => ?_) (fun c_19 => ?_)
    · refine zz_iconst hx hb dX11_isDigit_26 ?_
      exact hret 0 () _ _ _ _ dX11_isDigit_27 (show ((0 : Int) = 1 ∧ mwr = 0 ∧ mat < mlen ∧ 48 ≤ mtxt mat ∧ mtxt mat ≤ 57) ∨ ((0 : Int) = 0 ∧ ¬ (mwr = 0 ∧ mat < mlen ∧ 48 ≤ mtxt mat ∧ mtxt mat ≤ 57)) from by omega) hP hD hS
    · refine zz_iconst hx hb dX11_isDigit_22 ?_
      refine lv_goto (tgt := 27) hx hb dX11_isDigit_23 (by decide) ?_
      exact hret 1 () _ _ _ _ dX11_isDigit_27 (show ((1 : Int) = 1 ∧ mwr = 0 ∧ mat < mlen ∧ 48 ≤ mtxt mat ∧ mtxt mat ≤ 57) ∨ ((1 : Int) = 0 ∧ ¬ (mwr = 0 ∧ mat < mlen ∧ 48 ≤ mtxt mat ∧ mtxt mat ≤ 57)) from by omega) hP hD hS
