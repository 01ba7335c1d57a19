/-! ===== HarborLightsModel, 4 ===== -/
set_option maxHeartbeats 4000000 in
set_option maxRecDepth 100000 in
theorem c_X11_doSubscribe (l : Launch) (D : va_G) (tA : Nat → ClassId) (a0 a1 a2 a3 a4 a5 a6 a7 a8 a9 a10 : Nat) (sz : Nat) (ms : Int → Int) (mbef : Int → Int) (msav : Int → Int) (misv : Int) (mpast : Int → Int) (mpm : Int) (mthr : Int) (mways : Int → Int) (mnds : Int → Int) (mtkp : Int → Int) (mline : Int → Int) (mlm : Int) (mtxt : Int → Int) (mlen : Int) (mat : Int) (mwr : Int) (merr : Int) (mfail : Int) (mcmd : Int → Int) (mcm : Int) (frm : Int) (too : Int) (w : Int) (r_frm : -2147483648 ≤ frm ∧ frm ≤ 2147483647) (r_too : -2147483648 ≤ too ∧ too ≤ 2147483647) (r_w : -2147483648 ≤ w ∧ w ≤ 2147483647) (hm : MV ms) (hth : mthr = 0) : zMi l yX11_doSubscribe wsX11_doSubscribe ({ frames := 3, cells := 0, slots := 0, locals := 70 }) D tA [.ref a0, .int (iI frm), .int (iI too), .int (iI w)] (bModel tA a0 a1 a2 a3 a4 a5 a6 a7 a8 a9 a10 ms mbef msav misv mpast mpm mthr mways mnds mtkp mline mlm mtxt mlen mat mwr merr mfail mcmd mcm) sz (fun (z : Int) (u : (Int → Int) × (Int) × (Int → Int)) => (mSubscribe ms frm too w z u.2.1 u.1)) (fun (u : (Int → Int) × (Int) × (Int → Int)) => bModel tA a0 a1 a2 a3 a4 a5 a6 a7 a8 a9 a10 u.1 mbef msav misv mpast mpm u.2.1 u.2.2 mnds mtkp mline mlm mtxt mlen mat mwr merr mfail mcmd mcm) 0 0 := by
  refine zMi_of (cc := cX11_doSubscribe) (maxL := 6) (by decide) rfl (fun z u h => rfl) (Nat.le_of_ble_eq_true rfl) ?_
  intro p e s m args below meth c A Q ls hx hb hml hts hown hK hP hD hA hret hl
  obtain ⟨H, hHe⟩ : ∃ H : Heap, H = s.heap := ⟨_, rfl⟩
  have hS : va_S A s.heap H [] := by rw [hHe]; exact va_S.rf
  rw [← hHe] at hP ⊢
  have hl : lv_has ls 6 [(0, .ref a0), (1, .int (iI frm)), (2, .int (iI too)), (3, .int (iI w))] := hl
  have iX11 : ∀ v ∈ wsX110, v ∈ wsX11_doSubscribe := by decide +kernel
  have f_9 := hts (.fieldLink RX11 9 "HarborLightsModel" "s" "[I") (by decide +kernel)
  have f_22 := hts (.fieldLink RX11 22 "HarborLightsModel" "ways" "[I") (by decide +kernel)
  obtain ⟨⟨mp0, mp1, mc0, mc1, mf0, mf1, mr0, mr1⟩, hlr, mL, mS⟩ := id hm
  refine lv_aload_n hx hb dX11_doSubscribe_0 rfl (lv_at hl 0 rfl) ?_
  refine va_get (D := D) (ci := 13) (v := .ref a1) (C := RX11) (T := TX11) (N := 20) hx hb hts iX11 hown hK hP 0 rfl rfl 0 (by decide) f_9 (fun _ h9 => h9) rfl dX11_doSubscribe_1 ?_
  refine zz_iconst hx hb dX11_doSubscribe_4 ?_
  refine zz_iald hx hb hK hP 1 rfl (by decide) (by omega) dX11_doSubscribe_5 ?_
  refine lv_istore (lv' := [(4, .int (iI (ms 1))), (0, .ref a0), (1, .int (iI frm)), (2, .int (iI too)), (3, .int (iI w))]) hx hb dX11_doSubscribe_6 hl (by decide) rfl (fun ls hl => ?_)
  refine lv_aload_n hx hb dX11_doSubscribe_8 rfl (lv_at hl 1 rfl) ?_
  refine lv_iload_n hx hb dX11_doSubscribe_9 rfl (lv_at hl 2 rfl) ?_
  refine lv_iload_n hx hb dX11_doSubscribe_10 rfl (lv_at hl 3 rfl) ?_
  refine zz_callVi (As := [.int (iI frm), .int (iI too)]) (rest := []) (wf := fun u => bModel tA a0 a1 a2 a3 a4 a5 a6 a7 a8 a9 a10 ms mbef msav misv mpast mpm mthr mways mnds mtkp mline mlm mtxt mlen mat mwr merr mfail mcmd mcm) ⟨hx, hb, hml, hown, hts⟩ (c_X11_arePorts l D tA a0 a1 a2 a3 a4 a5 a6 a7 a8 a9 a10 H.size ms mbef msav misv mpast mpm mthr mways mnds mtkp mline mlm mtxt mlen mat mwr merr mfail mcmd mcm frm too (by first | assumption | omega) (by first | assumption | omega) (by first | assumption | omega)) (cwV 2 hts gX11_doSubscribe_X11_arePorts rfl rfl rfl (by decide +kernel) ⟨Nat.le_of_ble_eq_true rfl, Nat.le_of_ble_eq_true rfl⟩) hK hP hD hS hA [0, 1, 2, 3, 4, 5, 6, 7, 8, 9, 10] [] [0, 1, 2, 3, 4, 5, 6, 7, 8, 9, 10] rfl rfl (by decide) (by decide) (by decide) (by decide) (fun _ => rfl) (ci := 13) (q0 := 0) rfl rfl rfl rfl rfl hl.1 (Nat.le_of_ble_eq_true rfl) dX11_doSubscribe_11 ⟨Nat.le_of_ble_eq_true rfl, Nat.le_of_ble_eq_true rfl⟩ ?_
  intro z11_1 u H locs p11_2 hP hD hS
  have hP : va_P D vwCl (bModel tA a0 a1 a2 a3 a4 a5 a6 a7 a8 a9 a10 ms mbef msav misv mpast mpm mthr mways mnds mtkp mline mlm mtxt mlen mat mwr merr mfail mcmd mcm) H := hP
  have hD : va_D A (bModel tA a0 a1 a2 a3 a4 a5 a6 a7 a8 a9 a10 ms mbef msav misv mpast mpm mthr mways mnds mtkp mline mlm mtxt mlen mat mwr merr mfail mcmd mcm) := hD
  have q_11 : (z11_1 = 1 ∧ inP (ms 0) frm too) ∨ (z11_1 = 0 ∧ ¬ inP (ms 0) frm too) := p11_2
  refine zz_if_ne (tgt := 23) hx hb dX11_doSubscribe_14 (by decide) (by omega) (fun c_14 => ?_) (fun c_14 => ?_)
  · have hin : inP (ms 0) frm too := q_11.elim (fun g => g.2) (fun g => absurd g.1 (by omega))
    have hpp : 0 ≤ frm ∧ frm < 10 ∧ 0 ≤ too ∧ too < 10 := by obtain ⟨x0, x1, x2, x3⟩ := id hin; omega
    refine lv_iload_n hx hb dX11_doSubscribe_23 rfl (lv_at hl 2 rfl) ?_
    refine lv_iload_n hx hb dX11_doSubscribe_24 rfl (lv_at hl 3 rfl) ?_
    refine zz_icmp_eq (tgt := 39) hx hb dX11_doSubscribe_25 (by decide) (by omega) (by omega) (fun c_25 => ?_) (fun c_25 => ?_)
    · refine lv_aload_n hx hb dX11_doSubscribe_39 rfl (lv_at hl 1 rfl) ?_
      refine zz_iconst hx hb dX11_doSubscribe_40 ?_
      refine zz_callVi (As := [.int (iI 2)]) (rest := []) (wf := fun u => bModel tA a0 a1 a2 a3 a4 a5 a6 a7 a8 a9 a10 ms mbef msav misv mpast mpm 2 mways mnds mtkp mline mlm mtxt mlen mat mwr merr mfail mcmd mcm) ⟨hx, hb, hml, hown, hts⟩ (c_X11_fails l D tA a0 a1 a2 a3 a4 a5 a6 a7 a8 a9 a10 H.size ms mbef msav misv mpast mpm mthr mways mnds mtkp mline mlm mtxt mlen mat mwr merr mfail mcmd mcm 2 (by first | assumption | omega)) (cwV 1 hts gX11_doSubscribe_X11_fails rfl rfl rfl (by decide +kernel) ⟨Nat.le_of_ble_eq_true rfl, Nat.le_of_ble_eq_true rfl⟩) hK hP hD hS hA [0, 1, 2, 3, 4, 5, 6, 7, 8, 9, 10] [] [0, 1, 2, 3, 4, 5, 6, 7, 8, 9, 10] rfl rfl (by decide) (by decide) (by decide) (by decide) (fun _ => rfl) (ci := 13) (q0 := 0) rfl rfl rfl rfl rfl hl.1 (Nat.le_of_ble_eq_true rfl) dX11_doSubscribe_41 ⟨Nat.le_of_ble_eq_true rfl, Nat.le_of_ble_eq_true rfl⟩ ?_
      intro z41_3 u H locs p41_4 hP hD hS
      have hP : va_P D vwCl (bModel tA a0 a1 a2 a3 a4 a5 a6 a7 a8 a9 a10 ms mbef msav misv mpast mpm 2 mways mnds mtkp mline mlm mtxt mlen mat mwr merr mfail mcmd mcm) H := hP
      have hD : va_D A (bModel tA a0 a1 a2 a3 a4 a5 a6 a7 a8 a9 a10 ms mbef msav misv mpast mpm 2 mways mnds mtkp mline mlm mtxt mlen mat mwr merr mfail mcmd mcm) := hD
      have q_41 : z41_3 = 0 := p41_4
      exact hret z41_3 (ms, 2, mways) _ _ _ _ dX11_doSubscribe_44 (show mSubscribe ms frm too w z41_3 2 ms from by exact Or.inr ⟨hin, Or.inl ⟨rfl, by omega, rfl⟩⟩) hP hD hS
    · refine lv_iload_n hx hb dX11_doSubscribe_28 rfl (lv_at hl 4 rfl) ?_
      refine zz_iconst hx hb dX11_doSubscribe_29 ?_
      refine zz_sipush hx hb dX11_doSubscribe_30 (by decide) ?_
      refine zz_callSi (As := [.int (iI w), .int (iI 0), .int (iI 9999)]) (rest := []) (wf := fun u => bModel tA a0 a1 a2 a3 a4 a5 a6 a7 a8 a9 a10 ms mbef msav misv mpast mpm mthr mways mnds mtkp mline mlm mtxt mlen mat mwr merr mfail mcmd mcm) ⟨hx, hb, hml, hown, hts⟩ (c_X11_in l D tA  H.size w 0 9999 (by first | assumption | omega) (by first | assumption | omega) (by first | assumption | omega)) (va_cwS 3 hts gX11_doSubscribe_X11_in rfl rfl rfl (by decide +kernel) ⟨Nat.le_of_ble_eq_true rfl, Nat.le_of_ble_eq_true rfl⟩) hK hP hD hS hA [] [0, 1, 2, 3, 4, 5, 6, 7, 8, 9, 10] [0, 1, 2, 3, 4, 5, 6, 7, 8, 9, 10] rfl rfl (by decide) (by decide) (by decide) (by decide) (fun _ => rfl) rfl rfl hl.1 (Nat.le_of_ble_eq_true rfl) dX11_doSubscribe_33 ⟨Nat.le_of_ble_eq_true rfl, Nat.le_of_ble_eq_true rfl⟩ ?_
      intro z33_5 u H locs p33_6 hP hD hS
      have hP : va_P D vwCl (bModel tA a0 a1 a2 a3 a4 a5 a6 a7 a8 a9 a10 ms mbef msav misv mpast mpm mthr mways mnds mtkp mline mlm mtxt mlen mat mwr merr mfail mcmd mcm) H := hP
      have hD : va_D A (bModel tA a0 a1 a2 a3 a4 a5 a6 a7 a8 a9 a10 ms mbef msav misv mpast mpm mthr mways mnds mtkp mline mlm mtxt mlen mat mwr merr mfail mcmd mcm) := hD
      have q_33 : (z33_5 = 1 ∧ 0 ≤ w ∧ w ≤ 9999) ∨ (z33_5 = 0 ∧ ¬ (0 ≤ w ∧ w ≤ 9999)) := p33_6
      refine zz_if_ne (tgt := 45) hx hb dX11_doSubscribe_36 (by decide) (by omega) (fun c_36 => ?_) (fun c_36 => ?_)
      · refine lv_iload hx hb dX11_doSubscribe_45 (lv_at hl 0 rfl) ?_
        refine zz_bipush hx hb dX11_doSubscribe_47 (by decide) ?_
        refine zz_icmp_ne (tgt := 58) hx hb dX11_doSubscribe_49 (by decide) (by omega) (by decide) (fun c_49 => ?_) (fun c_49 => ?_)
        · refine lv_aload_n hx hb dX11_doSubscribe_58 rfl (lv_at hl 1 rfl) ?_
          refine zz_iconst hx hb dX11_doSubscribe_59 ?_
          refine zz_callVv (As := [.int (iI 0)]) (rest := []) (wf := fun u => bModel tA a0 a1 a2 a3 a4 a5 a6 a7 a8 a9 a10 ms mbef msav misv mpast mpm mthr u mnds mtkp mline mlm mtxt mlen mat mwr merr mfail mcmd mcm) ⟨hx, hb, hml, hown, hts⟩ (c_X11_finds l D tA a0 a1 a2 a3 a4 a5 a6 a7 a8 a9 a10 H.size ms mbef msav misv mpast mpm mthr mways mnds mtkp mline mlm mtxt mlen mat mwr merr mfail mcmd mcm 0 (by first | assumption | omega) (by first | assumption | omega)) (cwV 1 hts gX11_doSubscribe_X11_finds rfl rfl rfl (by decide +kernel) ⟨Nat.le_of_ble_eq_true rfl, Nat.le_of_ble_eq_true rfl⟩) hK hP hD hS hA [0, 1, 2, 3, 4, 5, 6, 7, 8, 9, 10] [] [0, 1, 2, 3, 4, 5, 6, 7, 8, 9, 10] rfl rfl (by decide) (by decide) (by decide) (by decide) (fun _ => rfl) (ci := 13) (q0 := 0) rfl rfl rfl rfl rfl hl.1 (Nat.le_of_ble_eq_true rfl) dX11_doSubscribe_60 ⟨Nat.le_of_ble_eq_true rfl, Nat.le_of_ble_eq_true rfl⟩ ?_
          intro u H locs p60_8 hP hD hS
          obtain ⟨mways_7, rfl⟩ : ∃ q, q = u := ⟨_, rfl⟩
          have hP : va_P D vwCl (bModel tA a0 a1 a2 a3 a4 a5 a6 a7 a8 a9 a10 ms mbef msav misv mpast mpm mthr mways_7 mnds mtkp mline mlm mtxt mlen mat mwr merr mfail mcmd mcm) H := hP
          have hD : va_D A (bModel tA a0 a1 a2 a3 a4 a5 a6 a7 a8 a9 a10 ms mbef msav misv mpast mpm mthr mways_7 mnds mtkp mline mlm mtxt mlen mat mwr merr mfail mcmd mcm) := hD
          have q_60 : ∀ a b, 0 ≤ a → a < 10 → 0 ≤ b → b < 10 → wayP (egM ms (rgM ms 0)) a b (mways_7 (10 * a + b)) := p60_8
          refine lv_aload_n hx hb dX11_doSubscribe_63 rfl (lv_at hl 1 rfl) ?_
          refine va_get (D := D) (ci := 13) (v := .ref a5) (C := RX11) (T := TX11) (N := 20) hx hb hts iX11 hown hK hP 0 rfl rfl 7 (by decide) f_22 (fun _ h9 => h9) rfl dX11_doSubscribe_64 ?_
          refine zz_bipush hx hb dX11_doSubscribe_67 (by decide) ?_
          refine lv_iload_n hx hb dX11_doSubscribe_69 rfl (lv_at hl 2 rfl) ?_
          refine zz_imul hx hb dX11_doSubscribe_70 ?_
          refine lv_iload_n hx hb dX11_doSubscribe_71 rfl (lv_at hl 3 rfl) ?_
          refine zz_iadd hx hb dX11_doSubscribe_72 ?_
          refine zz_iald hx hb hK hP 5 rfl (by decide) (by omega) dX11_doSubscribe_73 ?_
          have hwy := wayP_in (q_60 frm too (by omega) (by omega) (by omega) (by omega))
          rw [rgM_0] at hwy
          refine zz_ldc hx hb hown (hts (.constant RX11 118 (100000)) (by decide +kernel)) (n := 100000) (by decide +kernel) dX11_doSubscribe_74 ?_
          refine zz_icmp_lt (tgt := 85) hx hb dX11_doSubscribe_76 (by decide) (by omega) (by decide) (fun c_76 => ?_) (fun c_76 => ?_)
          · refine zz_sipush hx hb dX11_doSubscribe_85 (by decide) ?_
            refine zz_iconst hx hb dX11_doSubscribe_88 ?_
            refine lv_iload hx hb dX11_doSubscribe_89 (lv_at hl 0 rfl) ?_
            refine zz_imul hx hb dX11_doSubscribe_91 ?_
            refine zz_iadd hx hb dX11_doSubscribe_92 ?_
            refine lv_istore (lv' := [(5, .int (iI (307 + (5 * (ms 1))))), (4, .int (iI (ms 1))), (0, .ref a0), (1, .int (iI frm)), (2, .int (iI too)), (3, .int (iI w))]) hx hb dX11_doSubscribe_93 hl (by decide) rfl (fun ls hl => ?_)
            refine lv_aload_n hx hb dX11_doSubscribe_95 rfl (lv_at hl 2 rfl) ?_
            refine va_get (D := D) (ci := 13) (v := .ref a1) (C := RX11) (T := TX11) (N := 20) hx hb hts iX11 hown hK hP 0 rfl rfl 0 (by decide) f_9 (fun _ h9 => h9) rfl dX11_doSubscribe_96 ?_
            refine lv_iload hx hb dX11_doSubscribe_99 (lv_at hl 0 rfl) ?_
            refine lv_iload_n hx hb dX11_doSubscribe_101 rfl (lv_at hl 3 rfl) ?_
            refine zz_iast hx hb hK hP hD hS 1 rfl (by decide) (by omega) dX11_doSubscribe_102 (fun H locs hP hD hS => ?_)
            have hP : va_P D vwCl (bModel tA a0 a1 a2 a3 a4 a5 a6 a7 a8 a9 a10 (zU ms (307 + (5 * (ms 1))) frm) mbef msav misv mpast mpm mthr mways_7 mnds mtkp mline mlm mtxt mlen mat mwr merr mfail mcmd mcm) H := hP
            have hD : va_D A (bModel tA a0 a1 a2 a3 a4 a5 a6 a7 a8 a9 a10 (zU ms (307 + (5 * (ms 1))) frm) mbef msav misv mpast mpm mthr mways_7 mnds mtkp mline mlm mtxt mlen mat mwr merr mfail mcmd mcm) := hD
            refine lv_aload_n hx hb dX11_doSubscribe_103 rfl (lv_at hl 2 rfl) ?_
            refine va_get (D := D) (ci := 13) (v := .ref a1) (C := RX11) (T := TX11) (N := 20) hx hb hts iX11 hown hK hP 0 rfl rfl 0 (by decide) f_9 (fun _ h9 => h9) rfl dX11_doSubscribe_104 ?_
            refine lv_iload hx hb dX11_doSubscribe_107 (lv_at hl 0 rfl) ?_
            refine zz_iconst hx hb dX11_doSubscribe_109 ?_
            refine zz_iadd hx hb dX11_doSubscribe_110 ?_
            refine lv_iload_n hx hb dX11_doSubscribe_111 rfl (lv_at hl 4 rfl) ?_
            refine zz_iast hx hb hK hP hD hS 1 rfl (by decide) (by omega) dX11_doSubscribe_112 (fun H locs hP hD hS => ?_)
            have hP : va_P D vwCl (bModel tA a0 a1 a2 a3 a4 a5 a6 a7 a8 a9 a10 (zU (zU ms (307 + (5 * (ms 1))) frm) ((307 + (5 * (ms 1))) + 1) too) mbef msav misv mpast mpm mthr mways_7 mnds mtkp mline mlm mtxt mlen mat mwr merr mfail mcmd mcm) H := hP
            have hD : va_D A (bModel tA a0 a1 a2 a3 a4 a5 a6 a7 a8 a9 a10 (zU (zU ms (307 + (5 * (ms 1))) frm) ((307 + (5 * (ms 1))) + 1) too) mbef msav misv mpast mpm mthr mways_7 mnds mtkp mline mlm mtxt mlen mat mwr merr mfail mcmd mcm) := hD
            refine lv_aload_n hx hb dX11_doSubscribe_113 rfl (lv_at hl 2 rfl) ?_
            refine va_get (D := D) (ci := 13) (v := .ref a1) (C := RX11) (T := TX11) (N := 20) hx hb hts iX11 hown hK hP 0 rfl rfl 0 (by decide) f_9 (fun _ h9 => h9) rfl dX11_doSubscribe_114 ?_
            refine lv_iload hx hb dX11_doSubscribe_117 (lv_at hl 0 rfl) ?_
            refine zz_iconst hx hb dX11_doSubscribe_119 ?_
            refine zz_iadd hx hb dX11_doSubscribe_120 ?_
            refine lv_iload_n hx hb dX11_doSubscribe_121 rfl (lv_at hl 5 rfl) ?_
            refine zz_iast hx hb hK hP hD hS 1 rfl (by decide) (by omega) dX11_doSubscribe_122 (fun H locs hP hD hS => ?_)
            have hP : va_P D vwCl (bModel tA a0 a1 a2 a3 a4 a5 a6 a7 a8 a9 a10 (zU (zU (zU ms (307 + (5 * (ms 1))) frm) ((307 + (5 * (ms 1))) + 1) too) ((307 + (5 * (ms 1))) + 2) w) mbef msav misv mpast mpm mthr mways_7 mnds mtkp mline mlm mtxt mlen mat mwr merr mfail mcmd mcm) H := hP
            have hD : va_D A (bModel tA a0 a1 a2 a3 a4 a5 a6 a7 a8 a9 a10 (zU (zU (zU ms (307 + (5 * (ms 1))) frm) ((307 + (5 * (ms 1))) + 1) too) ((307 + (5 * (ms 1))) + 2) w) mbef msav misv mpast mpm mthr mways_7 mnds mtkp mline mlm mtxt mlen mat mwr merr mfail mcmd mcm) := hD
            refine lv_aload_n hx hb dX11_doSubscribe_123 rfl (lv_at hl 2 rfl) ?_
            refine va_get (D := D) (ci := 13) (v := .ref a1) (C := RX11) (T := TX11) (N := 20) hx hb hts iX11 hown hK hP 0 rfl rfl 0 (by decide) f_9 (fun _ h9 => h9) rfl dX11_doSubscribe_124 ?_
            refine lv_iload hx hb dX11_doSubscribe_127 (lv_at hl 0 rfl) ?_
            refine zz_iconst hx hb dX11_doSubscribe_129 ?_
            refine zz_iadd hx hb dX11_doSubscribe_130 ?_
            refine zz_iconst hx hb dX11_doSubscribe_131 ?_
            refine zz_iast hx hb hK hP hD hS 1 rfl (by decide) (by omega) dX11_doSubscribe_132 (fun H locs hP hD hS => ?_)
            have hP : va_P D vwCl (bModel tA a0 a1 a2 a3 a4 a5 a6 a7 a8 a9 a10 (zU (zU (zU (zU ms (307 + (5 * (ms 1))) frm) ((307 + (5 * (ms 1))) + 1) too) ((307 + (5 * (ms 1))) + 2) w) ((307 + (5 * (ms 1))) + 3) 0) mbef msav misv mpast mpm mthr mways_7 mnds mtkp mline mlm mtxt mlen mat mwr merr mfail mcmd mcm) H := hP
            have hD : va_D A (bModel tA a0 a1 a2 a3 a4 a5 a6 a7 a8 a9 a10 (zU (zU (zU (zU ms (307 + (5 * (ms 1))) frm) ((307 + (5 * (ms 1))) + 1) too) ((307 + (5 * (ms 1))) + 2) w) ((307 + (5 * (ms 1))) + 3) 0) mbef msav misv mpast mpm mthr mways_7 mnds mtkp mline mlm mtxt mlen mat mwr merr mfail mcmd mcm) := hD
            refine lv_aload_n hx hb dX11_doSubscribe_133 rfl (lv_at hl 2 rfl) ?_
            refine va_get (D := D) (ci := 13) (v := .ref a1) (C := RX11) (T := TX11) (N := 20) hx hb hts iX11 hown hK hP 0 rfl rfl 0 (by decide) f_9 (fun _ h9 => h9) rfl dX11_doSubscribe_134 ?_
            refine lv_iload hx hb dX11_doSubscribe_137 (lv_at hl 0 rfl) ?_
            refine zz_iconst hx hb dX11_doSubscribe_139 ?_
            refine zz_iadd hx hb dX11_doSubscribe_140 ?_
            refine zz_iconst hx hb dX11_doSubscribe_141 ?_
            refine zz_iast hx hb hK hP hD hS 1 rfl (by decide) (by omega) dX11_doSubscribe_142 (fun H locs hP hD hS => ?_)
            have hP : va_P D vwCl (bModel tA a0 a1 a2 a3 a4 a5 a6 a7 a8 a9 a10 (zU (zU (zU (zU (zU ms (307 + (5 * (ms 1))) frm) ((307 + (5 * (ms 1))) + 1) too) ((307 + (5 * (ms 1))) + 2) w) ((307 + (5 * (ms 1))) + 3) 0) ((307 + (5 * (ms 1))) + 4) 0) mbef msav misv mpast mpm mthr mways_7 mnds mtkp mline mlm mtxt mlen mat mwr merr mfail mcmd mcm) H := hP
            have hD : va_D A (bModel tA a0 a1 a2 a3 a4 a5 a6 a7 a8 a9 a10 (zU (zU (zU (zU (zU ms (307 + (5 * (ms 1))) frm) ((307 + (5 * (ms 1))) + 1) too) ((307 + (5 * (ms 1))) + 2) w) ((307 + (5 * (ms 1))) + 3) 0) ((307 + (5 * (ms 1))) + 4) 0) mbef msav misv mpast mpm mthr mways_7 mnds mtkp mline mlm mtxt mlen mat mwr merr mfail mcmd mcm) := hD
            refine lv_aload_n hx hb dX11_doSubscribe_143 rfl (lv_at hl 2 rfl) ?_
            refine va_get (D := D) (ci := 13) (v := .ref a1) (C := RX11) (T := TX11) (N := 20) hx hb hts iX11 hown hK hP 0 rfl rfl 0 (by decide) f_9 (fun _ h9 => h9) rfl dX11_doSubscribe_144 ?_
            refine zz_iconst hx hb dX11_doSubscribe_147 ?_
            refine lv_dup2_11 hx hb dX11_doSubscribe_148 rfl rfl ?_
            refine zz_iald hx hb hK hP 1 rfl (by decide) (by omega) dX11_doSubscribe_149 ?_
            refine zz_iconst hx hb dX11_doSubscribe_150 ?_
            refine zz_iadd hx hb dX11_doSubscribe_151 ?_
            refine zz_iast hx hb hK hP hD hS 1 rfl (by decide) (by omega) dX11_doSubscribe_152 (fun H locs hP hD hS => ?_)
            have hP : va_P D vwCl (bModel tA a0 a1 a2 a3 a4 a5 a6 a7 a8 a9 a10 (zU (zU (zU (zU (zU (zU ms (307 + (5 * (ms 1))) frm) ((307 + (5 * (ms 1))) + 1) too) ((307 + (5 * (ms 1))) + 2) w) ((307 + (5 * (ms 1))) + 3) 0) ((307 + (5 * (ms 1))) + 4) 0) 1 (((zU (zU (zU (zU (zU ms (307 + (5 * (ms 1))) frm) ((307 + (5 * (ms 1))) + 1) too) ((307 + (5 * (ms 1))) + 2) w) ((307 + (5 * (ms 1))) + 3) 0) ((307 + (5 * (ms 1))) + 4) 0) 1) + 1)) mbef msav misv mpast mpm mthr mways_7 mnds mtkp mline mlm mtxt mlen mat mwr merr mfail mcmd mcm) H := hP
            have hD : va_D A (bModel tA a0 a1 a2 a3 a4 a5 a6 a7 a8 a9 a10 (zU (zU (zU (zU (zU (zU ms (307 + (5 * (ms 1))) frm) ((307 + (5 * (ms 1))) + 1) too) ((307 + (5 * (ms 1))) + 2) w) ((307 + (5 * (ms 1))) + 3) 0) ((307 + (5 * (ms 1))) + 4) 0) 1 (((zU (zU (zU (zU (zU ms (307 + (5 * (ms 1))) frm) ((307 + (5 * (ms 1))) + 1) too) ((307 + (5 * (ms 1))) + 2) w) ((307 + (5 * (ms 1))) + 3) 0) ((307 + (5 * (ms 1))) + 4) 0) 1) + 1)) mbef msav misv mpast mpm mthr mways_7 mnds mtkp mline mlm mtxt mlen mat mwr merr mfail mcmd mcm) := hD
            refine lv_iload hx hb dX11_doSubscribe_153 (lv_at hl 1 rfl) ?_
            exact hret (ms 1) ((zU (zU (zU (zU (zU (zU ms (307 + (5 * (ms 1))) frm) ((307 + (5 * (ms 1))) + 1) too) ((307 + (5 * (ms 1))) + 2) w) ((307 + (5 * (ms 1))) + 3) 0) ((307 + (5 * (ms 1))) + 4) 0) 1 (((zU (zU (zU (zU (zU ms (307 + (5 * (ms 1))) frm) ((307 + (5 * (ms 1))) + 1) too) ((307 + (5 * (ms 1))) + 2) w) ((307 + (5 * (ms 1))) + 3) 0) ((307 + (5 * (ms 1))) + 4) 0) 1) + 1)), mthr, mways_7) _ _ _ _ dX11_doSubscribe_155 (show mSubscribe ms frm too w (ms 1) mthr (zU (zU (zU (zU (zU (zU ms (307 + (5 * (ms 1))) frm) ((307 + (5 * (ms 1))) + 1) too) ((307 + (5 * (ms 1))) + 2) w) ((307 + (5 * (ms 1))) + 3) 0) ((307 + (5 * (ms 1))) + 4) 0) 1 (((zU (zU (zU (zU (zU ms (307 + (5 * (ms 1))) frm) ((307 + (5 * (ms 1))) + 1) too) ((307 + (5 * (ms 1))) + 2) w) ((307 + (5 * (ms 1))) + 3) 0) ((307 + (5 * (ms 1))) + 4) 0) 1) + 1)) from by exact Or.inr ⟨hin, Or.inr ⟨by omega, Or.inr ⟨by omega, Or.inr ⟨hth, (hwy.2.2.1 (by omega)).2.1, rfl, rfl⟩⟩⟩⟩) hP hD hS
          · refine lv_aload_n hx hb dX11_doSubscribe_79 rfl (lv_at hl 1 rfl) ?_
            refine zz_iconst hx hb dX11_doSubscribe_80 ?_
            refine zz_callVi (As := [.int (iI 4)]) (rest := []) (wf := fun u => bModel tA a0 a1 a2 a3 a4 a5 a6 a7 a8 a9 a10 ms mbef msav misv mpast mpm 4 mways_7 mnds mtkp mline mlm mtxt mlen mat mwr merr mfail mcmd mcm) ⟨hx, hb, hml, hown, hts⟩ (c_X11_fails l D tA a0 a1 a2 a3 a4 a5 a6 a7 a8 a9 a10 H.size ms mbef msav misv mpast mpm mthr mways_7 mnds mtkp mline mlm mtxt mlen mat mwr merr mfail mcmd mcm 4 (by first | assumption | omega)) (cwV 1 hts gX11_doSubscribe_X11_fails rfl rfl rfl (by decide +kernel) ⟨Nat.le_of_ble_eq_true rfl, Nat.le_of_ble_eq_true rfl⟩) hK hP hD hS hA [0, 1, 2, 3, 4, 5, 6, 7, 8, 9, 10] [] [0, 1, 2, 3, 4, 5, 6, 7, 8, 9, 10] rfl rfl (by decide) (by decide) (by decide) (by decide) (fun _ => rfl) (ci := 13) (q0 := 0) rfl rfl rfl rfl rfl hl.1 (Nat.le_of_ble_eq_true rfl) dX11_doSubscribe_81 ⟨Nat.le_of_ble_eq_true rfl, Nat.le_of_ble_eq_true rfl⟩ ?_
            intro z81_9 u H locs p81_10 hP hD hS
            have hP : va_P D vwCl (bModel tA a0 a1 a2 a3 a4 a5 a6 a7 a8 a9 a10 ms mbef msav misv mpast mpm 4 mways_7 mnds mtkp mline mlm mtxt mlen mat mwr merr mfail mcmd mcm) H := hP
            have hD : va_D A (bModel tA a0 a1 a2 a3 a4 a5 a6 a7 a8 a9 a10 ms mbef msav misv mpast mpm 4 mways_7 mnds mtkp mline mlm mtxt mlen mat mwr merr mfail mcmd mcm) := hD
            have q_81 : z81_9 = 0 := p81_10
            exact hret z81_9 (ms, 4, mways_7) _ _ _ _ dX11_doSubscribe_84 (show mSubscribe ms frm too w z81_9 4 ms from by exact Or.inr ⟨hin, Or.inr ⟨by omega, Or.inr ⟨by omega, Or.inl ⟨rfl, (hwy.2.2.2 (by omega)).1, rfl⟩⟩⟩⟩) hP hD hS
        · refine lv_aload_n hx hb dX11_doSubscribe_52 rfl (lv_at hl 1 rfl) ?_
          refine zz_iconst hx hb dX11_doSubscribe_53 ?_
          refine zz_callVi (As := [.int (iI 3)]) (rest := []) (wf := fun u => bModel tA a0 a1 a2 a3 a4 a5 a6 a7 a8 a9 a10 ms mbef msav misv mpast mpm 3 mways mnds mtkp mline mlm mtxt mlen mat mwr merr mfail mcmd mcm) ⟨hx, hb, hml, hown, hts⟩ (c_X11_fails l D tA a0 a1 a2 a3 a4 a5 a6 a7 a8 a9 a10 H.size ms mbef msav misv mpast mpm mthr mways mnds mtkp mline mlm mtxt mlen mat mwr merr mfail mcmd mcm 3 (by first | assumption | omega)) (cwV 1 hts gX11_doSubscribe_X11_fails rfl rfl rfl (by decide +kernel) ⟨Nat.le_of_ble_eq_true rfl, Nat.le_of_ble_eq_true rfl⟩) hK hP hD hS hA [0, 1, 2, 3, 4, 5, 6, 7, 8, 9, 10] [] [0, 1, 2, 3, 4, 5, 6, 7, 8, 9, 10] rfl rfl (by decide) (by decide) (by decide) (by decide) (fun _ => rfl) (ci := 13) (q0 := 0) rfl rfl rfl rfl rfl hl.1 (Nat.le_of_ble_eq_true rfl) dX11_doSubscribe_54 ⟨Nat.le_of_ble_eq_true rfl, Nat.le_of_ble_eq_true rfl⟩ ?_
          intro z54_11 u H locs p54_12 hP hD hS
          have hP : va_P D vwCl (bModel tA a0 a1 a2 a3 a4 a5 a6 a7 a8 a9 a10 ms mbef msav misv mpast mpm 3 mways mnds mtkp mline mlm mtxt mlen mat mwr merr mfail mcmd mcm) H := hP
          have hD : va_D A (bModel tA a0 a1 a2 a3 a4 a5 a6 a7 a8 a9 a10 ms mbef msav misv mpast mpm 3 mways mnds mtkp mline mlm mtxt mlen mat mwr merr mfail mcmd mcm) := hD
          have q_54 : z54_11 = 0 := p54_12
          exact hret z54_11 (ms, 3, mways) _ _ _ _ dX11_doSubscribe_57 (show mSubscribe ms frm too w z54_11 3 ms from by exact Or.inr ⟨hin, Or.inr ⟨by omega, Or.inl ⟨rfl, by omega, rfl⟩⟩⟩) hP hD hS
      · refine lv_aload_n hx hb dX11_doSubscribe_39 rfl (lv_at hl 1 rfl) ?_
        refine zz_iconst hx hb dX11_doSubscribe_40 ?_
        refine zz_callVi (As := [.int (iI 2)]) (rest := []) (wf := fun u => bModel tA a0 a1 a2 a3 a4 a5 a6 a7 a8 a9 a10 ms mbef msav misv mpast mpm 2 mways mnds mtkp mline mlm mtxt mlen mat mwr merr mfail mcmd mcm) ⟨hx, hb, hml, hown, hts⟩ (c_X11_fails l D tA a0 a1 a2 a3 a4 a5 a6 a7 a8 a9 a10 H.size ms mbef msav misv mpast mpm mthr mways mnds mtkp mline mlm mtxt mlen mat mwr merr mfail mcmd mcm 2 (by first | assumption | omega)) (cwV 1 hts gX11_doSubscribe_X11_fails rfl rfl rfl (by decide +kernel) ⟨Nat.le_of_ble_eq_true rfl, Nat.le_of_ble_eq_true rfl⟩) hK hP hD hS hA [0, 1, 2, 3, 4, 5, 6, 7, 8, 9, 10] [] [0, 1, 2, 3, 4, 5, 6, 7, 8, 9, 10] rfl rfl (by decide) (by decide) (by decide) (by decide) (fun _ => rfl) (ci := 13) (q0 := 0) rfl rfl rfl rfl rfl hl.1 (Nat.le_of_ble_eq_true rfl) dX11_doSubscribe_41 ⟨Nat.le_of_ble_eq_true rfl, Nat.le_of_ble_eq_true rfl⟩ ?_
        intro z41_13 u H locs p41_14 hP hD hS
        have hP : va_P D vwCl (bModel tA a0 a1 a2 a3 a4 a5 a6 a7 a8 a9 a10 ms mbef msav misv mpast mpm 2 mways mnds mtkp mline mlm mtxt mlen mat mwr merr mfail mcmd mcm) H := hP
        have hD : va_D A (bModel tA a0 a1 a2 a3 a4 a5 a6 a7 a8 a9 a10 ms mbef msav misv mpast mpm 2 mways mnds mtkp mline mlm mtxt mlen mat mwr merr mfail mcmd mcm) := hD
        have q_41 : z41_13 = 0 := p41_14
        exact hret z41_13 (ms, 2, mways) _ _ _ _ dX11_doSubscribe_44 (show mSubscribe ms frm too w z41_13 2 ms from by exact Or.inr ⟨hin, Or.inl ⟨rfl, by omega, rfl⟩⟩) hP hD hS
  · refine lv_aload_n hx hb dX11_doSubscribe_17 rfl (lv_at hl 1 rfl) ?_
    refine zz_iconst hx hb dX11_doSubscribe_18 ?_
    refine zz_callVi (As := [.int (iI 1)]) (rest := []) (wf := fun u => bModel tA a0 a1 a2 a3 a4 a5 a6 a7 a8 a9 a10 ms mbef msav misv mpast mpm 1 mways mnds mtkp mline mlm mtxt mlen mat mwr merr mfail mcmd mcm) ⟨hx, hb, hml, hown, hts⟩ (c_X11_fails l D tA a0 a1 a2 a3 a4 a5 a6 a7 a8 a9 a10 H.size ms mbef msav misv mpast mpm mthr mways mnds mtkp mline mlm mtxt mlen mat mwr merr mfail mcmd mcm 1 (by first | assumption | omega)) (cwV 1 hts gX11_doSubscribe_X11_fails rfl rfl rfl (by decide +kernel) ⟨Nat.le_of_ble_eq_true rfl, Nat.le_of_ble_eq_true rfl⟩) hK hP hD hS hA [0, 1, 2, 3, 4, 5, 6, 7, 8, 9, 10] [] [0, 1, 2, 3, 4, 5, 6, 7, 8, 9, 10] rfl rfl (by decide) (by decide) (by decide) (by decide) (fun _ => rfl) (ci := 13) (q0 := 0) rfl rfl rfl rfl rfl hl.1 (Nat.le_of_ble_eq_true rfl) dX11_doSubscribe_19 ⟨Nat.le_of_ble_eq_true rfl, Nat.le_of_ble_eq_true rfl⟩ ?_
    intro z19_15 u H locs p19_16 hP hD hS
    have hP : va_P D vwCl (bModel tA a0 a1 a2 a3 a4 a5 a6 a7 a8 a9 a10 ms mbef msav misv mpast mpm 1 mways mnds mtkp mline mlm mtxt mlen mat mwr merr mfail mcmd mcm) H := hP
    have hD : va_D A (bModel tA a0 a1 a2 a3 a4 a5 a6 a7 a8 a9 a10 ms mbef msav misv mpast mpm 1 mways mnds mtkp mline mlm mtxt mlen mat mwr merr mfail mcmd mcm) := hD
    have q_19 : z19_15 = 0 := p19_16
    exact hret z19_15 (ms, 1, mways) _ _ _ _ dX11_doSubscribe_22 (show mSubscribe ms frm too w z19_15 1 ms from by exact Or.inl ⟨rfl, q_11.elim (fun g => absurd g.1 (by omega)) (fun g => g.2), rfl⟩) hP hD hS

set_option maxHeartbeats 4000000 in
set_option maxRecDepth 100000 in
theorem c_X11_doLeave (l : Launch) (D : va_G) (tA : Nat → ClassId) (a0 a1 a2 a3 a4 a5 a6 a7 a8 a9 a10 : Nat) (sz : Nat) (ms : Int → Int) (mbef : Int → Int) (msav : Int → Int) (misv : Int) (mpast : Int → Int) (mpm : Int) (mthr : Int) (mways : Int → Int) (mnds : Int → Int) (mtkp : Int → Int) (mline : Int → Int) (mlm : Int) (mtxt : Int → Int) (mlen : Int) (mat : Int) (mwr : Int) (merr : Int) (mfail : Int) (mcmd : Int → Int) (mcm : Int) (sb : Int) (r_sb : -2147483648 ≤ sb ∧ sb ≤ 2147483647) (hc : 0 ≤ ms 1 ∧ ms 1 ≤ 6) (hth : mthr = 0) : zMi l yX11_doLeave wsX11_doLeave ({ frames := 2, cells := 0, slots := 0, locals := 43 }) D tA [.ref a0, .int (iI sb)] (bModel tA a0 a1 a2 a3 a4 a5 a6 a7 a8 a9 a10 ms mbef msav misv mpast mpm mthr mways mnds mtkp mline mlm mtxt mlen mat mwr merr mfail mcmd mcm) sz (fun (z : Int) (u : (Int → Int) × (Int)) => (mLeave ms sb z u.2 u.1)) (fun (u : (Int → Int) × (Int)) => bModel tA a0 a1 a2 a3 a4 a5 a6 a7 a8 a9 a10 u.1 mbef msav misv mpast mpm u.2 mways mnds mtkp mline mlm mtxt mlen mat mwr merr mfail mcmd mcm) 0 0 := by
  refine zMi_of (cc := cX11_doLeave) (maxL := 4) (by decide) rfl (fun z u h => rfl) (Nat.le_of_ble_eq_true rfl) ?_
  intro p e s m args below meth c A Q ls hx hb hml hts hown hK hP hD hA hret hl
  obtain ⟨H, hHe⟩ : ∃ H : Heap, H = s.heap := ⟨_, rfl⟩
  have hS : va_S A s.heap H [] := by rw [hHe]; exact va_S.rf
  rw [← hHe] at hP ⊢
  have hl : lv_has ls 4 [(0, .ref a0), (1, .int (iI sb))] := hl
  have iX11 : ∀ v ∈ wsX110, v ∈ wsX11_doLeave := by decide +kernel
  have f_9 := hts (.fieldLink RX11 9 "HarborLightsModel" "s" "[I") (by decide +kernel)
  have l_52 := hts (.methodLink RX11 52 arraycopyName) (by decide +kernel)
  have ln_52 := hts (.native arraycopyName) (by decide +kernel)
  have ls_52 := hts (.static arraycopyName) (by decide +kernel)
  have li_52 := hts (.initialized "java/lang/System") (by decide +kernel)
  refine lv_aload_n hx hb dX11_doLeave_0 rfl (lv_at hl 0 rfl) ?_
  refine lv_iload_n hx hb dX11_doLeave_1 rfl (lv_at hl 1 rfl) ?_
  refine zz_callVi (As := [.int (iI sb)]) (rest := []) (wf := fun u => bModel tA a0 a1 a2 a3 a4 a5 a6 a7 a8 a9 a10 ms mbef msav misv mpast mpm mthr mways mnds mtkp mline mlm mtxt mlen mat mwr merr mfail mcmd mcm) ⟨hx, hb, hml, hown, hts⟩ (c_X11_isSubscriber l D tA a0 a1 a2 a3 a4 a5 a6 a7 a8 a9 a10 H.size ms mbef msav misv mpast mpm mthr mways mnds mtkp mline mlm mtxt mlen mat mwr merr mfail mcmd mcm sb (by first | assumption | omega) (by first | assumption | omega)) (cwV 1 hts gX11_doLeave_X11_isSubscriber rfl rfl rfl (by decide +kernel) ⟨Nat.le_of_ble_eq_true rfl, Nat.le_of_ble_eq_true rfl⟩) hK hP hD hS hA [0, 1, 2, 3, 4, 5, 6, 7, 8, 9, 10] [] [0, 1, 2, 3, 4, 5, 6, 7, 8, 9, 10] rfl rfl (by decide) (by decide) (by decide) (by decide) (fun _ => rfl) (ci := 13) (q0 := 0) rfl rfl rfl rfl rfl hl.1 (Nat.le_of_ble_eq_true rfl) dX11_doLeave_2 ⟨Nat.le_of_ble_eq_true rfl, Nat.le_of_ble_eq_true rfl⟩ ?_
  intro z2_1 u H locs p2_2 hP hD hS
  have hP : va_P D vwCl (bModel tA a0 a1 a2 a3 a4 a5 a6 a7 a8 a9 a10 ms mbef msav misv mpast mpm mthr mways mnds mtkp mline mlm mtxt mlen mat mwr merr mfail mcmd mcm) H := hP
  have hD : va_D A (bModel tA a0 a1 a2 a3 a4 a5 a6 a7 a8 a9 a10 ms mbef msav misv mpast mpm mthr mways mnds mtkp mline mlm mtxt mlen mat mwr merr mfail mcmd mcm) := hD
  have q_2 : (z2_1 = 1 ∧ 0 ≤ sb ∧ sb < ms 1) ∨ (z2_1 = 0 ∧ ¬ (0 ≤ sb ∧ sb < ms 1)) := p2_2
  refine zz_if_ne (tgt := 14) hx hb dX11_doLeave_5 (by decide) (by omega) (fun c_5 => ?_) (fun c_5 => ?_)
  · refine lv_aload_n hx hb dX11_doLeave_14 rfl (lv_at hl 0 rfl) ?_
    refine lv_iload_n hx hb dX11_doLeave_15 rfl (lv_at hl 1 rfl) ?_
    refine zz_iconst hx hb dX11_doLeave_16 ?_
    refine zz_callVi (As := [.int (iI sb), .int (iI 2)]) (rest := []) (wf := fun u => bModel tA a0 a1 a2 a3 a4 a5 a6 a7 a8 a9 a10 ms mbef msav misv mpast mpm mthr mways mnds mtkp mline mlm mtxt mlen mat mwr merr mfail mcmd mcm) ⟨hx, hb, hml, hown, hts⟩ (c_X11_of l D tA a0 a1 a2 a3 a4 a5 a6 a7 a8 a9 a10 H.size ms mbef msav misv mpast mpm mthr mways mnds mtkp mline mlm mtxt mlen mat mwr merr mfail mcmd mcm sb 2 (by first | assumption | omega) (by first | assumption | omega) (by first | assumption | omega) (by first | assumption | omega)) (cwV 2 hts gX11_doLeave_X11_of rfl rfl rfl (by decide +kernel) ⟨Nat.le_of_ble_eq_true rfl, Nat.le_of_ble_eq_true rfl⟩) hK hP hD hS hA [0, 1, 2, 3, 4, 5, 6, 7, 8, 9, 10] [] [0, 1, 2, 3, 4, 5, 6, 7, 8, 9, 10] rfl rfl (by decide) (by decide) (by decide) (by decide) (fun _ => rfl) (ci := 13) (q0 := 0) rfl rfl rfl rfl rfl hl.1 (Nat.le_of_ble_eq_true rfl) dX11_doLeave_17 ⟨Nat.le_of_ble_eq_true rfl, Nat.le_of_ble_eq_true rfl⟩ ?_
    intro z17_3 u H locs p17_4 hP hD hS
    have hP : va_P D vwCl (bModel tA a0 a1 a2 a3 a4 a5 a6 a7 a8 a9 a10 ms mbef msav misv mpast mpm mthr mways mnds mtkp mline mlm mtxt mlen mat mwr merr mfail mcmd mcm) H := hP
    have hD : va_D A (bModel tA a0 a1 a2 a3 a4 a5 a6 a7 a8 a9 a10 ms mbef msav misv mpast mpm mthr mways mnds mtkp mline mlm mtxt mlen mat mwr merr mfail mcmd mcm) := hD
    have q_17 : z17_3 = suM ms sb 2 := p17_4
    refine lv_istore_n (lv' := [(2, .int (iI z17_3)), (0, .ref a0), (1, .int (iI sb))]) hx hb dX11_doLeave_20 rfl hl (by decide) rfl (fun ls hl => ?_)
    refine lv_aload_n hx hb dX11_doLeave_21 rfl (lv_at hl 1 rfl) ?_
    refine va_get (D := D) (ci := 13) (v := .ref a1) (C := RX11) (T := TX11) (N := 20) hx hb hts iX11 hown hK hP 0 rfl rfl 0 (by decide) f_9 (fun _ h9 => h9) rfl dX11_doLeave_22 ?_
    refine zz_iconst hx hb dX11_doLeave_25 ?_
    refine lv_dup2_11 hx hb dX11_doLeave_26 rfl rfl ?_
    refine zz_iald hx hb hK hP 1 rfl (by decide) (by omega) dX11_doLeave_27 ?_
    refine zz_iconst hx hb dX11_doLeave_28 ?_
    refine zz_isub hx hb dX11_doLeave_29 ?_
    refine zz_iast hx hb hK hP hD hS 1 rfl (by decide) (by omega) dX11_doLeave_30 (fun H locs hP hD hS => ?_)
    have hP : va_P D vwCl (bModel tA a0 a1 a2 a3 a4 a5 a6 a7 a8 a9 a10 (zU ms 1 ((ms 1) - 1)) mbef msav misv mpast mpm mthr mways mnds mtkp mline mlm mtxt mlen mat mwr merr mfail mcmd mcm) H := hP
    have hD : va_D A (bModel tA a0 a1 a2 a3 a4 a5 a6 a7 a8 a9 a10 (zU ms 1 ((ms 1) - 1)) mbef msav misv mpast mpm mthr mways mnds mtkp mline mlm mtxt mlen mat mwr merr mfail mcmd mcm) := hD
    refine zz_sipush hx hb dX11_doLeave_31 (by decide) ?_
    refine zz_iconst hx hb dX11_doLeave_34 ?_
    refine lv_iload_n hx hb dX11_doLeave_35 rfl (lv_at hl 2 rfl) ?_
    refine zz_imul hx hb dX11_doLeave_36 ?_
    refine zz_iadd hx hb dX11_doLeave_37 ?_
    refine lv_istore_n (lv' := [(3, .int (iI (307 + (5 * sb)))), (2, .int (iI z17_3)), (0, .ref a0), (1, .int (iI sb))]) hx hb dX11_doLeave_38 rfl hl (by decide) rfl (fun ls hl => ?_)
    refine lv_aload_n hx hb dX11_doLeave_39 rfl (lv_at hl 2 rfl) ?_
    refine va_get (D := D) (ci := 13) (v := .ref a1) (C := RX11) (T := TX11) (N := 20) hx hb hts iX11 hown hK hP 0 rfl rfl 0 (by decide) f_9 (fun _ h9 => h9) rfl dX11_doLeave_40 ?_
    refine lv_iload_n hx hb dX11_doLeave_43 rfl (lv_at hl 0 rfl) ?_
    refine zz_iconst hx hb dX11_doLeave_44 ?_
    refine zz_iadd hx hb dX11_doLeave_45 ?_
    refine lv_aload_n hx hb dX11_doLeave_46 rfl (lv_at hl 2 rfl) ?_
    refine va_get (D := D) (ci := 13) (v := .ref a1) (C := RX11) (T := TX11) (N := 20) hx hb hts iX11 hown hK hP 0 rfl rfl 0 (by decide) f_9 (fun _ h9 => h9) rfl dX11_doLeave_47 ?_
    refine lv_iload_n hx hb dX11_doLeave_50 rfl (lv_at hl 0 rfl) ?_
    refine zz_iconst hx hb dX11_doLeave_51 ?_
    refine lv_aload_n hx hb dX11_doLeave_52 rfl (lv_at hl 2 rfl) ?_
    refine va_get (D := D) (ci := 13) (v := .ref a1) (C := RX11) (T := TX11) (N := 20) hx hb hts iX11 hown hK hP 0 rfl rfl 0 (by decide) f_9 (fun _ h9 => h9) rfl dX11_doLeave_53 ?_
    refine zz_iconst hx hb dX11_doLeave_56 ?_
    refine zz_iald hx hb hK hP 1 rfl (by decide) (by omega) dX11_doLeave_57 ?_
    refine lv_iload_n hx hb dX11_doLeave_58 rfl (lv_at hl 3 rfl) ?_
    refine zz_isub hx hb dX11_doLeave_59 ?_
    refine zz_imul hx hb dX11_doLeave_60 ?_
    refine zz_copyi hx hb (by rw [hml]; exact hl.1.symm) hown l_52 ln_52 ls_52 li_52 (Nat.le_of_ble_eq_true rfl) (Nat.le_of_ble_eq_true rfl) hK hP hD hS 1 1 rfl rfl (by decide) (by decide) (by rw [zU_same]; omega) dX11_doLeave_61 (fun H locs hP hD hS => ?_)
    have hP : va_P D vwCl (bModel tA a0 a1 a2 a3 a4 a5 a6 a7 a8 a9 a10 (zCpy (zU ms 1 ((ms 1) - 1)) (zU ms 1 ((ms 1) - 1)) ((307 + (5 * sb)) + 5) (307 + (5 * sb)) (5 * (((zU ms 1 ((ms 1) - 1)) 1) - sb))) mbef msav misv mpast mpm mthr mways mnds mtkp mline mlm mtxt mlen mat mwr merr mfail mcmd mcm) H := hP
    have hD : va_D A (bModel tA a0 a1 a2 a3 a4 a5 a6 a7 a8 a9 a10 (zCpy (zU ms 1 ((ms 1) - 1)) (zU ms 1 ((ms 1) - 1)) ((307 + (5 * sb)) + 5) (307 + (5 * sb)) (5 * (((zU ms 1 ((ms 1) - 1)) 1) - sb))) mbef msav misv mpast mpm mthr mways mnds mtkp mline mlm mtxt mlen mat mwr merr mfail mcmd mcm) := hD
    refine lv_iload_n hx hb dX11_doLeave_64 rfl (lv_at hl 1 rfl) ?_
    exact hret z17_3 ((zCpy (zU ms 1 ((ms 1) - 1)) (zU ms 1 ((ms 1) - 1)) ((307 + (5 * sb)) + 5) (307 + (5 * sb)) (5 * (((zU ms 1 ((ms 1) - 1)) 1) - sb))), mthr) _ _ _ _ dX11_doLeave_65 (show mLeave ms sb z17_3 mthr (zCpy (zU ms 1 ((ms 1) - 1)) (zU ms 1 ((ms 1) - 1)) ((307 + (5 * sb)) + 5) (307 + (5 * sb)) (5 * (((zU ms 1 ((ms 1) - 1)) 1) - sb))) from by exact Or.inr ⟨hth, by omega, q_17, by rw [zU_same]⟩) hP hD hS
  · refine lv_aload_n hx hb dX11_doLeave_8 rfl (lv_at hl 0 rfl) ?_
    refine zz_iconst hx hb dX11_doLeave_9 ?_
    refine zz_callVi (As := [.int (iI 1)]) (rest := []) (wf := fun u => bModel tA a0 a1 a2 a3 a4 a5 a6 a7 a8 a9 a10 ms mbef msav misv mpast mpm 1 mways mnds mtkp mline mlm mtxt mlen mat mwr merr mfail mcmd mcm) ⟨hx, hb, hml, hown, hts⟩ (c_X11_fails l D tA a0 a1 a2 a3 a4 a5 a6 a7 a8 a9 a10 H.size ms mbef msav misv mpast mpm mthr mways mnds mtkp mline mlm mtxt mlen mat mwr merr mfail mcmd mcm 1 (by first | assumption | omega)) (cwV 1 hts gX11_doLeave_X11_fails rfl rfl rfl (by decide +kernel) ⟨Nat.le_of_ble_eq_true rfl, Nat.le_of_ble_eq_true rfl⟩) hK hP hD hS hA [0, 1, 2, 3, 4, 5, 6, 7, 8, 9, 10] [] [0, 1, 2, 3, 4, 5, 6, 7, 8, 9, 10] rfl rfl (by decide) (by decide) (by decide) (by decide) (fun _ => rfl) (ci := 13) (q0 := 0) rfl rfl rfl rfl rfl hl.1 (Nat.le_of_ble_eq_true rfl) dX11_doLeave_10 ⟨Nat.le_of_ble_eq_true rfl, Nat.le_of_ble_eq_true rfl⟩ ?_
    intro z10_5 u H locs p10_6 hP hD hS
    have hP : va_P D vwCl (bModel tA a0 a1 a2 a3 a4 a5 a6 a7 a8 a9 a10 ms mbef msav misv mpast mpm 1 mways mnds mtkp mline mlm mtxt mlen mat mwr merr mfail mcmd mcm) H := hP
    have hD : va_D A (bModel tA a0 a1 a2 a3 a4 a5 a6 a7 a8 a9 a10 ms mbef msav misv mpast mpm 1 mways mnds mtkp mline mlm mtxt mlen mat mwr merr mfail mcmd mcm) := hD
    have q_10 : z10_5 = 0 := p10_6
    exact hret z10_5 (ms, 1) _ _ _ _ dX11_doLeave_13 (show mLeave ms sb z10_5 1 ms from by exact Or.inl ⟨rfl, by omega, rfl⟩) hP hD hS

set_option maxHeartbeats 4000000 in
set_option maxRecDepth 100000 in
theorem c_X11_doDeposit (l : Launch) (D : va_G) (tA : Nat → ClassId) (a0 a1 a2 a3 a4 a5 a6 a7 a8 a9 a10 : Nat) (sz : Nat) (ms : Int → Int) (mbef : Int → Int) (msav : Int → Int) (misv : Int) (mpast : Int → Int) (mpm : Int) (mthr : Int) (mways : Int → Int) (mnds : Int → Int) (mtkp : Int → Int) (mline : Int → Int) (mlm : Int) (mtxt : Int → Int) (mlen : Int) (mat : Int) (mwr : Int) (merr : Int) (mfail : Int) (mcmd : Int → Int) (mcm : Int) (sb : Int) (w : Int) (r_sb : -2147483648 ≤ sb ∧ sb ≤ 2147483647) (r_w : -2147483648 ≤ w ∧ w ≤ 2147483647) (hc : 0 ≤ ms 1 ∧ ms 1 ≤ 6) (hth : mthr = 0) : zMi l yX11_doDeposit wsX11_doDeposit ({ frames := 2, cells := 0, slots := 0, locals := 43 }) D tA [.ref a0, .int (iI sb), .int (iI w)] (bModel tA a0 a1 a2 a3 a4 a5 a6 a7 a8 a9 a10 ms mbef msav misv mpast mpm mthr mways mnds mtkp mline mlm mtxt mlen mat mwr merr mfail mcmd mcm) sz (fun (z : Int) (u : (Int → Int) × (Int)) => (mDeposit ms sb w z u.2 u.1)) (fun (u : (Int → Int) × (Int)) => bModel tA a0 a1 a2 a3 a4 a5 a6 a7 a8 a9 a10 u.1 mbef msav misv mpast mpm u.2 mways mnds mtkp mline mlm mtxt mlen mat mwr merr mfail mcmd mcm) 0 0 := by
  refine zMi_of (cc := cX11_doDeposit) (maxL := 3) (by decide) rfl (fun z u h => rfl) (Nat.le_of_ble_eq_true rfl) ?_
  intro p e s m args below meth c A Q ls hx hb hml hts hown hK hP hD hA hret hl
  obtain ⟨H, hHe⟩ : ∃ H : Heap, H = s.heap := ⟨_, rfl⟩
  have hS : va_S A s.heap H [] := by rw [hHe]; exact va_S.rf
  rw [← hHe] at hP ⊢
  have hl : lv_has ls 3 [(0, .ref a0), (1, .int (iI sb)), (2, .int (iI w))] := hl
  refine lv_aload_n hx hb dX11_doDeposit_0 rfl (lv_at hl 0 rfl) ?_
  refine lv_iload_n hx hb dX11_doDeposit_1 rfl (lv_at hl 1 rfl) ?_
  refine zz_callVi (As := [.int (iI sb)]) (rest := []) (wf := fun u => bModel tA a0 a1 a2 a3 a4 a5 a6 a7 a8 a9 a10 ms mbef msav misv mpast mpm mthr mways mnds mtkp mline mlm mtxt mlen mat mwr merr mfail mcmd mcm) ⟨hx, hb, hml, hown, hts⟩ (c_X11_isSubscriber l D tA a0 a1 a2 a3 a4 a5 a6 a7 a8 a9 a10 H.size ms mbef msav misv mpast mpm mthr mways mnds mtkp mline mlm mtxt mlen mat mwr merr mfail mcmd mcm sb (by first | assumption | omega) (by first | assumption | omega)) (cwV 1 hts gX11_doDeposit_X11_isSubscriber rfl rfl rfl (by decide +kernel) ⟨Nat.le_of_ble_eq_true rfl, Nat.le_of_ble_eq_true rfl⟩) hK hP hD hS hA [0, 1, 2, 3, 4, 5, 6, 7, 8, 9, 10] [] [0, 1, 2, 3, 4, 5, 6, 7, 8, 9, 10] rfl rfl (by decide) (by decide) (by decide) (by decide) (fun _ => rfl) (ci := 13) (q0 := 0) rfl rfl rfl rfl rfl hl.1 (Nat.le_of_ble_eq_true rfl) dX11_doDeposit_2 ⟨Nat.le_of_ble_eq_true rfl, Nat.le_of_ble_eq_true rfl⟩ ?_
  intro z2_1 u H locs p2_2 hP hD hS
  have hP : va_P D vwCl (bModel tA a0 a1 a2 a3 a4 a5 a6 a7 a8 a9 a10 ms mbef msav misv mpast mpm mthr mways mnds mtkp mline mlm mtxt mlen mat mwr merr mfail mcmd mcm) H := hP
  have hD : va_D A (bModel tA a0 a1 a2 a3 a4 a5 a6 a7 a8 a9 a10 ms mbef msav misv mpast mpm mthr mways mnds mtkp mline mlm mtxt mlen mat mwr merr mfail mcmd mcm) := hD
  have q_2 : (z2_1 = 1 ∧ 0 ≤ sb ∧ sb < ms 1) ∨ (z2_1 = 0 ∧ ¬ (0 ≤ sb ∧ sb < ms 1)) := p2_2
  refine zz_if_ne (tgt := 14) hx hb dX11_doDeposit_5 (by decide) (by omega) (fun c_5 => ?_) (fun c_5 => ?_)
  · refine lv_iload_n hx hb dX11_doDeposit_14 rfl (lv_at hl 2 rfl) ?_
    refine zz_iconst hx hb dX11_doDeposit_15 ?_
    refine zz_sipush hx hb dX11_doDeposit_16 (by decide) ?_
    refine zz_callSi (As := [.int (iI w), .int (iI 1), .int (iI 9999)]) (rest := []) (wf := fun u => bModel tA a0 a1 a2 a3 a4 a5 a6 a7 a8 a9 a10 ms mbef msav misv mpast mpm mthr mways mnds mtkp mline mlm mtxt mlen mat mwr merr mfail mcmd mcm) ⟨hx, hb, hml, hown, hts⟩ (c_X11_in l D tA  H.size w 1 9999 (by first | assumption | omega) (by first | assumption | omega) (by first | assumption | omega)) (va_cwS 3 hts gX11_doDeposit_X11_in rfl rfl rfl (by decide +kernel) ⟨Nat.le_of_ble_eq_true rfl, Nat.le_of_ble_eq_true rfl⟩) hK hP hD hS hA [] [0, 1, 2, 3, 4, 5, 6, 7, 8, 9, 10] [0, 1, 2, 3, 4, 5, 6, 7, 8, 9, 10] rfl rfl (by decide) (by decide) (by decide) (by decide) (fun _ => rfl) rfl rfl hl.1 (Nat.le_of_ble_eq_true rfl) dX11_doDeposit_19 ⟨Nat.le_of_ble_eq_true rfl, Nat.le_of_ble_eq_true rfl⟩ ?_
    intro z19_3 u H locs p19_4 hP hD hS
    have hP : va_P D vwCl (bModel tA a0 a1 a2 a3 a4 a5 a6 a7 a8 a9 a10 ms mbef msav misv mpast mpm mthr mways mnds mtkp mline mlm mtxt mlen mat mwr merr mfail mcmd mcm) H := hP
    have hD : va_D A (bModel tA a0 a1 a2 a3 a4 a5 a6 a7 a8 a9 a10 ms mbef msav misv mpast mpm mthr mways mnds mtkp mline mlm mtxt mlen mat mwr merr mfail mcmd mcm) := hD
    have q_19 : (z19_3 = 1 ∧ 1 ≤ w ∧ w ≤ 9999) ∨ (z19_3 = 0 ∧ ¬ (1 ≤ w ∧ w ≤ 9999)) := p19_4
    refine zz_if_ne (tgt := 31) hx hb dX11_doDeposit_22 (by decide) (by omega) (fun c_22 => ?_) (fun c_22 => ?_)
    · refine lv_aload_n hx hb dX11_doDeposit_31 rfl (lv_at hl 0 rfl) ?_
      refine lv_iload_n hx hb dX11_doDeposit_32 rfl (lv_at hl 1 rfl) ?_
      refine zz_iconst hx hb dX11_doDeposit_33 ?_
      refine lv_iload_n hx hb dX11_doDeposit_34 rfl (lv_at hl 2 rfl) ?_
      refine zz_callVv (As := [.int (iI sb), .int (iI 2), .int (iI w)]) (rest := []) (wf := fun u => bModel tA a0 a1 a2 a3 a4 a5 a6 a7 a8 a9 a10 (addM ms sb 2 w) mbef msav misv mpast mpm mthr mways mnds mtkp mline mlm mtxt mlen mat mwr merr mfail mcmd mcm) ⟨hx, hb, hml, hown, hts⟩ (c_X11_adds l D tA a0 a1 a2 a3 a4 a5 a6 a7 a8 a9 a10 H.size ms mbef msav misv mpast mpm mthr mways mnds mtkp mline mlm mtxt mlen mat mwr merr mfail mcmd mcm sb 2 w (by first | assumption | omega) (by first | assumption | omega) (by first | assumption | omega) (by first | assumption | omega) (by first | assumption | omega)) (cwV 3 hts gX11_doDeposit_X11_adds rfl rfl rfl (by decide +kernel) ⟨Nat.le_of_ble_eq_true rfl, Nat.le_of_ble_eq_true rfl⟩) hK hP hD hS hA [0, 1, 2, 3, 4, 5, 6, 7, 8, 9, 10] [] [0, 1, 2, 3, 4, 5, 6, 7, 8, 9, 10] rfl rfl (by decide) (by decide) (by decide) (by decide) (fun _ => rfl) (ci := 13) (q0 := 0) rfl rfl rfl rfl rfl hl.1 (Nat.le_of_ble_eq_true rfl) dX11_doDeposit_35 ⟨Nat.le_of_ble_eq_true rfl, Nat.le_of_ble_eq_true rfl⟩ ?_
      intro u H locs p35_5 hP hD hS
      have hP : va_P D vwCl (bModel tA a0 a1 a2 a3 a4 a5 a6 a7 a8 a9 a10 (addM ms sb 2 w) mbef msav misv mpast mpm mthr mways mnds mtkp mline mlm mtxt mlen mat mwr merr mfail mcmd mcm) H := hP
      have hD : va_D A (bModel tA a0 a1 a2 a3 a4 a5 a6 a7 a8 a9 a10 (addM ms sb 2 w) mbef msav misv mpast mpm mthr mways mnds mtkp mline mlm mtxt mlen mat mwr merr mfail mcmd mcm) := hD
      refine lv_aload_n hx hb dX11_doDeposit_38 rfl (lv_at hl 0 rfl) ?_
      refine lv_iload_n hx hb dX11_doDeposit_39 rfl (lv_at hl 1 rfl) ?_
      refine zz_iconst hx hb dX11_doDeposit_40 ?_
      refine zz_callVi (As := [.int (iI sb), .int (iI 2)]) (rest := []) (wf := fun u => bModel tA a0 a1 a2 a3 a4 a5 a6 a7 a8 a9 a10 (addM ms sb 2 w) mbef msav misv mpast mpm mthr mways mnds mtkp mline mlm mtxt mlen mat mwr merr mfail mcmd mcm) ⟨hx, hb, hml, hown, hts⟩ (c_X11_of l D tA a0 a1 a2 a3 a4 a5 a6 a7 a8 a9 a10 H.size (addM ms sb 2 w) mbef msav misv mpast mpm mthr mways mnds mtkp mline mlm mtxt mlen mat mwr merr mfail mcmd mcm sb 2 (by first | assumption | omega) (by first | assumption | omega) (by first | assumption | omega) (by first | assumption | omega)) (cwV 2 hts gX11_doDeposit_X11_of rfl rfl rfl (by decide +kernel) ⟨Nat.le_of_ble_eq_true rfl, Nat.le_of_ble_eq_true rfl⟩) hK hP hD hS hA [0, 1, 2, 3, 4, 5, 6, 7, 8, 9, 10] [] [0, 1, 2, 3, 4, 5, 6, 7, 8, 9, 10] rfl rfl (by decide) (by decide) (by decide) (by decide) (fun _ => rfl) (ci := 13) (q0 := 0) rfl rfl rfl rfl rfl hl.1 (Nat.le_of_ble_eq_true rfl) dX11_doDeposit_41 ⟨Nat.le_of_ble_eq_true rfl, Nat.le_of_ble_eq_true rfl⟩ ?_
      intro z41_6 u H locs p41_7 hP hD hS
      have hP : va_P D vwCl (bModel tA a0 a1 a2 a3 a4 a5 a6 a7 a8 a9 a10 (addM ms sb 2 w) mbef msav misv mpast mpm mthr mways mnds mtkp mline mlm mtxt mlen mat mwr merr mfail mcmd mcm) H := hP
      have hD : va_D A (bModel tA a0 a1 a2 a3 a4 a5 a6 a7 a8 a9 a10 (addM ms sb 2 w) mbef msav misv mpast mpm mthr mways mnds mtkp mline mlm mtxt mlen mat mwr merr mfail mcmd mcm) := hD
      have q_41 : z41_6 = suM (addM ms sb 2 w) sb 2 := p41_7
      exact hret z41_6 ((addM ms sb 2 w), mthr) _ _ _ _ dX11_doDeposit_44 (show mDeposit ms sb w z41_6 mthr (addM ms sb 2 w) from by exact Or.inr ⟨by omega, Or.inr ⟨hth, by omega, rfl, q_41⟩⟩) hP hD hS
    · refine lv_aload_n hx hb dX11_doDeposit_25 rfl (lv_at hl 0 rfl) ?_
      refine zz_iconst hx hb dX11_doDeposit_26 ?_
      refine zz_callVi (As := [.int (iI 2)]) (rest := []) (wf := fun u => bModel tA a0 a1 a2 a3 a4 a5 a6 a7 a8 a9 a10 ms mbef msav misv mpast mpm 2 mways mnds mtkp mline mlm mtxt mlen mat mwr merr mfail mcmd mcm) ⟨hx, hb, hml, hown, hts⟩ (c_X11_fails l D tA a0 a1 a2 a3 a4 a5 a6 a7 a8 a9 a10 H.size ms mbef msav misv mpast mpm mthr mways mnds mtkp mline mlm mtxt mlen mat mwr merr mfail mcmd mcm 2 (by first | assumption | omega)) (cwV 1 hts gX11_doDeposit_X11_fails rfl rfl rfl (by decide +kernel) ⟨Nat.le_of_ble_eq_true rfl, Nat.le_of_ble_eq_true rfl⟩) hK hP hD hS hA [0, 1, 2, 3, 4, 5, 6, 7, 8, 9, 10] [] [0, 1, 2, 3, 4, 5, 6, 7, 8, 9, 10] rfl rfl (by decide) (by decide) (by decide) (by decide) (fun _ => rfl) (ci := 13) (q0 := 0) rfl rfl rfl rfl rfl hl.1 (Nat.le_of_ble_eq_true rfl) dX11_doDeposit_27 ⟨Nat.le_of_ble_eq_true rfl, Nat.le_of_ble_eq_true rfl⟩ ?_
      intro z27_8 u H locs p27_9 hP hD hS
      have hP : va_P D vwCl (bModel tA a0 a1 a2 a3 a4 a5 a6 a7 a8 a9 a10 ms mbef msav misv mpast mpm 2 mways mnds mtkp mline mlm mtxt mlen mat mwr merr mfail mcmd mcm) H := hP
      have hD : va_D A (bModel tA a0 a1 a2 a3 a4 a5 a6 a7 a8 a9 a10 ms mbef msav misv mpast mpm 2 mways mnds mtkp mline mlm mtxt mlen mat mwr merr mfail mcmd mcm) := hD
      have q_27 : z27_8 = 0 := p27_9
      exact hret z27_8 (ms, 2) _ _ _ _ dX11_doDeposit_30 (show mDeposit ms sb w z27_8 2 ms from by exact Or.inr ⟨by omega, Or.inl ⟨rfl, by omega, rfl⟩⟩) hP hD hS
  · refine lv_aload_n hx hb dX11_doDeposit_8 rfl (lv_at hl 0 rfl) ?_
    refine zz_iconst hx hb dX11_doDeposit_9 ?_
    refine zz_callVi (As := [.int (iI 1)]) (rest := []) (wf := fun u => bModel tA a0 a1 a2 a3 a4 a5 a6 a7 a8 a9 a10 ms mbef msav misv mpast mpm 1 mways mnds mtkp mline mlm mtxt mlen mat mwr merr mfail mcmd mcm) ⟨hx, hb, hml, hown, hts⟩ (c_X11_fails l D tA a0 a1 a2 a3 a4 a5 a6 a7 a8 a9 a10 H.size ms mbef msav misv mpast mpm mthr mways mnds mtkp mline mlm mtxt mlen mat mwr merr mfail mcmd mcm 1 (by first | assumption | omega)) (cwV 1 hts gX11_doDeposit_X11_fails rfl rfl rfl (by decide +kernel) ⟨Nat.le_of_ble_eq_true rfl, Nat.le_of_ble_eq_true rfl⟩) hK hP hD hS hA [0, 1, 2, 3, 4, 5, 6, 7, 8, 9, 10] [] [0, 1, 2, 3, 4, 5, 6, 7, 8, 9, 10] rfl rfl (by decide) (by decide) (by decide) (by decide) (fun _ => rfl) (ci := 13) (q0 := 0) rfl rfl rfl rfl rfl hl.1 (Nat.le_of_ble_eq_true rfl) dX11_doDeposit_10 ⟨Nat.le_of_ble_eq_true rfl, Nat.le_of_ble_eq_true rfl⟩ ?_
    intro z10_10 u H locs p10_11 hP hD hS
    have hP : va_P D vwCl (bModel tA a0 a1 a2 a3 a4 a5 a6 a7 a8 a9 a10 ms mbef msav misv mpast mpm 1 mways mnds mtkp mline mlm mtxt mlen mat mwr merr mfail mcmd mcm) H := hP
    have hD : va_D A (bModel tA a0 a1 a2 a3 a4 a5 a6 a7 a8 a9 a10 ms mbef msav misv mpast mpm 1 mways mnds mtkp mline mlm mtxt mlen mat mwr merr mfail mcmd mcm) := hD
    have q_10 : z10_10 = 0 := p10_11
    exact hret z10_10 (ms, 1) _ _ _ _ dX11_doDeposit_13 (show mDeposit ms sb w z10_10 1 ms from by exact Or.inl ⟨rfl, by omega, rfl⟩) hP hD hS

set_option maxHeartbeats 4000000 in
set_option maxRecDepth 100000 in
theorem c_X11_doSetFog (l : Launch) (D : va_G) (tA : Nat → ClassId) (a0 a1 a2 a3 a4 a5 a6 a7 a8 a9 a10 : Nat) (sz : Nat) (ms : Int → Int) (mbef : Int → Int) (msav : Int → Int) (misv : Int) (mpast : Int → Int) (mpm : Int) (mthr : Int) (mways : Int → Int) (mnds : Int → Int) (mtkp : Int → Int) (mline : Int → Int) (mlm : Int) (mtxt : Int → Int) (mlen : Int) (mat : Int) (mwr : Int) (merr : Int) (mfail : Int) (mcmd : Int → Int) (mcm : Int) (n1 : Int) (r_n1 : -2147483648 ≤ n1 ∧ n1 ≤ 2147483647) (hth : mthr = 0) : zMi l yX11_doSetFog wsX11_doSetFog ({ frames := 1, cells := 0, slots := 0, locals := 22 }) D tA [.ref a0, .int (iI n1)] (bModel tA a0 a1 a2 a3 a4 a5 a6 a7 a8 a9 a10 ms mbef msav misv mpast mpm mthr mways mnds mtkp mline mlm mtxt mlen mat mwr merr mfail mcmd mcm) sz (fun (z : Int) (u : (Int → Int) × (Int)) => (mSetFog ms n1 z u.2 u.1)) (fun (u : (Int → Int) × (Int)) => bModel tA a0 a1 a2 a3 a4 a5 a6 a7 a8 a9 a10 u.1 mbef msav misv mpast mpm u.2 mways mnds mtkp mline mlm mtxt mlen mat mwr merr mfail mcmd mcm) 0 0 := by
  refine zMi_of (cc := cX11_doSetFog) (maxL := 3) (by decide) rfl (fun z u h => rfl) (Nat.le_of_ble_eq_true rfl) ?_
  intro p e s m args below meth c A Q ls hx hb hml hts hown hK hP hD hA hret hl
  obtain ⟨H, hHe⟩ : ∃ H : Heap, H = s.heap := ⟨_, rfl⟩
  have hS : va_S A s.heap H [] := by rw [hHe]; exact va_S.rf
  rw [← hHe] at hP ⊢
  have hl : lv_has ls 3 [(0, .ref a0), (1, .int (iI n1))] := hl
  have iX11 : ∀ v ∈ wsX110, v ∈ wsX11_doSetFog := by decide +kernel
  have f_9 := hts (.fieldLink RX11 9 "HarborLightsModel" "s" "[I") (by decide +kernel)
  refine lv_iload_n hx hb dX11_doSetFog_0 rfl (lv_at hl 1 rfl) ?_
  refine zz_iconst hx hb dX11_doSetFog_1 ?_
  refine zz_bipush hx hb dX11_doSetFog_2 (by decide) ?_
  refine zz_callSi (As := [.int (iI n1), .int (iI 0), .int (iI 9)]) (rest := []) (wf := fun u => bModel tA a0 a1 a2 a3 a4 a5 a6 a7 a8 a9 a10 ms mbef msav misv mpast mpm mthr mways mnds mtkp mline mlm mtxt mlen mat mwr merr mfail mcmd mcm) ⟨hx, hb, hml, hown, hts⟩ (c_X11_in l D tA  H.size n1 0 9 (by first | assumption | omega) (by first | assumption | omega) (by first | assumption | omega)) (va_cwS 3 hts gX11_doSetFog_X11_in rfl rfl rfl (by decide +kernel) ⟨Nat.le_of_ble_eq_true rfl, Nat.le_of_ble_eq_true rfl⟩) hK hP hD hS hA [] [0, 1, 2, 3, 4, 5, 6, 7, 8, 9, 10] [0, 1, 2, 3, 4, 5, 6, 7, 8, 9, 10] rfl rfl (by decide) (by decide) (by decide) (by decide) (fun _ => rfl) rfl rfl hl.1 (Nat.le_of_ble_eq_true rfl) dX11_doSetFog_4 ⟨Nat.le_of_ble_eq_true rfl, Nat.le_of_ble_eq_true rfl⟩ ?_
  intro z4_1 u H locs p4_2 hP hD hS
  have hP : va_P D vwCl (bModel tA a0 a1 a2 a3 a4 a5 a6 a7 a8 a9 a10 ms mbef msav misv mpast mpm mthr mways mnds mtkp mline mlm mtxt mlen mat mwr merr mfail mcmd mcm) H := hP
  have hD : va_D A (bModel tA a0 a1 a2 a3 a4 a5 a6 a7 a8 a9 a10 ms mbef msav misv mpast mpm mthr mways mnds mtkp mline mlm mtxt mlen mat mwr merr mfail mcmd mcm) := hD
  have q_4 : (z4_1 = 1 ∧ 0 ≤ n1 ∧ n1 ≤ 9) ∨ (z4_1 = 0 ∧ ¬ (0 ≤ n1 ∧ n1 ≤ 9)) := p4_2
  refine zz_if_ne (tgt := 16) hx hb dX11_doSetFog_7 (by decide) (by omega) (fun c_7 => ?_) (fun c_7 => ?_)
  · refine lv_aload_n hx hb dX11_doSetFog_16 rfl (lv_at hl 0 rfl) ?_
    refine va_get (D := D) (ci := 13) (v := .ref a1) (C := RX11) (T := TX11) (N := 20) hx hb hts iX11 hown hK hP 0 rfl rfl 0 (by decide) f_9 (fun _ h9 => h9) rfl dX11_doSetFog_17 ?_
    refine zz_iconst hx hb dX11_doSetFog_20 ?_
    refine zz_iald hx hb hK hP 1 rfl (by decide) (by omega) dX11_doSetFog_21 ?_
    refine lv_istore_n (lv' := [(2, .int (iI (ms 2))), (0, .ref a0), (1, .int (iI n1))]) hx hb dX11_doSetFog_22 rfl hl (by decide) rfl (fun ls hl => ?_)
    refine lv_aload_n hx hb dX11_doSetFog_23 rfl (lv_at hl 1 rfl) ?_
    refine va_get (D := D) (ci := 13) (v := .ref a1) (C := RX11) (T := TX11) (N := 20) hx hb hts iX11 hown hK hP 0 rfl rfl 0 (by decide) f_9 (fun _ h9 => h9) rfl dX11_doSetFog_24 ?_
    refine zz_iconst hx hb dX11_doSetFog_27 ?_
    refine lv_iload_n hx hb dX11_doSetFog_28 rfl (lv_at hl 2 rfl) ?_
    refine zz_iast hx hb hK hP hD hS 1 rfl (by decide) (by omega) dX11_doSetFog_29 (fun H locs hP hD hS => ?_)
    have hP : va_P D vwCl (bModel tA a0 a1 a2 a3 a4 a5 a6 a7 a8 a9 a10 (zU ms 2 n1) mbef msav misv mpast mpm mthr mways mnds mtkp mline mlm mtxt mlen mat mwr merr mfail mcmd mcm) H := hP
    have hD : va_D A (bModel tA a0 a1 a2 a3 a4 a5 a6 a7 a8 a9 a10 (zU ms 2 n1) mbef msav misv mpast mpm mthr mways mnds mtkp mline mlm mtxt mlen mat mwr merr mfail mcmd mcm) := hD
    refine lv_iload_n hx hb dX11_doSetFog_30 rfl (lv_at hl 0 rfl) ?_
    exact hret (ms 2) ((zU ms 2 n1), mthr) _ _ _ _ dX11_doSetFog_31 (show mSetFog ms n1 (ms 2) mthr (zU ms 2 n1) from by exact Or.inr ⟨hth, by omega, rfl, rfl⟩) hP hD hS
  · refine lv_aload_n hx hb dX11_doSetFog_10 rfl (lv_at hl 0 rfl) ?_
    refine zz_iconst hx hb dX11_doSetFog_11 ?_
    refine zz_callVi (As := [.int (iI 1)]) (rest := []) (wf := fun u => bModel tA a0 a1 a2 a3 a4 a5 a6 a7 a8 a9 a10 ms mbef msav misv mpast mpm 1 mways mnds mtkp mline mlm mtxt mlen mat mwr merr mfail mcmd mcm) ⟨hx, hb, hml, hown, hts⟩ (c_X11_fails l D tA a0 a1 a2 a3 a4 a5 a6 a7 a8 a9 a10 H.size ms mbef msav misv mpast mpm mthr mways mnds mtkp mline mlm mtxt mlen mat mwr merr mfail mcmd mcm 1 (by first | assumption | omega)) (cwV 1 hts gX11_doSetFog_X11_fails rfl rfl rfl (by decide +kernel) ⟨Nat.le_of_ble_eq_true rfl, Nat.le_of_ble_eq_true rfl⟩) hK hP hD hS hA [0, 1, 2, 3, 4, 5, 6, 7, 8, 9, 10] [] [0, 1, 2, 3, 4, 5, 6, 7, 8, 9, 10] rfl rfl (by decide) (by decide) (by decide) (by decide) (fun _ => rfl) (ci := 13) (q0 := 0) rfl rfl rfl rfl rfl hl.1 (Nat.le_of_ble_eq_true rfl) dX11_doSetFog_12 ⟨Nat.le_of_ble_eq_true rfl, Nat.le_of_ble_eq_true rfl⟩ ?_
    intro z12_3 u H locs p12_4 hP hD hS
    have hP : va_P D vwCl (bModel tA a0 a1 a2 a3 a4 a5 a6 a7 a8 a9 a10 ms mbef msav misv mpast mpm 1 mways mnds mtkp mline mlm mtxt mlen mat mwr merr mfail mcmd mcm) H := hP
    have hD : va_D A (bModel tA a0 a1 a2 a3 a4 a5 a6 a7 a8 a9 a10 ms mbef msav misv mpast mpm 1 mways mnds mtkp mline mlm mtxt mlen mat mwr merr mfail mcmd mcm) := hD
    have q_12 : z12_3 = 0 := p12_4
    exact hret z12_3 (ms, 1) _ _ _ _ dX11_doSetFog_15 (show mSetFog ms n1 z12_3 1 ms from by exact Or.inl ⟨rfl, by omega, rfl⟩) hP hD hS

set_option maxHeartbeats 4000000 in
set_option maxRecDepth 100000 in
theorem c_X11_addPort (l : Launch) (D : va_G) (tA : Nat → ClassId) (a0 a1 a2 a3 a4 a5 a6 a7 a8 a9 a10 : Nat) (sz : Nat) (ms : Int → Int) (mbef : Int → Int) (msav : Int → Int) (misv : Int) (mpast : Int → Int) (mpm : Int) (mthr : Int) (mways : Int → Int) (mnds : Int → Int) (mtkp : Int → Int) (mline : Int → Int) (mlm : Int) (mtxt : Int → Int) (mlen : Int) (mat : Int) (mwr : Int) (merr : Int) (mfail : Int) (mcmd : Int → Int) (mcm : Int) (hp : 0 ≤ ms 0 ∧ ms 0 ≤ 10) (hpm : 0 ≤ mpm ∧ mpm ≤ 8) : zMi l yX11_addPort wsX11_addPort ({ frames := 2, cells := 0, slots := 0, locals := 61 }) D tA [.ref a0] (bModel tA a0 a1 a2 a3 a4 a5 a6 a7 a8 a9 a10 ms mbef msav misv mpast mpm mthr mways mnds mtkp mline mlm mtxt mlen mat mwr merr mfail mcmd mcm) sz (fun (z : Int) (u : (Int) × (Int → Int) × (Int)) => (mAddPort ms u.2.2 u.1 u.2.1) ∧ ((0 < u.1 ∧ z = 0) ∨ (u.1 = 0 ∧ z = u.2.2))) (fun (u : (Int) × (Int → Int) × (Int)) => bModel tA a0 a1 a2 a3 a4 a5 a6 a7 a8 a9 a10 (if 0 < u.1 then ms else u.2.1) ms msav misv (if 0 < u.1 then mpast else pastP ms mpm mpast) (if 0 < u.1 then mpm else if mpm = 8 then 8 else mpm + 1) u.1 mways mnds mtkp mline mlm mtxt mlen mat mwr merr mfail mcmd mcm) 0 0 := by
  refine zMi_of (cc := cX11_addPort) (maxL := 1) (by decide) rfl (fun z u h => rfl) (Nat.le_of_ble_eq_true rfl) ?_
  intro p e s m args below meth c A Q ls hx hb hml hts hown hK hP hD hA hret hl
  obtain ⟨H, hHe⟩ : ∃ H : Heap, H = s.heap := ⟨_, rfl⟩
  have hS : va_S A s.heap H [] := by rw [hHe]; exact va_S.rf
  rw [← hHe] at hP ⊢
  have hl : lv_has ls 1 [(0, .ref a0)] := hl
  refine lv_aload_n hx hb dX11_addPort_0 rfl (lv_at hl 0 rfl) ?_
  refine zz_callVv (As := []) (rest := []) (wf := fun u => bModel tA a0 a1 a2 a3 a4 a5 a6 a7 a8 a9 a10 ms ms msav misv mpast mpm 0 mways mnds mtkp mline mlm mtxt mlen mat mwr merr mfail mcmd mcm) ⟨hx, hb, hml, hown, hts⟩ (c_X11_keep l D tA a0 a1 a2 a3 a4 a5 a6 a7 a8 a9 a10 H.size ms mbef msav misv mpast mpm mthr mways mnds mtkp mline mlm mtxt mlen mat mwr merr mfail mcmd mcm) (cwV 0 hts gX11_addPort_X11_keep rfl rfl rfl (by decide +kernel) ⟨Nat.le_of_ble_eq_true rfl, Nat.le_of_ble_eq_true rfl⟩) hK hP hD hS hA [0, 1, 2, 3, 4, 5, 6, 7, 8, 9, 10] [] [0, 1, 2, 3, 4, 5, 6, 7, 8, 9, 10] rfl rfl (by decide) (by decide) (by decide) (by decide) (fun _ => rfl) (ci := 13) (q0 := 0) rfl rfl rfl rfl rfl hl.1 (Nat.le_of_ble_eq_true rfl) dX11_addPort_1 ⟨Nat.le_of_ble_eq_true rfl, Nat.le_of_ble_eq_true rfl⟩ ?_
  intro u H locs p1_1 hP hD hS
  have hP : va_P D vwCl (bModel tA a0 a1 a2 a3 a4 a5 a6 a7 a8 a9 a10 ms ms msav misv mpast mpm 0 mways mnds mtkp mline mlm mtxt mlen mat mwr merr mfail mcmd mcm) H := hP
  have hD : va_D A (bModel tA a0 a1 a2 a3 a4 a5 a6 a7 a8 a9 a10 ms ms msav misv mpast mpm 0 mways mnds mtkp mline mlm mtxt mlen mat mwr merr mfail mcmd mcm) := hD
  refine lv_aload_n hx hb dX11_addPort_4 rfl (lv_at hl 0 rfl) ?_
  refine lv_aload_n hx hb dX11_addPort_5 rfl (lv_at hl 0 rfl) ?_
  refine zz_callVi (As := []) (rest := [.ref a0]) (wf := fun u => bModel tA a0 a1 a2 a3 a4 a5 a6 a7 a8 a9 a10 u.1 ms msav misv mpast mpm u.2 mways mnds mtkp mline mlm mtxt mlen mat mwr merr mfail mcmd mcm) ⟨hx, hb, hml, hown, hts⟩ (c_X11_doAddPort l D tA a0 a1 a2 a3 a4 a5 a6 a7 a8 a9 a10 H.size ms ms msav misv mpast mpm 0 mways mnds mtkp mline mlm mtxt mlen mat mwr merr mfail mcmd mcm (by first | assumption | omega) (by first | assumption | omega)) (cwV 0 hts gX11_addPort_X11_doAddPort rfl rfl rfl (by decide +kernel) ⟨Nat.le_of_ble_eq_true rfl, Nat.le_of_ble_eq_true rfl⟩) hK hP hD hS hA [0, 1, 2, 3, 4, 5, 6, 7, 8, 9, 10] [] [0, 1, 2, 3, 4, 5, 6, 7, 8, 9, 10] rfl rfl (by decide) (by decide) (by decide) (by decide) (fun _ => rfl) (ci := 13) (q0 := 0) rfl rfl rfl rfl rfl hl.1 (Nat.le_of_ble_eq_true rfl) dX11_addPort_6 ⟨Nat.le_of_ble_eq_true rfl, Nat.le_of_ble_eq_true rfl⟩ ?_
  intro z6_4 u H locs p6_5 hP hD hS
  obtain ⟨ms_2, mthr_3⟩ := u
  have hP : va_P D vwCl (bModel tA a0 a1 a2 a3 a4 a5 a6 a7 a8 a9 a10 ms_2 ms msav misv mpast mpm mthr_3 mways mnds mtkp mline mlm mtxt mlen mat mwr merr mfail mcmd mcm) H := hP
  have hD : va_D A (bModel tA a0 a1 a2 a3 a4 a5 a6 a7 a8 a9 a10 ms_2 ms msav misv mpast mpm mthr_3 mways mnds mtkp mline mlm mtxt mlen mat mwr merr mfail mcmd mcm) := hD
  have q_6 : mAddPort ms z6_4 mthr_3 ms_2 := p6_5
  have ht := mAddPort_t q_6
  refine zz_callVi (As := [.int (iI z6_4)]) (rest := []) (wf := fun u => bModel tA a0 a1 a2 a3 a4 a5 a6 a7 a8 a9 a10 (if 0 < mthr_3 then ms else ms_2) ms msav misv (if 0 < mthr_3 then mpast else pastP ms mpm mpast) (if 0 < mthr_3 then mpm else if mpm = 8 then 8 else mpm + 1) mthr_3 mways mnds mtkp mline mlm mtxt mlen mat mwr merr mfail mcmd mcm) ⟨hx, hb, hml, hown, hts⟩ (c_X11_ends l D tA a0 a1 a2 a3 a4 a5 a6 a7 a8 a9 a10 H.size ms_2 ms msav misv mpast mpm mthr_3 mways mnds mtkp mline mlm mtxt mlen mat mwr merr mfail mcmd mcm z6_4 (by first | assumption | omega) (by first | assumption | omega)) (cwV 1 hts gX11_addPort_X11_ends rfl rfl rfl (by decide +kernel) ⟨Nat.le_of_ble_eq_true rfl, Nat.le_of_ble_eq_true rfl⟩) hK hP hD hS hA [0, 1, 2, 3, 4, 5, 6, 7, 8, 9, 10] [] [0, 1, 2, 3, 4, 5, 6, 7, 8, 9, 10] rfl rfl (by decide) (by decide) (by decide) (by decide) (fun _ => rfl) (ci := 13) (q0 := 0) rfl rfl rfl rfl rfl hl.1 (Nat.le_of_ble_eq_true rfl) dX11_addPort_9 ⟨Nat.le_of_ble_eq_true rfl, Nat.le_of_ble_eq_true rfl⟩ ?_
  intro z9_6 u H locs p9_7 hP hD hS
  have hP : va_P D vwCl (bModel tA a0 a1 a2 a3 a4 a5 a6 a7 a8 a9 a10 (if 0 < mthr_3 then ms else ms_2) ms msav misv (if 0 < mthr_3 then mpast else pastP ms mpm mpast) (if 0 < mthr_3 then mpm else if mpm = 8 then 8 else mpm + 1) mthr_3 mways mnds mtkp mline mlm mtxt mlen mat mwr merr mfail mcmd mcm) H := hP
  have hD : va_D A (bModel tA a0 a1 a2 a3 a4 a5 a6 a7 a8 a9 a10 (if 0 < mthr_3 then ms else ms_2) ms msav misv (if 0 < mthr_3 then mpast else pastP ms mpm mpast) (if 0 < mthr_3 then mpm else if mpm = 8 then 8 else mpm + 1) mthr_3 mways mnds mtkp mline mlm mtxt mlen mat mwr merr mfail mcmd mcm) := hD
  have q_9 : ((0 : Int) < mthr_3 ∧ z9_6 = 0) ∨ (mthr_3 = (0 : Int) ∧ z9_6 = z6_4) := p9_7
  exact hret z9_6 (mthr_3, ms_2, z6_4) _ _ _ _ dX11_addPort_12 ⟨(show mAddPort ms z6_4 mthr_3 ms_2 from by exact q_6), (show (0 < mthr_3 ∧ z9_6 = 0) ∨ (mthr_3 = 0 ∧ z9_6 = z6_4) from by exact q_9)⟩ hP hD hS

set_option maxHeartbeats 4000000 in
set_option maxRecDepth 100000 in
theorem c_X11_addLeg (l : Launch) (D : va_G) (tA : Nat → ClassId) (a0 a1 a2 a3 a4 a5 a6 a7 a8 a9 a10 : Nat) (sz : Nat) (ms : Int → Int) (mbef : Int → Int) (msav : Int → Int) (misv : Int) (mpast : Int → Int) (mpm : Int) (mthr : Int) (mways : Int → Int) (mnds : Int → Int) (mtkp : Int → Int) (mline : Int → Int) (mlm : Int) (mtxt : Int → Int) (mlen : Int) (mat : Int) (mwr : Int) (merr : Int) (mfail : Int) (mcmd : Int → Int) (mcm : Int) (frm : Int) (too : Int) (w : Int) (r : Int) (r_frm : -2147483648 ≤ frm ∧ frm ≤ 2147483647) (r_too : -2147483648 ≤ too ∧ too ≤ 2147483647) (r_w : -2147483648 ≤ w ∧ w ≤ 2147483647) (r_r : -2147483648 ≤ r ∧ r ≤ 2147483647) (hp : 0 ≤ ms 0 ∧ ms 0 ≤ 10) (hlr : MLr ms) (hpm : 0 ≤ mpm ∧ mpm ≤ 8) : zMi l yX11_addLeg wsX11_addLeg ({ frames := 3, cells := 0, slots := 0, locals := 70 }) D tA [.ref a0, .int (iI frm), .int (iI too), .int (iI w), .int (iI r)] (bModel tA a0 a1 a2 a3 a4 a5 a6 a7 a8 a9 a10 ms mbef msav misv mpast mpm mthr mways mnds mtkp mline mlm mtxt mlen mat mwr merr mfail mcmd mcm) sz (fun (z : Int) (u : (Int) × (Int → Int) × (Int)) => (mAddLeg ms frm too w r u.2.2 u.1 u.2.1) ∧ ((0 < u.1 ∧ z = 0) ∨ (u.1 = 0 ∧ z = u.2.2))) (fun (u : (Int) × (Int → Int) × (Int)) => bModel tA a0 a1 a2 a3 a4 a5 a6 a7 a8 a9 a10 (if 0 < u.1 then ms else u.2.1) ms msav misv (if 0 < u.1 then mpast else pastP ms mpm mpast) (if 0 < u.1 then mpm else if mpm = 8 then 8 else mpm + 1) u.1 mways mnds mtkp mline mlm mtxt mlen mat mwr merr mfail mcmd mcm) 0 0 := by
  refine zMi_of (cc := cX11_addLeg) (maxL := 5) (by decide) rfl (fun z u h => rfl) (Nat.le_of_ble_eq_true rfl) ?_
  intro p e s m args below meth c A Q ls hx hb hml hts hown hK hP hD hA hret hl
  obtain ⟨H, hHe⟩ : ∃ H : Heap, H = s.heap := ⟨_, rfl⟩
  have hS : va_S A s.heap H [] := by rw [hHe]; exact va_S.rf
  rw [← hHe] at hP ⊢
  have hl : lv_has ls 5 [(0, .ref a0), (1, .int (iI frm)), (2, .int (iI too)), (3, .int (iI w)), (4, .int (iI r))] := hl
  refine lv_aload_n hx hb dX11_addLeg_0 rfl (lv_at hl 0 rfl) ?_
  refine zz_callVv (As := []) (rest := []) (wf := fun u => bModel tA a0 a1 a2 a3 a4 a5 a6 a7 a8 a9 a10 ms ms msav misv mpast mpm 0 mways mnds mtkp mline mlm mtxt mlen mat mwr merr mfail mcmd mcm) ⟨hx, hb, hml, hown, hts⟩ (c_X11_keep l D tA a0 a1 a2 a3 a4 a5 a6 a7 a8 a9 a10 H.size ms mbef msav misv mpast mpm mthr mways mnds mtkp mline mlm mtxt mlen mat mwr merr mfail mcmd mcm) (cwV 0 hts gX11_addLeg_X11_keep rfl rfl rfl (by decide +kernel) ⟨Nat.le_of_ble_eq_true rfl, Nat.le_of_ble_eq_true rfl⟩) hK hP hD hS hA [0, 1, 2, 3, 4, 5, 6, 7, 8, 9, 10] [] [0, 1, 2, 3, 4, 5, 6, 7, 8, 9, 10] rfl rfl (by decide) (by decide) (by decide) (by decide) (fun _ => rfl) (ci := 13) (q0 := 0) rfl rfl rfl rfl rfl hl.1 (Nat.le_of_ble_eq_true rfl) dX11_addLeg_1 ⟨Nat.le_of_ble_eq_true rfl, Nat.le_of_ble_eq_true rfl⟩ ?_
  intro u H locs p1_1 hP hD hS
  have hP : va_P D vwCl (bModel tA a0 a1 a2 a3 a4 a5 a6 a7 a8 a9 a10 ms ms msav misv mpast mpm 0 mways mnds mtkp mline mlm mtxt mlen mat mwr merr mfail mcmd mcm) H := hP
  have hD : va_D A (bModel tA a0 a1 a2 a3 a4 a5 a6 a7 a8 a9 a10 ms ms msav misv mpast mpm 0 mways mnds mtkp mline mlm mtxt mlen mat mwr merr mfail mcmd mcm) := hD
  refine lv_aload_n hx hb dX11_addLeg_4 rfl (lv_at hl 0 rfl) ?_
  refine lv_aload_n hx hb dX11_addLeg_5 rfl (lv_at hl 0 rfl) ?_
  refine lv_iload_n hx hb dX11_addLeg_6 rfl (lv_at hl 1 rfl) ?_
  refine lv_iload_n hx hb dX11_addLeg_7 rfl (lv_at hl 2 rfl) ?_
  refine lv_iload_n hx hb dX11_addLeg_8 rfl (lv_at hl 3 rfl) ?_
  refine lv_iload hx hb dX11_addLeg_9 (lv_at hl 4 rfl) ?_
  refine zz_callVi (As := [.int (iI frm), .int (iI too), .int (iI w), .int (iI r)]) (rest := [.ref a0]) (wf := fun u => bModel tA a0 a1 a2 a3 a4 a5 a6 a7 a8 a9 a10 u.1 ms msav misv mpast mpm u.2 mways mnds mtkp mline mlm mtxt mlen mat mwr merr mfail mcmd mcm) ⟨hx, hb, hml, hown, hts⟩ (c_X11_doAddLeg l D tA a0 a1 a2 a3 a4 a5 a6 a7 a8 a9 a10 H.size ms ms msav misv mpast mpm 0 mways mnds mtkp mline mlm mtxt mlen mat mwr merr mfail mcmd mcm frm too w r (by first | assumption | omega) (by first | assumption | omega) (by first | assumption | omega) (by first | assumption | omega) (by first | assumption | omega) (by first | assumption | omega) (by first | assumption | omega)) (cwV 4 hts gX11_addLeg_X11_doAddLeg rfl rfl rfl (by decide +kernel) ⟨Nat.le_of_ble_eq_true rfl, Nat.le_of_ble_eq_true rfl⟩) hK hP hD hS hA [0, 1, 2, 3, 4, 5, 6, 7, 8, 9, 10] [] [0, 1, 2, 3, 4, 5, 6, 7, 8, 9, 10] rfl rfl (by decide) (by decide) (by decide) (by decide) (fun _ => rfl) (ci := 13) (q0 := 0) rfl rfl rfl rfl rfl hl.1 (Nat.le_of_ble_eq_true rfl) dX11_addLeg_11 ⟨Nat.le_of_ble_eq_true rfl, Nat.le_of_ble_eq_true rfl⟩ ?_
  intro z11_4 u H locs p11_5 hP hD hS
  obtain ⟨ms_2, mthr_3⟩ := u
  have hP : va_P D vwCl (bModel tA a0 a1 a2 a3 a4 a5 a6 a7 a8 a9 a10 ms_2 ms msav misv mpast mpm mthr_3 mways mnds mtkp mline mlm mtxt mlen mat mwr merr mfail mcmd mcm) H := hP
  have hD : va_D A (bModel tA a0 a1 a2 a3 a4 a5 a6 a7 a8 a9 a10 ms_2 ms msav misv mpast mpm mthr_3 mways mnds mtkp mline mlm mtxt mlen mat mwr merr mfail mcmd mcm) := hD
  have q_11 : mAddLeg ms frm too w r z11_4 mthr_3 ms_2 := p11_5
  have ht := mAddLeg_t q_11
  refine zz_callVi (As := [.int (iI z11_4)]) (rest := []) (wf := fun u => bModel tA a0 a1 a2 a3 a4 a5 a6 a7 a8 a9 a10 (if 0 < mthr_3 then ms else ms_2) ms msav misv (if 0 < mthr_3 then mpast else pastP ms mpm mpast) (if 0 < mthr_3 then mpm else if mpm = 8 then 8 else mpm + 1) mthr_3 mways mnds mtkp mline mlm mtxt mlen mat mwr merr mfail mcmd mcm) ⟨hx, hb, hml, hown, hts⟩ (c_X11_ends l D tA a0 a1 a2 a3 a4 a5 a6 a7 a8 a9 a10 H.size ms_2 ms msav misv mpast mpm mthr_3 mways mnds mtkp mline mlm mtxt mlen mat mwr merr mfail mcmd mcm z11_4 (by first | assumption | omega) (by first | assumption | omega)) (cwV 1 hts gX11_addLeg_X11_ends rfl rfl rfl (by decide +kernel) ⟨Nat.le_of_ble_eq_true rfl, Nat.le_of_ble_eq_true rfl⟩) hK hP hD hS hA [0, 1, 2, 3, 4, 5, 6, 7, 8, 9, 10] [] [0, 1, 2, 3, 4, 5, 6, 7, 8, 9, 10] rfl rfl (by decide) (by decide) (by decide) (by decide) (fun _ => rfl) (ci := 13) (q0 := 0) rfl rfl rfl rfl rfl hl.1 (Nat.le_of_ble_eq_true rfl) dX11_addLeg_14 ⟨Nat.le_of_ble_eq_true rfl, Nat.le_of_ble_eq_true rfl⟩ ?_
  intro z14_6 u H locs p14_7 hP hD hS
  have hP : va_P D vwCl (bModel tA a0 a1 a2 a3 a4 a5 a6 a7 a8 a9 a10 (if 0 < mthr_3 then ms else ms_2) ms msav misv (if 0 < mthr_3 then mpast else pastP ms mpm mpast) (if 0 < mthr_3 then mpm else if mpm = 8 then 8 else mpm + 1) mthr_3 mways mnds mtkp mline mlm mtxt mlen mat mwr merr mfail mcmd mcm) H := hP
  have hD : va_D A (bModel tA a0 a1 a2 a3 a4 a5 a6 a7 a8 a9 a10 (if 0 < mthr_3 then ms else ms_2) ms msav misv (if 0 < mthr_3 then mpast else pastP ms mpm mpast) (if 0 < mthr_3 then mpm else if mpm = 8 then 8 else mpm + 1) mthr_3 mways mnds mtkp mline mlm mtxt mlen mat mwr merr mfail mcmd mcm) := hD
  have q_14 : ((0 : Int) < mthr_3 ∧ z14_6 = 0) ∨ (mthr_3 = (0 : Int) ∧ z14_6 = z11_4) := p14_7
  exact hret z14_6 (mthr_3, ms_2, z11_4) _ _ _ _ dX11_addLeg_17 ⟨(show mAddLeg ms frm too w r z11_4 mthr_3 ms_2 from by exact q_11), (show (0 < mthr_3 ∧ z14_6 = 0) ∨ (mthr_3 = 0 ∧ z14_6 = z11_4) from by exact q_14)⟩ hP hD hS

set_option maxHeartbeats 4000000 in
set_option maxRecDepth 100000 in
theorem c_X11_removeLeg (l : Launch) (D : va_G) (tA : Nat → ClassId) (a0 a1 a2 a3 a4 a5 a6 a7 a8 a9 a10 : Nat) (sz : Nat) (ms : Int → Int) (mbef : Int → Int) (msav : Int → Int) (misv : Int) (mpast : Int → Int) (mpm : Int) (mthr : Int) (mways : Int → Int) (mnds : Int → Int) (mtkp : Int → Int) (mline : Int → Int) (mlm : Int) (mtxt : Int → Int) (mlen : Int) (mat : Int) (mwr : Int) (merr : Int) (mfail : Int) (mcmd : Int → Int) (mcm : Int) (frm : Int) (too : Int) (r_frm : -2147483648 ≤ frm ∧ frm ≤ 2147483647) (r_too : -2147483648 ≤ too ∧ too ≤ 2147483647) (hp : 0 ≤ ms 0 ∧ ms 0 ≤ 10) (hlr : MLr ms) (hpm : 0 ≤ mpm ∧ mpm ≤ 8) : zMi l yX11_removeLeg wsX11_removeLeg ({ frames := 3, cells := 0, slots := 0, locals := 67 }) D tA [.ref a0, .int (iI frm), .int (iI too)] (bModel tA a0 a1 a2 a3 a4 a5 a6 a7 a8 a9 a10 ms mbef msav misv mpast mpm mthr mways mnds mtkp mline mlm mtxt mlen mat mwr merr mfail mcmd mcm) sz (fun (z : Int) (u : (Int) × (Int → Int) × (Int)) => (mRemoveLeg ms frm too u.2.2 u.1 u.2.1) ∧ ((0 < u.1 ∧ z = 0) ∨ (u.1 = 0 ∧ z = u.2.2))) (fun (u : (Int) × (Int → Int) × (Int)) => bModel tA a0 a1 a2 a3 a4 a5 a6 a7 a8 a9 a10 (if 0 < u.1 then ms else u.2.1) ms msav misv (if 0 < u.1 then mpast else pastP ms mpm mpast) (if 0 < u.1 then mpm else if mpm = 8 then 8 else mpm + 1) u.1 mways mnds mtkp mline mlm mtxt mlen mat mwr merr mfail mcmd mcm) 0 0 := by
  refine zMi_of (cc := cX11_removeLeg) (maxL := 3) (by decide) rfl (fun z u h => rfl) (Nat.le_of_ble_eq_true rfl) ?_
  intro p e s m args below meth c A Q ls hx hb hml hts hown hK hP hD hA hret hl
  obtain ⟨H, hHe⟩ : ∃ H : Heap, H = s.heap := ⟨_, rfl⟩
  have hS : va_S A s.heap H [] := by rw [hHe]; exact va_S.rf
  rw [← hHe] at hP ⊢
  have hl : lv_has ls 3 [(0, .ref a0), (1, .int (iI frm)), (2, .int (iI too))] := hl
  refine lv_aload_n hx hb dX11_removeLeg_0 rfl (lv_at hl 0 rfl) ?_
  refine zz_callVv (As := []) (rest := []) (wf := fun u => bModel tA a0 a1 a2 a3 a4 a5 a6 a7 a8 a9 a10 ms ms msav misv mpast mpm 0 mways mnds mtkp mline mlm mtxt mlen mat mwr merr mfail mcmd mcm) ⟨hx, hb, hml, hown, hts⟩ (c_X11_keep l D tA a0 a1 a2 a3 a4 a5 a6 a7 a8 a9 a10 H.size ms mbef msav misv mpast mpm mthr mways mnds mtkp mline mlm mtxt mlen mat mwr merr mfail mcmd mcm) (cwV 0 hts gX11_removeLeg_X11_keep rfl rfl rfl (by decide +kernel) ⟨Nat.le_of_ble_eq_true rfl, Nat.le_of_ble_eq_true rfl⟩) hK hP hD hS hA [0, 1, 2, 3, 4, 5, 6, 7, 8, 9, 10] [] [0, 1, 2, 3, 4, 5, 6, 7, 8, 9, 10] rfl rfl (by decide) (by decide) (by decide) (by decide) (fun _ => rfl) (ci := 13) (q0 := 0) rfl rfl rfl rfl rfl hl.1 (Nat.le_of_ble_eq_true rfl) dX11_removeLeg_1 ⟨Nat.le_of_ble_eq_true rfl, Nat.le_of_ble_eq_true rfl⟩ ?_
  intro u H locs p1_1 hP hD hS
  have hP : va_P D vwCl (bModel tA a0 a1 a2 a3 a4 a5 a6 a7 a8 a9 a10 ms ms msav misv mpast mpm 0 mways mnds mtkp mline mlm mtxt mlen mat mwr merr mfail mcmd mcm) H := hP
  have hD : va_D A (bModel tA a0 a1 a2 a3 a4 a5 a6 a7 a8 a9 a10 ms ms msav misv mpast mpm 0 mways mnds mtkp mline mlm mtxt mlen mat mwr merr mfail mcmd mcm) := hD
  refine lv_aload_n hx hb dX11_removeLeg_4 rfl (lv_at hl 0 rfl) ?_
  refine lv_aload_n hx hb dX11_removeLeg_5 rfl (lv_at hl 0 rfl) ?_
  refine lv_iload_n hx hb dX11_removeLeg_6 rfl (lv_at hl 1 rfl) ?_
  refine lv_iload_n hx hb dX11_removeLeg_7 rfl (lv_at hl 2 rfl) ?_
  refine zz_callVi (As := [.int (iI frm), .int (iI too)]) (rest := [.ref a0]) (wf := fun u => bModel tA a0 a1 a2 a3 a4 a5 a6 a7 a8 a9 a10 u.1 ms msav misv mpast mpm u.2 mways mnds mtkp mline mlm mtxt mlen mat mwr merr mfail mcmd mcm) ⟨hx, hb, hml, hown, hts⟩ (c_X11_doRemoveLeg l D tA a0 a1 a2 a3 a4 a5 a6 a7 a8 a9 a10 H.size ms ms msav misv mpast mpm 0 mways mnds mtkp mline mlm mtxt mlen mat mwr merr mfail mcmd mcm frm too (by first | assumption | omega) (by first | assumption | omega) (by first | assumption | omega) (by first | assumption | omega) (by first | assumption | omega)) (cwV 2 hts gX11_removeLeg_X11_doRemoveLeg rfl rfl rfl (by decide +kernel) ⟨Nat.le_of_ble_eq_true rfl, Nat.le_of_ble_eq_true rfl⟩) hK hP hD hS hA [0, 1, 2, 3, 4, 5, 6, 7, 8, 9, 10] [] [0, 1, 2, 3, 4, 5, 6, 7, 8, 9, 10] rfl rfl (by decide) (by decide) (by decide) (by decide) (fun _ => rfl) (ci := 13) (q0 := 0) rfl rfl rfl rfl rfl hl.1 (Nat.le_of_ble_eq_true rfl) dX11_removeLeg_8 ⟨Nat.le_of_ble_eq_true rfl, Nat.le_of_ble_eq_true rfl⟩ ?_
  intro z8_4 u H locs p8_5 hP hD hS
  obtain ⟨ms_2, mthr_3⟩ := u
  have hP : va_P D vwCl (bModel tA a0 a1 a2 a3 a4 a5 a6 a7 a8 a9 a10 ms_2 ms msav misv mpast mpm mthr_3 mways mnds mtkp mline mlm mtxt mlen mat mwr merr mfail mcmd mcm) H := hP
  have hD : va_D A (bModel tA a0 a1 a2 a3 a4 a5 a6 a7 a8 a9 a10 ms_2 ms msav misv mpast mpm mthr_3 mways mnds mtkp mline mlm mtxt mlen mat mwr merr mfail mcmd mcm) := hD
  have q_8 : mRemoveLeg ms frm too z8_4 mthr_3 ms_2 := p8_5
  have ht := mRemoveLeg_t q_8
  refine zz_callVi (As := [.int (iI z8_4)]) (rest := []) (wf := fun u => bModel tA a0 a1 a2 a3 a4 a5 a6 a7 a8 a9 a10 (if 0 < mthr_3 then ms else ms_2) ms msav misv (if 0 < mthr_3 then mpast else pastP ms mpm mpast) (if 0 < mthr_3 then mpm else if mpm = 8 then 8 else mpm + 1) mthr_3 mways mnds mtkp mline mlm mtxt mlen mat mwr merr mfail mcmd mcm) ⟨hx, hb, hml, hown, hts⟩ (c_X11_ends l D tA a0 a1 a2 a3 a4 a5 a6 a7 a8 a9 a10 H.size ms_2 ms msav misv mpast mpm mthr_3 mways mnds mtkp mline mlm mtxt mlen mat mwr merr mfail mcmd mcm z8_4 (by first | assumption | omega) (by first | assumption | omega)) (cwV 1 hts gX11_removeLeg_X11_ends rfl rfl rfl (by decide +kernel) ⟨Nat.le_of_ble_eq_true rfl, Nat.le_of_ble_eq_true rfl⟩) hK hP hD hS hA [0, 1, 2, 3, 4, 5, 6, 7, 8, 9, 10] [] [0, 1, 2, 3, 4, 5, 6, 7, 8, 9, 10] rfl rfl (by decide) (by decide) (by decide) (by decide) (fun _ => rfl) (ci := 13) (q0 := 0) rfl rfl rfl rfl rfl hl.1 (Nat.le_of_ble_eq_true rfl) dX11_removeLeg_11 ⟨Nat.le_of_ble_eq_true rfl, Nat.le_of_ble_eq_true rfl⟩ ?_
  intro z11_6 u H locs p11_7 hP hD hS
  have hP : va_P D vwCl (bModel tA a0 a1 a2 a3 a4 a5 a6 a7 a8 a9 a10 (if 0 < mthr_3 then ms else ms_2) ms msav misv (if 0 < mthr_3 then mpast else pastP ms mpm mpast) (if 0 < mthr_3 then mpm else if mpm = 8 then 8 else mpm + 1) mthr_3 mways mnds mtkp mline mlm mtxt mlen mat mwr merr mfail mcmd mcm) H := hP
  have hD : va_D A (bModel tA a0 a1 a2 a3 a4 a5 a6 a7 a8 a9 a10 (if 0 < mthr_3 then ms else ms_2) ms msav misv (if 0 < mthr_3 then mpast else pastP ms mpm mpast) (if 0 < mthr_3 then mpm else if mpm = 8 then 8 else mpm + 1) mthr_3 mways mnds mtkp mline mlm mtxt mlen mat mwr merr mfail mcmd mcm) := hD
  have q_11 : ((0 : Int) < mthr_3 ∧ z11_6 = 0) ∨ (mthr_3 = (0 : Int) ∧ z11_6 = z8_4) := p11_7
  exact hret z11_6 (mthr_3, ms_2, z8_4) _ _ _ _ dX11_removeLeg_14 ⟨(show mRemoveLeg ms frm too z8_4 mthr_3 ms_2 from by exact q_8), (show (0 < mthr_3 ∧ z11_6 = 0) ∨ (mthr_3 = 0 ∧ z11_6 = z8_4) from by exact q_11)⟩ hP hD hS

set_option maxHeartbeats 4000000 in
set_option maxRecDepth 100000 in
theorem c_X11_subscribe (l : Launch) (D : va_G) (tA : Nat → ClassId) (a0 a1 a2 a3 a4 a5 a6 a7 a8 a9 a10 : Nat) (sz : Nat) (ms : Int → Int) (mbef : Int → Int) (msav : Int → Int) (misv : Int) (mpast : Int → Int) (mpm : Int) (mthr : Int) (mways : Int → Int) (mnds : Int → Int) (mtkp : Int → Int) (mline : Int → Int) (mlm : Int) (mtxt : Int → Int) (mlen : Int) (mat : Int) (mwr : Int) (merr : Int) (mfail : Int) (mcmd : Int → Int) (mcm : Int) (frm : Int) (too : Int) (w : Int) (r_frm : -2147483648 ≤ frm ∧ frm ≤ 2147483647) (r_too : -2147483648 ≤ too ∧ too ≤ 2147483647) (r_w : -2147483648 ≤ w ∧ w ≤ 2147483647) (hm : MV ms) (hpm : 0 ≤ mpm ∧ mpm ≤ 8) : zMi l yX11_subscribe wsX11_subscribe ({ frames := 4, cells := 0, slots := 0, locals := 95 }) D tA [.ref a0, .int (iI frm), .int (iI too), .int (iI w)] (bModel tA a0 a1 a2 a3 a4 a5 a6 a7 a8 a9 a10 ms mbef msav misv mpast mpm mthr mways mnds mtkp mline mlm mtxt mlen mat mwr merr mfail mcmd mcm) sz (fun (z : Int) (u : (Int → Int) × (Int) × (Int → Int) × (Int)) => (mSubscribe ms frm too w u.2.2.2 u.2.1 u.2.2.1) ∧ ((0 < u.2.1 ∧ z = 0) ∨ (u.2.1 = 0 ∧ z = u.2.2.2))) (fun (u : (Int → Int) × (Int) × (Int → Int) × (Int)) => bModel tA a0 a1 a2 a3 a4 a5 a6 a7 a8 a9 a10 (if 0 < u.2.1 then ms else u.2.2.1) ms msav misv (if 0 < u.2.1 then mpast else pastP ms mpm mpast) (if 0 < u.2.1 then mpm else if mpm = 8 then 8 else mpm + 1) u.2.1 u.1 mnds mtkp mline mlm mtxt mlen mat mwr merr mfail mcmd mcm) 0 0 := by
  refine zMi_of (cc := cX11_subscribe) (maxL := 4) (by decide) rfl (fun z u h => rfl) (Nat.le_of_ble_eq_true rfl) ?_
  intro p e s m args below meth c A Q ls hx hb hml hts hown hK hP hD hA hret hl
  obtain ⟨H, hHe⟩ : ∃ H : Heap, H = s.heap := ⟨_, rfl⟩
  have hS : va_S A s.heap H [] := by rw [hHe]; exact va_S.rf
  rw [← hHe] at hP ⊢
  have hl : lv_has ls 4 [(0, .ref a0), (1, .int (iI frm)), (2, .int (iI too)), (3, .int (iI w))] := hl
  refine lv_aload_n hx hb dX11_subscribe_0 rfl (lv_at hl 0 rfl) ?_
  refine zz_callVv (As := []) (rest := []) (wf := fun u => bModel tA a0 a1 a2 a3 a4 a5 a6 a7 a8 a9 a10 ms ms msav misv mpast mpm 0 mways mnds mtkp mline mlm mtxt mlen mat mwr merr mfail mcmd mcm) ⟨hx, hb, hml, hown, hts⟩ (c_X11_keep l D tA a0 a1 a2 a3 a4 a5 a6 a7 a8 a9 a10 H.size ms mbef msav misv mpast mpm mthr mways mnds mtkp mline mlm mtxt mlen mat mwr merr mfail mcmd mcm) (cwV 0 hts gX11_subscribe_X11_keep rfl rfl rfl (by decide +kernel) ⟨Nat.le_of_ble_eq_true rfl, Nat.le_of_ble_eq_true rfl⟩) hK hP hD hS hA [0, 1, 2, 3, 4, 5, 6, 7, 8, 9, 10] [] [0, 1, 2, 3, 4, 5, 6, 7, 8, 9, 10] rfl rfl (by decide) (by decide) (by decide) (by decide) (fun _ => rfl) (ci := 13) (q0 := 0) rfl rfl rfl rfl rfl hl.1 (Nat.le_of_ble_eq_true rfl) dX11_subscribe_1 ⟨Nat.le_of_ble_eq_true rfl, Nat.le_of_ble_eq_true rfl⟩ ?_
  intro u H locs p1_1 hP hD hS
  have hP : va_P D vwCl (bModel tA a0 a1 a2 a3 a4 a5 a6 a7 a8 a9 a10 ms ms msav misv mpast mpm 0 mways mnds mtkp mline mlm mtxt mlen mat mwr merr mfail mcmd mcm) H := hP
  have hD : va_D A (bModel tA a0 a1 a2 a3 a4 a5 a6 a7 a8 a9 a10 ms ms msav misv mpast mpm 0 mways mnds mtkp mline mlm mtxt mlen mat mwr merr mfail mcmd mcm) := hD
  refine lv_aload_n hx hb dX11_subscribe_4 rfl (lv_at hl 0 rfl) ?_
  refine lv_aload_n hx hb dX11_subscribe_5 rfl (lv_at hl 0 rfl) ?_
  refine lv_iload_n hx hb dX11_subscribe_6 rfl (lv_at hl 1 rfl) ?_
  refine lv_iload_n hx hb dX11_subscribe_7 rfl (lv_at hl 2 rfl) ?_
  refine lv_iload_n hx hb dX11_subscribe_8 rfl (lv_at hl 3 rfl) ?_
  refine zz_callVi (As := [.int (iI frm), .int (iI too), .int (iI w)]) (rest := [.ref a0]) (wf := fun u => bModel tA a0 a1 a2 a3 a4 a5 a6 a7 a8 a9 a10 u.1 ms msav misv mpast mpm u.2.1 u.2.2 mnds mtkp mline mlm mtxt mlen mat mwr merr mfail mcmd mcm) ⟨hx, hb, hml, hown, hts⟩ (c_X11_doSubscribe l D tA a0 a1 a2 a3 a4 a5 a6 a7 a8 a9 a10 H.size ms ms msav misv mpast mpm 0 mways mnds mtkp mline mlm mtxt mlen mat mwr merr mfail mcmd mcm frm too w (by first | assumption | omega) (by first | assumption | omega) (by first | assumption | omega) (by first | assumption | omega) (by first | assumption | omega)) (cwV 3 hts gX11_subscribe_X11_doSubscribe rfl rfl rfl (by decide +kernel) ⟨Nat.le_of_ble_eq_true rfl, Nat.le_of_ble_eq_true rfl⟩) hK hP hD hS hA [0, 1, 2, 3, 4, 5, 6, 7, 8, 9, 10] [] [0, 1, 2, 3, 4, 5, 6, 7, 8, 9, 10] rfl rfl (by decide) (by decide) (by decide) (by decide) (fun _ => rfl) (ci := 13) (q0 := 0) rfl rfl rfl rfl rfl hl.1 (Nat.le_of_ble_eq_true rfl) dX11_subscribe_9 ⟨Nat.le_of_ble_eq_true rfl, Nat.le_of_ble_eq_true rfl⟩ ?_
  intro z9_5 u H locs p9_6 hP hD hS
  obtain ⟨ms_2, mthr_3, mways_4⟩ := u
  have hP : va_P D vwCl (bModel tA a0 a1 a2 a3 a4 a5 a6 a7 a8 a9 a10 ms_2 ms msav misv mpast mpm mthr_3 mways_4 mnds mtkp mline mlm mtxt mlen mat mwr merr mfail mcmd mcm) H := hP
  have hD : va_D A (bModel tA a0 a1 a2 a3 a4 a5 a6 a7 a8 a9 a10 ms_2 ms msav misv mpast mpm mthr_3 mways_4 mnds mtkp mline mlm mtxt mlen mat mwr merr mfail mcmd mcm) := hD
  have q_9 : mSubscribe ms frm too w z9_5 mthr_3 ms_2 := p9_6
  have ht := mSubscribe_t q_9
  refine zz_callVi (As := [.int (iI z9_5)]) (rest := []) (wf := fun u => bModel tA a0 a1 a2 a3 a4 a5 a6 a7 a8 a9 a10 (if 0 < mthr_3 then ms else ms_2) ms msav misv (if 0 < mthr_3 then mpast else pastP ms mpm mpast) (if 0 < mthr_3 then mpm else if mpm = 8 then 8 else mpm + 1) mthr_3 mways_4 mnds mtkp mline mlm mtxt mlen mat mwr merr mfail mcmd mcm) ⟨hx, hb, hml, hown, hts⟩ (c_X11_ends l D tA a0 a1 a2 a3 a4 a5 a6 a7 a8 a9 a10 H.size ms_2 ms msav misv mpast mpm mthr_3 mways_4 mnds mtkp mline mlm mtxt mlen mat mwr merr mfail mcmd mcm z9_5 (by first | assumption | omega) (by first | assumption | omega)) (cwV 1 hts gX11_subscribe_X11_ends rfl rfl rfl (by decide +kernel) ⟨Nat.le_of_ble_eq_true rfl, Nat.le_of_ble_eq_true rfl⟩) hK hP hD hS hA [0, 1, 2, 3, 4, 5, 6, 7, 8, 9, 10] [] [0, 1, 2, 3, 4, 5, 6, 7, 8, 9, 10] rfl rfl (by decide) (by decide) (by decide) (by decide) (fun _ => rfl) (ci := 13) (q0 := 0) rfl rfl rfl rfl rfl hl.1 (Nat.le_of_ble_eq_true rfl) dX11_subscribe_12 ⟨Nat.le_of_ble_eq_true rfl, Nat.le_of_ble_eq_true rfl⟩ ?_
  intro z12_7 u H locs p12_8 hP hD hS
  have hP : va_P D vwCl (bModel tA a0 a1 a2 a3 a4 a5 a6 a7 a8 a9 a10 (if 0 < mthr_3 then ms else ms_2) ms msav misv (if 0 < mthr_3 then mpast else pastP ms mpm mpast) (if 0 < mthr_3 then mpm else if mpm = 8 then 8 else mpm + 1) mthr_3 mways_4 mnds mtkp mline mlm mtxt mlen mat mwr merr mfail mcmd mcm) H := hP
  have hD : va_D A (bModel tA a0 a1 a2 a3 a4 a5 a6 a7 a8 a9 a10 (if 0 < mthr_3 then ms else ms_2) ms msav misv (if 0 < mthr_3 then mpast else pastP ms mpm mpast) (if 0 < mthr_3 then mpm else if mpm = 8 then 8 else mpm + 1) mthr_3 mways_4 mnds mtkp mline mlm mtxt mlen mat mwr merr mfail mcmd mcm) := hD
  have q_12 : ((0 : Int) < mthr_3 ∧ z12_7 = 0) ∨ (mthr_3 = (0 : Int) ∧ z12_7 = z9_5) := p12_8
  exact hret z12_7 (mways_4, mthr_3, ms_2, z9_5) _ _ _ _ dX11_subscribe_15 ⟨(show mSubscribe ms frm too w z9_5 mthr_3 ms_2 from by exact q_9), (show (0 < mthr_3 ∧ z12_7 = 0) ∨ (mthr_3 = 0 ∧ z12_7 = z9_5) from by exact q_12)⟩ hP hD hS

set_option maxHeartbeats 4000000 in
set_option maxRecDepth 100000 in
theorem c_X11_leave (l : Launch) (D : va_G) (tA : Nat → ClassId) (a0 a1 a2 a3 a4 a5 a6 a7 a8 a9 a10 : Nat) (sz : Nat) (ms : Int → Int) (mbef : Int → Int) (msav : Int → Int) (misv : Int) (mpast : Int → Int) (mpm : Int) (mthr : Int) (mways : Int → Int) (mnds : Int → Int) (mtkp : Int → Int) (mline : Int → Int) (mlm : Int) (mtxt : Int → Int) (mlen : Int) (mat : Int) (mwr : Int) (merr : Int) (mfail : Int) (mcmd : Int → Int) (mcm : Int) (sb : Int) (r_sb : -2147483648 ≤ sb ∧ sb ≤ 2147483647) (hc : 0 ≤ ms 1 ∧ ms 1 ≤ 6) (hpm : 0 ≤ mpm ∧ mpm ≤ 8) : zMi l yX11_leave wsX11_leave ({ frames := 3, cells := 0, slots := 0, locals := 66 }) D tA [.ref a0, .int (iI sb)] (bModel tA a0 a1 a2 a3 a4 a5 a6 a7 a8 a9 a10 ms mbef msav misv mpast mpm mthr mways mnds mtkp mline mlm mtxt mlen mat mwr merr mfail mcmd mcm) sz (fun (z : Int) (u : (Int) × (Int → Int) × (Int)) => (mLeave ms sb u.2.2 u.1 u.2.1) ∧ ((0 < u.1 ∧ z = 0) ∨ (u.1 = 0 ∧ z = u.2.2))) (fun (u : (Int) × (Int → Int) × (Int)) => bModel tA a0 a1 a2 a3 a4 a5 a6 a7 a8 a9 a10 (if 0 < u.1 then ms else u.2.1) ms msav misv (if 0 < u.1 then mpast else pastP ms mpm mpast) (if 0 < u.1 then mpm else if mpm = 8 then 8 else mpm + 1) u.1 mways mnds mtkp mline mlm mtxt mlen mat mwr merr mfail mcmd mcm) 0 0 := by
  refine zMi_of (cc := cX11_leave) (maxL := 2) (by decide) rfl (fun z u h => rfl) (Nat.le_of_ble_eq_true rfl) ?_
  intro p e s m args below meth c A Q ls hx hb hml hts hown hK hP hD hA hret hl
  obtain ⟨H, hHe⟩ : ∃ H : Heap, H = s.heap := ⟨_, rfl⟩
  have hS : va_S A s.heap H [] := by rw [hHe]; exact va_S.rf
  rw [← hHe] at hP ⊢
  have hl : lv_has ls 2 [(0, .ref a0), (1, .int (iI sb))] := hl
  refine lv_aload_n hx hb dX11_leave_0 rfl (lv_at hl 0 rfl) ?_
  refine zz_callVv (As := []) (rest := []) (wf := fun u => bModel tA a0 a1 a2 a3 a4 a5 a6 a7 a8 a9 a10 ms ms msav misv mpast mpm 0 mways mnds mtkp mline mlm mtxt mlen mat mwr merr mfail mcmd mcm) ⟨hx, hb, hml, hown, hts⟩ (c_X11_keep l D tA a0 a1 a2 a3 a4 a5 a6 a7 a8 a9 a10 H.size ms mbef msav misv mpast mpm mthr mways mnds mtkp mline mlm mtxt mlen mat mwr merr mfail mcmd mcm) (cwV 0 hts gX11_leave_X11_keep rfl rfl rfl (by decide +kernel) ⟨Nat.le_of_ble_eq_true rfl, Nat.le_of_ble_eq_true rfl⟩) hK hP hD hS hA [0, 1, 2, 3, 4, 5, 6, 7, 8, 9, 10] [] [0, 1, 2, 3, 4, 5, 6, 7, 8, 9, 10] rfl rfl (by decide) (by decide) (by decide) (by decide) (fun _ => rfl) (ci := 13) (q0 := 0) rfl rfl rfl rfl rfl hl.1 (Nat.le_of_ble_eq_true rfl) dX11_leave_1 ⟨Nat.le_of_ble_eq_true rfl, Nat.le_of_ble_eq_true rfl⟩ ?_
  intro u H locs p1_1 hP hD hS
  have hP : va_P D vwCl (bModel tA a0 a1 a2 a3 a4 a5 a6 a7 a8 a9 a10 ms ms msav misv mpast mpm 0 mways mnds mtkp mline mlm mtxt mlen mat mwr merr mfail mcmd mcm) H := hP
  have hD : va_D A (bModel tA a0 a1 a2 a3 a4 a5 a6 a7 a8 a9 a10 ms ms msav misv mpast mpm 0 mways mnds mtkp mline mlm mtxt mlen mat mwr merr mfail mcmd mcm) := hD
  refine lv_aload_n hx hb dX11_leave_4 rfl (lv_at hl 0 rfl) ?_
  refine lv_aload_n hx hb dX11_leave_5 rfl (lv_at hl 0 rfl) ?_
  refine lv_iload_n hx hb dX11_leave_6 rfl (lv_at hl 1 rfl) ?_
  refine zz_callVi (As := [.int (iI sb)]) (rest := [.ref a0]) (wf := fun u => bModel tA a0 a1 a2 a3 a4 a5 a6 a7 a8 a9 a10 u.1 ms msav misv mpast mpm u.2 mways mnds mtkp mline mlm mtxt mlen mat mwr merr mfail mcmd mcm) ⟨hx, hb, hml, hown, hts⟩ (c_X11_doLeave l D tA a0 a1 a2 a3 a4 a5 a6 a7 a8 a9 a10 H.size ms ms msav misv mpast mpm 0 mways mnds mtkp mline mlm mtxt mlen mat mwr merr mfail mcmd mcm sb (by first | assumption | omega) (by first | assumption | omega) (by first | assumption | omega)) (cwV 1 hts gX11_leave_X11_doLeave rfl rfl rfl (by decide +kernel) ⟨Nat.le_of_ble_eq_true rfl, Nat.le_of_ble_eq_true rfl⟩) hK hP hD hS hA [0, 1, 2, 3, 4, 5, 6, 7, 8, 9, 10] [] [0, 1, 2, 3, 4, 5, 6, 7, 8, 9, 10] rfl rfl (by decide) (by decide) (by decide) (by decide) (fun _ => rfl) (ci := 13) (q0 := 0) rfl rfl rfl rfl rfl hl.1 (Nat.le_of_ble_eq_true rfl) dX11_leave_7 ⟨Nat.le_of_ble_eq_true rfl, Nat.le_of_ble_eq_true rfl⟩ ?_
  intro z7_4 u H locs p7_5 hP hD hS
  obtain ⟨ms_2, mthr_3⟩ := u
  have hP : va_P D vwCl (bModel tA a0 a1 a2 a3 a4 a5 a6 a7 a8 a9 a10 ms_2 ms msav misv mpast mpm mthr_3 mways mnds mtkp mline mlm mtxt mlen mat mwr merr mfail mcmd mcm) H := hP
  have hD : va_D A (bModel tA a0 a1 a2 a3 a4 a5 a6 a7 a8 a9 a10 ms_2 ms msav misv mpast mpm mthr_3 mways mnds mtkp mline mlm mtxt mlen mat mwr merr mfail mcmd mcm) := hD
  have q_7 : mLeave ms sb z7_4 mthr_3 ms_2 := p7_5
  have ht := mLeave_t q_7
  refine zz_callVi (As := [.int (iI z7_4)]) (rest := []) (wf := fun u => bModel tA a0 a1 a2 a3 a4 a5 a6 a7 a8 a9 a10 (if 0 < mthr_3 then ms else ms_2) ms msav misv (if 0 < mthr_3 then mpast else pastP ms mpm mpast) (if 0 < mthr_3 then mpm else if mpm = 8 then 8 else mpm + 1) mthr_3 mways mnds mtkp mline mlm mtxt mlen mat mwr merr mfail mcmd mcm) ⟨hx, hb, hml, hown, hts⟩ (c_X11_ends l D tA a0 a1 a2 a3 a4 a5 a6 a7 a8 a9 a10 H.size ms_2 ms msav misv mpast mpm mthr_3 mways mnds mtkp mline mlm mtxt mlen mat mwr merr mfail mcmd mcm z7_4 (by first | assumption | omega) (by first | assumption | omega)) (cwV 1 hts gX11_leave_X11_ends rfl rfl rfl (by decide +kernel) ⟨Nat.le_of_ble_eq_true rfl, Nat.le_of_ble_eq_true rfl⟩) hK hP hD hS hA [0, 1, 2, 3, 4, 5, 6, 7, 8, 9, 10] [] [0, 1, 2, 3, 4, 5, 6, 7, 8, 9, 10] rfl rfl (by decide) (by decide) (by decide) (by decide) (fun _ => rfl) (ci := 13) (q0 := 0) rfl rfl rfl rfl rfl hl.1 (Nat.le_of_ble_eq_true rfl) dX11_leave_10 ⟨Nat.le_of_ble_eq_true rfl, Nat.le_of_ble_eq_true rfl⟩ ?_
  intro z10_6 u H locs p10_7 hP hD hS
  have hP : va_P D vwCl (bModel tA a0 a1 a2 a3 a4 a5 a6 a7 a8 a9 a10 (if 0 < mthr_3 then ms else ms_2) ms msav misv (if 0 < mthr_3 then mpast else pastP ms mpm mpast) (if 0 < mthr_3 then mpm else if mpm = 8 then 8 else mpm + 1) mthr_3 mways mnds mtkp mline mlm mtxt mlen mat mwr merr mfail mcmd mcm) H := hP
  have hD : va_D A (bModel tA a0 a1 a2 a3 a4 a5 a6 a7 a8 a9 a10 (if 0 < mthr_3 then ms else ms_2) ms msav misv (if 0 < mthr_3 then mpast else pastP ms mpm mpast) (if 0 < mthr_3 then mpm else if mpm = 8 then 8 else mpm + 1) mthr_3 mways mnds mtkp mline mlm mtxt mlen mat mwr merr mfail mcmd mcm) := hD
  have q_10 : ((0 : Int) < mthr_3 ∧ z10_6 = 0) ∨ (mthr_3 = (0 : Int) ∧ z10_6 = z7_4) := p10_7
  exact hret z10_6 (mthr_3, ms_2, z7_4) _ _ _ _ dX11_leave_13 ⟨(show mLeave ms sb z7_4 mthr_3 ms_2 from by exact q_7), (show (0 < mthr_3 ∧ z10_6 = 0) ∨ (mthr_3 = 0 ∧ z10_6 = z7_4) from by exact q_10)⟩ hP hD hS

set_option maxHeartbeats 4000000 in
set_option maxRecDepth 100000 in
theorem c_X11_deposit (l : Launch) (D : va_G) (tA : Nat → ClassId) (a0 a1 a2 a3 a4 a5 a6 a7 a8 a9 a10 : Nat) (sz : Nat) (ms : Int → Int) (mbef : Int → Int) (msav : Int → Int) (misv : Int) (mpast : Int → Int) (mpm : Int) (mthr : Int) (mways : Int → Int) (mnds : Int → Int) (mtkp : Int → Int) (mline : Int → Int) (mlm : Int) (mtxt : Int → Int) (mlen : Int) (mat : Int) (mwr : Int) (merr : Int) (mfail : Int) (mcmd : Int → Int) (mcm : Int) (sb : Int) (w : Int) (r_sb : -2147483648 ≤ sb ∧ sb ≤ 2147483647) (r_w : -2147483648 ≤ w ∧ w ≤ 2147483647) (hc : 0 ≤ ms 1 ∧ ms 1 ≤ 6) (hpm : 0 ≤ mpm ∧ mpm ≤ 8) : zMi l yX11_deposit wsX11_deposit ({ frames := 3, cells := 0, slots := 0, locals := 65 }) D tA [.ref a0, .int (iI sb), .int (iI w)] (bModel tA a0 a1 a2 a3 a4 a5 a6 a7 a8 a9 a10 ms mbef msav misv mpast mpm mthr mways mnds mtkp mline mlm mtxt mlen mat mwr merr mfail mcmd mcm) sz (fun (z : Int) (u : (Int) × (Int → Int) × (Int)) => (mDeposit ms sb w u.2.2 u.1 u.2.1) ∧ ((0 < u.1 ∧ z = 0) ∨ (u.1 = 0 ∧ z = u.2.2))) (fun (u : (Int) × (Int → Int) × (Int)) => bModel tA a0 a1 a2 a3 a4 a5 a6 a7 a8 a9 a10 (if 0 < u.1 then ms else u.2.1) ms msav misv (if 0 < u.1 then mpast else pastP ms mpm mpast) (if 0 < u.1 then mpm else if mpm = 8 then 8 else mpm + 1) u.1 mways mnds mtkp mline mlm mtxt mlen mat mwr merr mfail mcmd mcm) 0 0 := by
  refine zMi_of (cc := cX11_deposit) (maxL := 3) (by decide) rfl (fun z u h => rfl) (Nat.le_of_ble_eq_true rfl) ?_
  intro p e s m args below meth c A Q ls hx hb hml hts hown hK hP hD hA hret hl
  obtain ⟨H, hHe⟩ : ∃ H : Heap, H = s.heap := ⟨_, rfl⟩
  have hS : va_S A s.heap H [] := by rw [hHe]; exact va_S.rf
  rw [← hHe] at hP ⊢
  have hl : lv_has ls 3 [(0, .ref a0), (1, .int (iI sb)), (2, .int (iI w))] := hl
  refine lv_aload_n hx hb dX11_deposit_0 rfl (lv_at hl 0 rfl) ?_
  refine zz_callVv (As := []) (rest := []) (wf := fun u => bModel tA a0 a1 a2 a3 a4 a5 a6 a7 a8 a9 a10 ms ms msav misv mpast mpm 0 mways mnds mtkp mline mlm mtxt mlen mat mwr merr mfail mcmd mcm) ⟨hx, hb, hml, hown, hts⟩ (c_X11_keep l D tA a0 a1 a2 a3 a4 a5 a6 a7 a8 a9 a10 H.size ms mbef msav misv mpast mpm mthr mways mnds mtkp mline mlm mtxt mlen mat mwr merr mfail mcmd mcm) (cwV 0 hts gX11_deposit_X11_keep rfl rfl rfl (by decide +kernel) ⟨Nat.le_of_ble_eq_true rfl, Nat.le_of_ble_eq_true rfl⟩) hK hP hD hS hA [0, 1, 2, 3, 4, 5, 6, 7, 8, 9, 10] [] [0, 1, 2, 3, 4, 5, 6, 7, 8, 9, 10] rfl rfl (by decide) (by decide) (by decide) (by decide) (fun _ => rfl) (ci := 13) (q0 := 0) rfl rfl rfl rfl rfl hl.1 (Nat.le_of_ble_eq_true rfl) dX11_deposit_1 ⟨Nat.le_of_ble_eq_true rfl, Nat.le_of_ble_eq_true rfl⟩ ?_
  intro u H locs p1_1 hP hD hS
  have hP : va_P D vwCl (bModel tA a0 a1 a2 a3 a4 a5 a6 a7 a8 a9 a10 ms ms msav misv mpast mpm 0 mways mnds mtkp mline mlm mtxt mlen mat mwr merr mfail mcmd mcm) H := hP
  have hD : va_D A (bModel tA a0 a1 a2 a3 a4 a5 a6 a7 a8 a9 a10 ms ms msav misv mpast mpm 0 mways mnds mtkp mline mlm mtxt mlen mat mwr merr mfail mcmd mcm) := hD
  refine lv_aload_n hx hb dX11_deposit_4 rfl (lv_at hl 0 rfl) ?_
  refine lv_aload_n hx hb dX11_deposit_5 rfl (lv_at hl 0 rfl) ?_
  refine lv_iload_n hx hb dX11_deposit_6 rfl (lv_at hl 1 rfl) ?_
  refine lv_iload_n hx hb dX11_deposit_7 rfl (lv_at hl 2 rfl) ?_
  refine zz_callVi (As := [.int (iI sb), .int (iI w)]) (rest := [.ref a0]) (wf := fun u => bModel tA a0 a1 a2 a3 a4 a5 a6 a7 a8 a9 a10 u.1 ms msav misv mpast mpm u.2 mways mnds mtkp mline mlm mtxt mlen mat mwr merr mfail mcmd mcm) ⟨hx, hb, hml, hown, hts⟩ (c_X11_doDeposit l D tA a0 a1 a2 a3 a4 a5 a6 a7 a8 a9 a10 H.size ms ms msav misv mpast mpm 0 mways mnds mtkp mline mlm mtxt mlen mat mwr merr mfail mcmd mcm sb w (by first | assumption | omega) (by first | assumption | omega) (by first | assumption | omega) (by first | assumption | omega)) (cwV 2 hts gX11_deposit_X11_doDeposit rfl rfl rfl (by decide +kernel) ⟨Nat.le_of_ble_eq_true rfl, Nat.le_of_ble_eq_true rfl⟩) hK hP hD hS hA [0, 1, 2, 3, 4, 5, 6, 7, 8, 9, 10] [] [0, 1, 2, 3, 4, 5, 6, 7, 8, 9, 10] rfl rfl (by decide) (by decide) (by decide) (by decide) (fun _ => rfl) (ci := 13) (q0 := 0) rfl rfl rfl rfl rfl hl.1 (Nat.le_of_ble_eq_true rfl) dX11_deposit_8 ⟨Nat.le_of_ble_eq_true rfl, Nat.le_of_ble_eq_true rfl⟩ ?_
  intro z8_4 u H locs p8_5 hP hD hS
  obtain ⟨ms_2, mthr_3⟩ := u
  have hP : va_P D vwCl (bModel tA a0 a1 a2 a3 a4 a5 a6 a7 a8 a9 a10 ms_2 ms msav misv mpast mpm mthr_3 mways mnds mtkp mline mlm mtxt mlen mat mwr merr mfail mcmd mcm) H := hP
  have hD : va_D A (bModel tA a0 a1 a2 a3 a4 a5 a6 a7 a8 a9 a10 ms_2 ms msav misv mpast mpm mthr_3 mways mnds mtkp mline mlm mtxt mlen mat mwr merr mfail mcmd mcm) := hD
  have q_8 : mDeposit ms sb w z8_4 mthr_3 ms_2 := p8_5
  have ht := mDeposit_t q_8
  refine zz_callVi (As := [.int (iI z8_4)]) (rest := []) (wf := fun u => bModel tA a0 a1 a2 a3 a4 a5 a6 a7 a8 a9 a10 (if 0 < mthr_3 then ms else ms_2) ms msav misv (if 0 < mthr_3 then mpast else pastP ms mpm mpast) (if 0 < mthr_3 then mpm else if mpm = 8 then 8 else mpm + 1) mthr_3 mways mnds mtkp mline mlm mtxt mlen mat mwr merr mfail mcmd mcm) ⟨hx, hb, hml, hown, hts⟩ (c_X11_ends l D tA a0 a1 a2 a3 a4 a5 a6 a7 a8 a9 a10 H.size ms_2 ms msav misv mpast mpm mthr_3 mways mnds mtkp mline mlm mtxt mlen mat mwr merr mfail mcmd mcm z8_4 (by first | assumption | omega) (by first | assumption | omega)) (cwV 1 hts gX11_deposit_X11_ends rfl rfl rfl (by decide +kernel) ⟨Nat.le_of_ble_eq_true rfl, Nat.le_of_ble_eq_true rfl⟩) hK hP hD hS hA [0, 1, 2, 3, 4, 5, 6, 7, 8, 9, 10] [] [0, 1, 2, 3, 4, 5, 6, 7, 8, 9, 10] rfl rfl (by decide) (by decide) (by decide) (by decide) (fun _ => rfl) (ci := 13) (q0 := 0) rfl rfl rfl rfl rfl hl.1 (Nat.le_of_ble_eq_true rfl) dX11_deposit_11 ⟨Nat.le_of_ble_eq_true rfl, Nat.le_of_ble_eq_true rfl⟩ ?_
  intro z11_6 u H locs p11_7 hP hD hS
  have hP : va_P D vwCl (bModel tA a0 a1 a2 a3 a4 a5 a6 a7 a8 a9 a10 (if 0 < mthr_3 then ms else ms_2) ms msav misv (if 0 < mthr_3 then mpast else pastP ms mpm mpast) (if 0 < mthr_3 then mpm else if mpm = 8 then 8 else mpm + 1) mthr_3 mways mnds mtkp mline mlm mtxt mlen mat mwr merr mfail mcmd mcm) H := hP
  have hD : va_D A (bModel tA a0 a1 a2 a3 a4 a5 a6 a7 a8 a9 a10 (if 0 < mthr_3 then ms else ms_2) ms msav misv (if 0 < mthr_3 then mpast else pastP ms mpm mpast) (if 0 < mthr_3 then mpm else if mpm = 8 then 8 else mpm + 1) mthr_3 mways mnds mtkp mline mlm mtxt mlen mat mwr merr mfail mcmd mcm) := hD
  have q_11 : ((0 : Int) < mthr_3 ∧ z11_6 = 0) ∨ (mthr_3 = (0 : Int) ∧ z11_6 = z8_4) := p11_7
  exact hret z11_6 (mthr_3, ms_2, z8_4) _ _ _ _ dX11_deposit_14 ⟨(show mDeposit ms sb w z8_4 mthr_3 ms_2 from by exact q_8), (show (0 < mthr_3 ∧ z11_6 = 0) ∨ (mthr_3 = 0 ∧ z11_6 = z8_4) from by exact q_11)⟩ hP hD hS

set_option maxHeartbeats 4000000 in
set_option maxRecDepth 100000 in
theorem c_X11_setFog (l : Launch) (D : va_G) (tA : Nat → ClassId) (a0 a1 a2 a3 a4 a5 a6 a7 a8 a9 a10 : Nat) (sz : Nat) (ms : Int → Int) (mbef : Int → Int) (msav : Int → Int) (misv : Int) (mpast : Int → Int) (mpm : Int) (mthr : Int) (mways : Int → Int) (mnds : Int → Int) (mtkp : Int → Int) (mline : Int → Int) (mlm : Int) (mtxt : Int → Int) (mlen : Int) (mat : Int) (mwr : Int) (merr : Int) (mfail : Int) (mcmd : Int → Int) (mcm : Int) (n1 : Int) (r_n1 : -2147483648 ≤ n1 ∧ n1 ≤ 2147483647) (hpm : 0 ≤ mpm ∧ mpm ≤ 8) : zMi l yX11_setFog wsX11_setFog ({ frames := 2, cells := 0, slots := 0, locals := 61 }) D tA [.ref a0, .int (iI n1)] (bModel tA a0 a1 a2 a3 a4 a5 a6 a7 a8 a9 a10 ms mbef msav misv mpast mpm mthr mways mnds mtkp mline mlm mtxt mlen mat mwr merr mfail mcmd mcm) sz (fun (z : Int) (u : (Int) × (Int → Int) × (Int)) => (mSetFog ms n1 u.2.2 u.1 u.2.1) ∧ ((0 < u.1 ∧ z = 0) ∨ (u.1 = 0 ∧ z = u.2.2))) (fun (u : (Int) × (Int → Int) × (Int)) => bModel tA a0 a1 a2 a3 a4 a5 a6 a7 a8 a9 a10 (if 0 < u.1 then ms else u.2.1) ms msav misv (if 0 < u.1 then mpast else pastP ms mpm mpast) (if 0 < u.1 then mpm else if mpm = 8 then 8 else mpm + 1) u.1 mways mnds mtkp mline mlm mtxt mlen mat mwr merr mfail mcmd mcm) 0 0 := by
  refine zMi_of (cc := cX11_setFog) (maxL := 2) (by decide) rfl (fun z u h => rfl) (Nat.le_of_ble_eq_true rfl) ?_
  intro p e s m args below meth c A Q ls hx hb hml hts hown hK hP hD hA hret hl
  obtain ⟨H, hHe⟩ : ∃ H : Heap, H = s.heap := ⟨_, rfl⟩
  have hS : va_S A s.heap H [] := by rw [hHe]; exact va_S.rf
  rw [← hHe] at hP ⊢
  have hl : lv_has ls 2 [(0, .ref a0), (1, .int (iI n1))] := hl
  refine lv_aload_n hx hb dX11_setFog_0 rfl (lv_at hl 0 rfl) ?_
  refine zz_callVv (As := []) (rest := []) (wf := fun u => bModel tA a0 a1 a2 a3 a4 a5 a6 a7 a8 a9 a10 ms ms msav misv mpast mpm 0 mways mnds mtkp mline mlm mtxt mlen mat mwr merr mfail mcmd mcm) ⟨hx, hb, hml, hown, hts⟩ (c_X11_keep l D tA a0 a1 a2 a3 a4 a5 a6 a7 a8 a9 a10 H.size ms mbef msav misv mpast mpm mthr mways mnds mtkp mline mlm mtxt mlen mat mwr merr mfail mcmd mcm) (cwV 0 hts gX11_setFog_X11_keep rfl rfl rfl (by decide +kernel) ⟨Nat.le_of_ble_eq_true rfl, Nat.le_of_ble_eq_true rfl⟩) hK hP hD hS hA [0, 1, 2, 3, 4, 5, 6, 7, 8, 9, 10] [] [0, 1, 2, 3, 4, 5, 6, 7, 8, 9, 10] rfl rfl (by decide) (by decide) (by decide) (by decide) (fun _ => rfl) (ci := 13) (q0 := 0) rfl rfl rfl rfl rfl hl.1 (Nat.le_of_ble_eq_true rfl) dX11_setFog_1 ⟨Nat.le_of_ble_eq_true rfl, Nat.le_of_ble_eq_true rfl⟩ ?_
  intro u H locs p1_1 hP hD hS
  have hP : va_P D vwCl (bModel tA a0 a1 a2 a3 a4 a5 a6 a7 a8 a9 a10 ms ms msav misv mpast mpm 0 mways mnds mtkp mline mlm mtxt mlen mat mwr merr mfail mcmd mcm) H := hP
  have hD : va_D A (bModel tA a0 a1 a2 a3 a4 a5 a6 a7 a8 a9 a10 ms ms msav misv mpast mpm 0 mways mnds mtkp mline mlm mtxt mlen mat mwr merr mfail mcmd mcm) := hD
  refine lv_aload_n hx hb dX11_setFog_4 rfl (lv_at hl 0 rfl) ?_
  refine lv_aload_n hx hb dX11_setFog_5 rfl (lv_at hl 0 rfl) ?_
  refine lv_iload_n hx hb dX11_setFog_6 rfl (lv_at hl 1 rfl) ?_
  refine zz_callVi (As := [.int (iI n1)]) (rest := [.ref a0]) (wf := fun u => bModel tA a0 a1 a2 a3 a4 a5 a6 a7 a8 a9 a10 u.1 ms msav misv mpast mpm u.2 mways mnds mtkp mline mlm mtxt mlen mat mwr merr mfail mcmd mcm) ⟨hx, hb, hml, hown, hts⟩ (c_X11_doSetFog l D tA a0 a1 a2 a3 a4 a5 a6 a7 a8 a9 a10 H.size ms ms msav misv mpast mpm 0 mways mnds mtkp mline mlm mtxt mlen mat mwr merr mfail mcmd mcm n1 (by first | assumption | omega) (by first | assumption | omega)) (cwV 1 hts gX11_setFog_X11_doSetFog rfl rfl rfl (by decide +kernel) ⟨Nat.le_of_ble_eq_true rfl, Nat.le_of_ble_eq_true rfl⟩) hK hP hD hS hA [0, 1, 2, 3, 4, 5, 6, 7, 8, 9, 10] [] [0, 1, 2, 3, 4, 5, 6, 7, 8, 9, 10] rfl rfl (by decide) (by decide) (by decide) (by decide) (fun _ => rfl) (ci := 13) (q0 := 0) rfl rfl rfl rfl rfl hl.1 (Nat.le_of_ble_eq_true rfl) dX11_setFog_7 ⟨Nat.le_of_ble_eq_true rfl, Nat.le_of_ble_eq_true rfl⟩ ?_
  intro z7_4 u H locs p7_5 hP hD hS
  obtain ⟨ms_2, mthr_3⟩ := u
  have hP : va_P D vwCl (bModel tA a0 a1 a2 a3 a4 a5 a6 a7 a8 a9 a10 ms_2 ms msav misv mpast mpm mthr_3 mways mnds mtkp mline mlm mtxt mlen mat mwr merr mfail mcmd mcm) H := hP
  have hD : va_D A (bModel tA a0 a1 a2 a3 a4 a5 a6 a7 a8 a9 a10 ms_2 ms msav misv mpast mpm mthr_3 mways mnds mtkp mline mlm mtxt mlen mat mwr merr mfail mcmd mcm) := hD
  have q_7 : mSetFog ms n1 z7_4 mthr_3 ms_2 := p7_5
  have ht := mSetFog_t q_7
  refine zz_callVi (As := [.int (iI z7_4)]) (rest := []) (wf := fun u => bModel tA a0 a1 a2 a3 a4 a5 a6 a7 a8 a9 a10 (if 0 < mthr_3 then ms else ms_2) ms msav misv (if 0 < mthr_3 then mpast else pastP ms mpm mpast) (if 0 < mthr_3 then mpm else if mpm = 8 then 8 else mpm + 1) mthr_3 mways mnds mtkp mline mlm mtxt mlen mat mwr merr mfail mcmd mcm) ⟨hx, hb, hml, hown, hts⟩ (c_X11_ends l D tA a0 a1 a2 a3 a4 a5 a6 a7 a8 a9 a10 H.size ms_2 ms msav misv mpast mpm mthr_3 mways mnds mtkp mline mlm mtxt mlen mat mwr merr mfail mcmd mcm z7_4 (by first | assumption | omega) (by first | assumption | omega)) (cwV 1 hts gX11_setFog_X11_ends rfl rfl rfl (by decide +kernel) ⟨Nat.le_of_ble_eq_true rfl, Nat.le_of_ble_eq_true rfl⟩) hK hP hD hS hA [0, 1, 2, 3, 4, 5, 6, 7, 8, 9, 10] [] [0, 1, 2, 3, 4, 5, 6, 7, 8, 9, 10] rfl rfl (by decide) (by decide) (by decide) (by decide) (fun _ => rfl) (ci := 13) (q0 := 0) rfl rfl rfl rfl rfl hl.1 (Nat.le_of_ble_eq_true rfl) dX11_setFog_10 ⟨Nat.le_of_ble_eq_true rfl, Nat.le_of_ble_eq_true rfl⟩ ?_
  intro z10_6 u H locs p10_7 hP hD hS
  have hP : va_P D vwCl (bModel tA a0 a1 a2 a3 a4 a5 a6 a7 a8 a9 a10 (if 0 < mthr_3 then ms else ms_2) ms msav misv (if 0 < mthr_3 then mpast else pastP ms mpm mpast) (if 0 < mthr_3 then mpm else if mpm = 8 then 8 else mpm + 1) mthr_3 mways mnds mtkp mline mlm mtxt mlen mat mwr merr mfail mcmd mcm) H := hP
  have hD : va_D A (bModel tA a0 a1 a2 a3 a4 a5 a6 a7 a8 a9 a10 (if 0 < mthr_3 then ms else ms_2) ms msav misv (if 0 < mthr_3 then mpast else pastP ms mpm mpast) (if 0 < mthr_3 then mpm else if mpm = 8 then 8 else mpm + 1) mthr_3 mways mnds mtkp mline mlm mtxt mlen mat mwr merr mfail mcmd mcm) := hD
  have q_10 : ((0 : Int) < mthr_3 ∧ z10_6 = 0) ∨ (mthr_3 = (0 : Int) ∧ z10_6 = z7_4) := p10_7
  exact hret z10_6 (mthr_3, ms_2, z7_4) _ _ _ _ dX11_setFog_13 ⟨(show mSetFog ms n1 z7_4 mthr_3 ms_2 from by exact q_7), (show (0 < mthr_3 ∧ z10_6 = 0) ∨ (mthr_3 = 0 ∧ z10_6 = z7_4) from by exact q_10)⟩ hP hD hS

set_option maxHeartbeats 4000000 in
set_option maxRecDepth 100000 in
theorem c_X11_night (l : Launch) (D : va_G) (tA : Nat → ClassId) (a0 a1 a2 a3 a4 a5 a6 a7 a8 a9 a10 : Nat) (sz : Nat) (ms : Int → Int) (mbef : Int → Int) (msav : Int → Int) (misv : Int) (mpast : Int → Int) (mpm : Int) (mthr : Int) (mways : Int → Int) (mnds : Int → Int) (mtkp : Int → Int) (mline : Int → Int) (mlm : Int) (mtxt : Int → Int) (mlen : Int) (mat : Int) (mwr : Int) (merr : Int) (mfail : Int) (mcmd : Int → Int) (mcm : Int) (hm : MV ms) (hmt : MMt ms) (hpm : 0 ≤ mpm ∧ mpm ≤ 8) : zMi l yX11_night wsX11_night ({ frames := 5, cells := 0, slots := 0, locals := 114 }) D tA [.ref a0] (bModel tA a0 a1 a2 a3 a4 a5 a6 a7 a8 a9 a10 ms mbef msav misv mpast mpm mthr mways mnds mtkp mline mlm mtxt mlen mat mwr merr mfail mcmd mcm) sz (fun (z : Int) (u : (Int → Int) × (Int → Int) × (Int → Int) × (Int → Int)) => (plnM ms u.2.2.2 u.2.2.1) ∧ (∃ g, isGr (mkT (ms 1) u.2.2.2) u.2.2.1 g ∧ nigM ms (mkT (ms 1) u.2.2.2) u.2.2.1 g u.1) ∧ (z = sm (mkT (ms 1) u.2.2.2) (ms 1).toNat)) (fun (u : (Int → Int) × (Int → Int) × (Int → Int) × (Int → Int)) => bModel tA a0 a1 a2 a3 a4 a5 a6 a7 a8 a9 a10 u.1 ms msav misv (pastP ms mpm mpast) (if mpm = 8 then 8 else mpm + 1) 0 u.2.1 u.2.2.1 u.2.2.2 mline mlm mtxt mlen mat mwr merr mfail mcmd mcm) 0 0 := by
  refine zMi_of (cc := cX11_night) (maxL := 1) (by decide) rfl (fun z u h => rfl) (Nat.le_of_ble_eq_true rfl) ?_
  intro p e s m args below meth c A Q ls hx hb hml hts hown hK hP hD hA hret hl
  obtain ⟨H, hHe⟩ : ∃ H : Heap, H = s.heap := ⟨_, rfl⟩
  have hS : va_S A s.heap H [] := by rw [hHe]; exact va_S.rf
  rw [← hHe] at hP ⊢
  have hl : lv_has ls 1 [(0, .ref a0)] := hl
  refine lv_aload_n hx hb dX11_night_0 rfl (lv_at hl 0 rfl) ?_
  refine zz_callVv (As := []) (rest := []) (wf := fun u => bModel tA a0 a1 a2 a3 a4 a5 a6 a7 a8 a9 a10 ms ms msav misv mpast mpm 0 mways mnds mtkp mline mlm mtxt mlen mat mwr merr mfail mcmd mcm) ⟨hx, hb, hml, hown, hts⟩ (c_X11_keep l D tA a0 a1 a2 a3 a4 a5 a6 a7 a8 a9 a10 H.size ms mbef msav misv mpast mpm mthr mways mnds mtkp mline mlm mtxt mlen mat mwr merr mfail mcmd mcm) (cwV 0 hts gX11_night_X11_keep rfl rfl rfl (by decide +kernel) ⟨Nat.le_of_ble_eq_true rfl, Nat.le_of_ble_eq_true rfl⟩) hK hP hD hS hA [0, 1, 2, 3, 4, 5, 6, 7, 8, 9, 10] [] [0, 1, 2, 3, 4, 5, 6, 7, 8, 9, 10] rfl rfl (by decide) (by decide) (by decide) (by decide) (fun _ => rfl) (ci := 13) (q0 := 0) rfl rfl rfl rfl rfl hl.1 (Nat.le_of_ble_eq_true rfl) dX11_night_1 ⟨Nat.le_of_ble_eq_true rfl, Nat.le_of_ble_eq_true rfl⟩ ?_
  intro u H locs p1_1 hP hD hS
  have hP : va_P D vwCl (bModel tA a0 a1 a2 a3 a4 a5 a6 a7 a8 a9 a10 ms ms msav misv mpast mpm 0 mways mnds mtkp mline mlm mtxt mlen mat mwr merr mfail mcmd mcm) H := hP
  have hD : va_D A (bModel tA a0 a1 a2 a3 a4 a5 a6 a7 a8 a9 a10 ms ms msav misv mpast mpm 0 mways mnds mtkp mline mlm mtxt mlen mat mwr merr mfail mcmd mcm) := hD
  refine lv_aload_n hx hb dX11_night_4 rfl (lv_at hl 0 rfl) ?_
  refine lv_aload_n hx hb dX11_night_5 rfl (lv_at hl 0 rfl) ?_
  refine zz_callVi (As := []) (rest := [.ref a0]) (wf := fun u => bModel tA a0 a1 a2 a3 a4 a5 a6 a7 a8 a9 a10 u.1 ms msav misv mpast mpm 0 u.2.1 u.2.2.1 u.2.2.2 mline mlm mtxt mlen mat mwr merr mfail mcmd mcm) ⟨hx, hb, hml, hown, hts⟩ (c_X11_doNight l D tA a0 a1 a2 a3 a4 a5 a6 a7 a8 a9 a10 H.size ms ms msav misv mpast mpm 0 mways mnds mtkp mline mlm mtxt mlen mat mwr merr mfail mcmd mcm (by first | assumption | omega) (by first | assumption | omega) (by first | assumption | omega)) (cwV 0 hts gX11_night_X11_doNight rfl rfl rfl (by decide +kernel) ⟨Nat.le_of_ble_eq_true rfl, Nat.le_of_ble_eq_true rfl⟩) hK hP hD hS hA [0, 1, 2, 3, 4, 5, 6, 7, 8, 9, 10] [] [0, 1, 2, 3, 4, 5, 6, 7, 8, 9, 10] rfl rfl (by decide) (by decide) (by decide) (by decide) (fun _ => rfl) (ci := 13) (q0 := 0) rfl rfl rfl rfl rfl hl.1 (Nat.le_of_ble_eq_true rfl) dX11_night_6 ⟨Nat.le_of_ble_eq_true rfl, Nat.le_of_ble_eq_true rfl⟩ ?_
  intro z6_6 u H locs p6_7 hP hD hS
  obtain ⟨ms_2, mways_3, mnds_4, mtkp_5⟩ := u
  have hP : va_P D vwCl (bModel tA a0 a1 a2 a3 a4 a5 a6 a7 a8 a9 a10 ms_2 ms msav misv mpast mpm 0 mways_3 mnds_4 mtkp_5 mline mlm mtxt mlen mat mwr merr mfail mcmd mcm) H := hP
  have hD : va_D A (bModel tA a0 a1 a2 a3 a4 a5 a6 a7 a8 a9 a10 ms_2 ms msav misv mpast mpm 0 mways_3 mnds_4 mtkp_5 mline mlm mtxt mlen mat mwr merr mfail mcmd mcm) := hD
  have q_6 : plnM ms mtkp_5 mnds_4 := p6_7.1
  have q2_6 : ∃ g, isGr (mkT (ms 1) mtkp_5) mnds_4 g ∧ nigM ms (mkT (ms 1) mtkp_5) mnds_4 g ms_2 := p6_7.2.1
  have qz_6 : z6_6 = sm (mkT (ms 1) mtkp_5) (ms 1).toNat := p6_7.2.2
  refine zz_callVi (As := [.int (iI z6_6)]) (rest := []) (wf := fun u => bModel tA a0 a1 a2 a3 a4 a5 a6 a7 a8 a9 a10 (if 0 < 0 then ms else ms_2) ms msav misv (if 0 < 0 then mpast else pastP ms mpm mpast) (if 0 < 0 then mpm else if mpm = 8 then 8 else mpm + 1) 0 mways_3 mnds_4 mtkp_5 mline mlm mtxt mlen mat mwr merr mfail mcmd mcm) ⟨hx, hb, hml, hown, hts⟩ (c_X11_ends l D tA a0 a1 a2 a3 a4 a5 a6 a7 a8 a9 a10 H.size ms_2 ms msav misv mpast mpm 0 mways_3 mnds_4 mtkp_5 mline mlm mtxt mlen mat mwr merr mfail mcmd mcm z6_6 (by first | assumption | omega) (by first | assumption | omega)) (cwV 1 hts gX11_night_X11_ends rfl rfl rfl (by decide +kernel) ⟨Nat.le_of_ble_eq_true rfl, Nat.le_of_ble_eq_true rfl⟩) hK hP hD hS hA [0, 1, 2, 3, 4, 5, 6, 7, 8, 9, 10] [] [0, 1, 2, 3, 4, 5, 6, 7, 8, 9, 10] rfl rfl (by decide) (by decide) (by decide) (by decide) (fun _ => rfl) (ci := 13) (q0 := 0) rfl rfl rfl rfl rfl hl.1 (Nat.le_of_ble_eq_true rfl) dX11_night_9 ⟨Nat.le_of_ble_eq_true rfl, Nat.le_of_ble_eq_true rfl⟩ ?_
  intro z9_8 u H locs p9_9 hP hD hS
  have hP : va_P D vwCl (bModel tA a0 a1 a2 a3 a4 a5 a6 a7 a8 a9 a10 (if 0 < 0 then ms else ms_2) ms msav misv (if 0 < 0 then mpast else pastP ms mpm mpast) (if 0 < 0 then mpm else if mpm = 8 then 8 else mpm + 1) 0 mways_3 mnds_4 mtkp_5 mline mlm mtxt mlen mat mwr merr mfail mcmd mcm) H := hP
  have hD : va_D A (bModel tA a0 a1 a2 a3 a4 a5 a6 a7 a8 a9 a10 (if 0 < 0 then ms else ms_2) ms msav misv (if 0 < 0 then mpast else pastP ms mpm mpast) (if 0 < 0 then mpm else if mpm = 8 then 8 else mpm + 1) 0 mways_3 mnds_4 mtkp_5 mline mlm mtxt mlen mat mwr merr mfail mcmd mcm) := hD
  have q_9 : ((0 : Int) < 0 ∧ z9_8 = 0) ∨ (0 = (0 : Int) ∧ z9_8 = z6_6) := p9_9
  have e_mpast : ((if 0 < 0 then mpast else pastP ms mpm mpast) : Int → Int) = (pastP ms mpm mpast) := by exact if_neg (by decide)
  rw [e_mpast] at hP hD
  have e_mpm : ((if 0 < 0 then mpm else if mpm = 8 then 8 else mpm + 1) : Int) = (if mpm = 8 then 8 else mpm + 1) := by exact if_neg (by decide)
  rw [e_mpm] at hP hD
  exact hret z9_8 ((if 0 < 0 then ms else ms_2), mways_3, mnds_4, mtkp_5) _ _ _ _ dX11_night_12 ⟨(show plnM ms mtkp_5 mnds_4 from by exact q_6), (show ∃ g, isGr (mkT (ms 1) mtkp_5) mnds_4 g ∧ nigM ms (mkT (ms 1) mtkp_5) mnds_4 g (if 0 < 0 then ms else ms_2) from by exact q2_6), (show z9_8 = sm (mkT (ms 1) mtkp_5) (ms 1).toNat from by rw [← qz_6]; omega)⟩ hP hD hS

set_option maxHeartbeats 4000000 in
set_option maxRecDepth 100000 in
theorem c_X11_isConsistent (l : Launch) (D : va_G) (tA : Nat → ClassId) (a0 a1 a2 a3 a4 a5 a6 a7 a8 a9 a10 : Nat) (sz : Nat) (ms : Int → Int) (mbef : Int → Int) (msav : Int → Int) (misv : Int) (mpast : Int → Int) (mpm : Int) (mthr : Int) (mways : Int → Int) (mnds : Int → Int) (mtkp : Int → Int) (mline : Int → Int) (mlm : Int) (mtxt : Int → Int) (mlen : Int) (mat : Int) (mwr : Int) (merr : Int) (mfail : Int) (mcmd : Int → Int) (mcm : Int) : zMi l yX11_isConsistent wsX11_isConsistent ({ frames := 0, cells := 0, slots := 0, locals := 0 }) D tA [.ref a0] (bModel tA a0 a1 a2 a3 a4 a5 a6 a7 a8 a9 a10 ms mbef msav misv mpast mpm mthr mways mnds mtkp mline mlm mtxt mlen mat mwr merr mfail mcmd mcm) sz (fun (z : Int) (u : Unit) => (z = 1)) (fun (u : Unit) => bModel tA a0 a1 a2 a3 a4 a5 a6 a7 a8 a9 a10 ms mbef msav misv mpast mpm 0 mways mnds mtkp mline mlm mtxt mlen mat mwr merr mfail mcmd mcm) 0 0 := by
  refine zMi_of (cc := cX11_isConsistent) (maxL := 1) (by decide) rfl (fun z u h => zbool z (by omega)) (Nat.le_of_ble_eq_true rfl) ?_
  intro p e s m args below meth c A Q ls hx hb hml hts hown hK hP hD hA hret hl
  obtain ⟨H, hHe⟩ : ∃ H : Heap, H = s.heap := ⟨_, rfl⟩
  have hS : va_S A s.heap H [] := by rw [hHe]; exact va_S.rf
  rw [← hHe] at hP ⊢
  have hl : lv_has ls 1 [(0, .ref a0)] := hl
  have iX11 : ∀ v ∈ wsX110, v ∈ wsX11_isConsistent := by decide +kernel
  have f_49 := hts (.fieldLink RX11 49 "HarborLightsModel" "thrown" "I") (by decide +kernel)
  refine lv_aload_n hx hb dX11_isConsistent_0 rfl (lv_at hl 0 rfl) ?_
  refine zz_iconst hx hb dX11_isConsistent_1 ?_
  refine va_put (D := D) (ci := 13) (v := .int (iI 0)) (ty := .int) (C := RX11) (T := TX11) (N := 20) hx hb hts iX11 tyX11 tyX11_ok nmX11 hown hK hP hD hS 0 rfl rfl 6 (by decide) f_49 (fun _ h9 => h9) rfl (by decide +kernel) rfl rfl (Nat.le_of_ble_eq_true rfl) dX11_isConsistent_2 (fun H locs hP hD hS => ?_)
  have hP : va_P D vwCl (bModel tA a0 a1 a2 a3 a4 a5 a6 a7 a8 a9 a10 ms mbef msav misv mpast mpm 0 mways mnds mtkp mline mlm mtxt mlen mat mwr merr mfail mcmd mcm) H := hP
  have hD : va_D A (bModel tA a0 a1 a2 a3 a4 a5 a6 a7 a8 a9 a10 ms mbef msav misv mpast mpm 0 mways mnds mtkp mline mlm mtxt mlen mat mwr merr mfail mcmd mcm) := hD
  refine zz_iconst hx hb dX11_isConsistent_5 ?_
  exact hret 1 () _ _ _ _ dX11_isConsistent_6 (show (1 : Int) = 1 from by omega) hP hD hS

set_option maxHeartbeats 4000000 in
set_option maxRecDepth 100000 in
theorem c_X11_subscriberCount (l : Launch) (D : va_G) (tA : Nat → ClassId) (a0 a1 a2 a3 a4 a5 a6 a7 a8 a9 a10 : Nat) (sz : Nat) (ms : Int → Int) (mbef : Int → Int) (msav : Int → Int) (misv : Int) (mpast : Int → Int) (mpm : Int) (mthr : Int) (mways : Int → Int) (mnds : Int → Int) (mtkp : Int → Int) (mline : Int → Int) (mlm : Int) (mtxt : Int → Int) (mlen : Int) (mat : Int) (mwr : Int) (merr : Int) (mfail : Int) (mcmd : Int → Int) (mcm : Int) : zMi l yX11_subscriberCount wsX11_subscriberCount ({ frames := 0, cells := 0, slots := 0, locals := 0 }) D tA [.ref a0] (bModel tA a0 a1 a2 a3 a4 a5 a6 a7 a8 a9 a10 ms mbef msav misv mpast mpm mthr mways mnds mtkp mline mlm mtxt mlen mat mwr merr mfail mcmd mcm) sz (fun (z : Int) (u : Unit) => (z = ms 1)) (fun (u : Unit) => bModel tA a0 a1 a2 a3 a4 a5 a6 a7 a8 a9 a10 ms mbef msav misv mpast mpm 0 mways mnds mtkp mline mlm mtxt mlen mat mwr merr mfail mcmd mcm) 0 0 := by
  refine zMi_of (cc := cX11_subscriberCount) (maxL := 1) (by decide) rfl (fun z u h => rfl) (Nat.le_of_ble_eq_true rfl) ?_
  intro p e s m args below meth c A Q ls hx hb hml hts hown hK hP hD hA hret hl
  obtain ⟨H, hHe⟩ : ∃ H : Heap, H = s.heap := ⟨_, rfl⟩
  have hS : va_S A s.heap H [] := by rw [hHe]; exact va_S.rf
  rw [← hHe] at hP ⊢
  have hl : lv_has ls 1 [(0, .ref a0)] := hl
  have iX11 : ∀ v ∈ wsX110, v ∈ wsX11_subscriberCount := by decide +kernel
  have f_9 := hts (.fieldLink RX11 9 "HarborLightsModel" "s" "[I") (by decide +kernel)
  have f_49 := hts (.fieldLink RX11 49 "HarborLightsModel" "thrown" "I") (by decide +kernel)
  refine lv_aload_n hx hb dX11_subscriberCount_0 rfl (lv_at hl 0 rfl) ?_
  refine zz_iconst hx hb dX11_subscriberCount_1 ?_
  refine va_put (D := D) (ci := 13) (v := .int (iI 0)) (ty := .int) (C := RX11) (T := TX11) (N := 20) hx hb hts iX11 tyX11 tyX11_ok nmX11 hown hK hP hD hS 0 rfl rfl 6 (by decide) f_49 (fun _ h9 => h9) rfl (by decide +kernel) rfl rfl (Nat.le_of_ble_eq_true rfl) dX11_subscriberCount_2 (fun H locs hP hD hS => ?_)
  have hP : va_P D vwCl (bModel tA a0 a1 a2 a3 a4 a5 a6 a7 a8 a9 a10 ms mbef msav misv mpast mpm 0 mways mnds mtkp mline mlm mtxt mlen mat mwr merr mfail mcmd mcm) H := hP
  have hD : va_D A (bModel tA a0 a1 a2 a3 a4 a5 a6 a7 a8 a9 a10 ms mbef msav misv mpast mpm 0 mways mnds mtkp mline mlm mtxt mlen mat mwr merr mfail mcmd mcm) := hD
  refine lv_aload_n hx hb dX11_subscriberCount_5 rfl (lv_at hl 0 rfl) ?_
  refine va_get (D := D) (ci := 13) (v := .ref a1) (C := RX11) (T := TX11) (N := 20) hx hb hts iX11 hown hK hP 0 rfl rfl 0 (by decide) f_9 (fun _ h9 => h9) rfl dX11_subscriberCount_6 ?_
  refine zz_iconst hx hb dX11_subscriberCount_9 ?_
  refine zz_iald hx hb hK hP 1 rfl (by decide) (by omega) dX11_subscriberCount_10 ?_
  exact hret (ms 1) () _ _ _ _ dX11_subscriberCount_11 (show (ms 1) = ms 1 from by rfl) hP hD hS

set_option maxHeartbeats 4000000 in
set_option maxRecDepth 100000 in
theorem c_X11_fogNights (l : Launch) (D : va_G) (tA : Nat → ClassId) (a0 a1 a2 a3 a4 a5 a6 a7 a8 a9 a10 : Nat) (sz : Nat) (ms : Int → Int) (mbef : Int → Int) (msav : Int → Int) (misv : Int) (mpast : Int → Int) (mpm : Int) (mthr : Int) (mways : Int → Int) (mnds : Int → Int) (mtkp : Int → Int) (mline : Int → Int) (mlm : Int) (mtxt : Int → Int) (mlen : Int) (mat : Int) (mwr : Int) (merr : Int) (mfail : Int) (mcmd : Int → Int) (mcm : Int) : zMi l yX11_fogNights wsX11_fogNights ({ frames := 0, cells := 0, slots := 0, locals := 0 }) D tA [.ref a0] (bModel tA a0 a1 a2 a3 a4 a5 a6 a7 a8 a9 a10 ms mbef msav misv mpast mpm mthr mways mnds mtkp mline mlm mtxt mlen mat mwr merr mfail mcmd mcm) sz (fun (z : Int) (u : Unit) => (z = ms 2)) (fun (u : Unit) => bModel tA a0 a1 a2 a3 a4 a5 a6 a7 a8 a9 a10 ms mbef msav misv mpast mpm 0 mways mnds mtkp mline mlm mtxt mlen mat mwr merr mfail mcmd mcm) 0 0 := by
  refine zMi_of (cc := cX11_fogNights) (maxL := 1) (by decide) rfl (fun z u h => rfl) (Nat.le_of_ble_eq_true rfl) ?_
  intro p e s m args below meth c A Q ls hx hb hml hts hown hK hP hD hA hret hl
  obtain ⟨H, hHe⟩ : ∃ H : Heap, H = s.heap := ⟨_, rfl⟩
  have hS : va_S A s.heap H [] := by rw [hHe]; exact va_S.rf
  rw [← hHe] at hP ⊢
  have hl : lv_has ls 1 [(0, .ref a0)] := hl
  have iX11 : ∀ v ∈ wsX110, v ∈ wsX11_fogNights := by decide +kernel
  have f_9 := hts (.fieldLink RX11 9 "HarborLightsModel" "s" "[I") (by decide +kernel)
  have f_49 := hts (.fieldLink RX11 49 "HarborLightsModel" "thrown" "I") (by decide +kernel)
  refine lv_aload_n hx hb dX11_fogNights_0 rfl (lv_at hl 0 rfl) ?_
  refine zz_iconst hx hb dX11_fogNights_1 ?_
  refine va_put (D := D) (ci := 13) (v := .int (iI 0)) (ty := .int) (C := RX11) (T := TX11) (N := 20) hx hb hts iX11 tyX11 tyX11_ok nmX11 hown hK hP hD hS 0 rfl rfl 6 (by decide) f_49 (fun _ h9 => h9) rfl (by decide +kernel) rfl rfl (Nat.le_of_ble_eq_true rfl) dX11_fogNights_2 (fun H locs hP hD hS => ?_)
  have hP : va_P D vwCl (bModel tA a0 a1 a2 a3 a4 a5 a6 a7 a8 a9 a10 ms mbef msav misv mpast mpm 0 mways mnds mtkp mline mlm mtxt mlen mat mwr merr mfail mcmd mcm) H := hP
  have hD : va_D A (bModel tA a0 a1 a2 a3 a4 a5 a6 a7 a8 a9 a10 ms mbef msav misv mpast mpm 0 mways mnds mtkp mline mlm mtxt mlen mat mwr merr mfail mcmd mcm) := hD
  refine lv_aload_n hx hb dX11_fogNights_5 rfl (lv_at hl 0 rfl) ?_
  refine va_get (D := D) (ci := 13) (v := .ref a1) (C := RX11) (T := TX11) (N := 20) hx hb hts iX11 hown hK hP 0 rfl rfl 0 (by decide) f_9 (fun _ h9 => h9) rfl dX11_fogNights_6 ?_
  refine zz_iconst hx hb dX11_fogNights_9 ?_
  refine zz_iald hx hb hK hP 1 rfl (by decide) (by omega) dX11_fogNights_10 ?_
  exact hret (ms 2) () _ _ _ _ dX11_fogNights_11 (show (ms 2) = ms 2 from by rfl) hP hD hS

set_option maxHeartbeats 4000000 in
set_option maxRecDepth 100000 in
theorem c_X11_range (l : Launch) (D : va_G) (tA : Nat → ClassId) (a0 a1 a2 a3 a4 a5 a6 a7 a8 a9 a10 : Nat) (sz : Nat) (ms : Int → Int) (mbef : Int → Int) (msav : Int → Int) (misv : Int) (mpast : Int → Int) (mpm : Int) (mthr : Int) (mways : Int → Int) (mnds : Int → Int) (mtkp : Int → Int) (mline : Int → Int) (mlm : Int) (mtxt : Int → Int) (mlen : Int) (mat : Int) (mwr : Int) (merr : Int) (mfail : Int) (mcmd : Int → Int) (mcm : Int) : zMi l yX11_range wsX11_range ({ frames := 0, cells := 0, slots := 0, locals := 0 }) D tA [.ref a0] (bModel tA a0 a1 a2 a3 a4 a5 a6 a7 a8 a9 a10 ms mbef msav misv mpast mpm mthr mways mnds mtkp mline mlm mtxt mlen mat mwr merr mfail mcmd mcm) sz (fun (z : Int) (u : Unit) => (z = ms 3)) (fun (u : Unit) => bModel tA a0 a1 a2 a3 a4 a5 a6 a7 a8 a9 a10 ms mbef msav misv mpast mpm 0 mways mnds mtkp mline mlm mtxt mlen mat mwr merr mfail mcmd mcm) 0 0 := by
  refine zMi_of (cc := cX11_range) (maxL := 1) (by decide) rfl (fun z u h => rfl) (Nat.le_of_ble_eq_true rfl) ?_
  intro p e s m args below meth c A Q ls hx hb hml hts hown hK hP hD hA hret hl
  obtain ⟨H, hHe⟩ : ∃ H : Heap, H = s.heap := ⟨_, rfl⟩
  have hS : va_S A s.heap H [] := by rw [hHe]; exact va_S.rf
  rw [← hHe] at hP ⊢
  have hl : lv_has ls 1 [(0, .ref a0)] := hl
  have iX11 : ∀ v ∈ wsX110, v ∈ wsX11_range := by decide +kernel
  have f_9 := hts (.fieldLink RX11 9 "HarborLightsModel" "s" "[I") (by decide +kernel)
  have f_49 := hts (.fieldLink RX11 49 "HarborLightsModel" "thrown" "I") (by decide +kernel)
  refine lv_aload_n hx hb dX11_range_0 rfl (lv_at hl 0 rfl) ?_
  refine zz_iconst hx hb dX11_range_1 ?_
  refine va_put (D := D) (ci := 13) (v := .int (iI 0)) (ty := .int) (C := RX11) (T := TX11) (N := 20) hx hb hts iX11 tyX11 tyX11_ok nmX11 hown hK hP hD hS 0 rfl rfl 6 (by decide) f_49 (fun _ h9 => h9) rfl (by decide +kernel) rfl rfl (Nat.le_of_ble_eq_true rfl) dX11_range_2 (fun H locs hP hD hS => ?_)
  have hP : va_P D vwCl (bModel tA a0 a1 a2 a3 a4 a5 a6 a7 a8 a9 a10 ms mbef msav misv mpast mpm 0 mways mnds mtkp mline mlm mtxt mlen mat mwr merr mfail mcmd mcm) H := hP
  have hD : va_D A (bModel tA a0 a1 a2 a3 a4 a5 a6 a7 a8 a9 a10 ms mbef msav misv mpast mpm 0 mways mnds mtkp mline mlm mtxt mlen mat mwr merr mfail mcmd mcm) := hD
  refine lv_aload_n hx hb dX11_range_5 rfl (lv_at hl 0 rfl) ?_
  refine va_get (D := D) (ci := 13) (v := .ref a1) (C := RX11) (T := TX11) (N := 20) hx hb hts iX11 hown hK hP 0 rfl rfl 0 (by decide) f_9 (fun _ h9 => h9) rfl dX11_range_6 ?_
  refine zz_iconst hx hb dX11_range_9 ?_
  refine zz_iald hx hb hK hP 1 rfl (by decide) (by omega) dX11_range_10 ?_
  exact hret (ms 3) () _ _ _ _ dX11_range_11 (show (ms 3) = ms 3 from by rfl) hP hD hS

set_option maxHeartbeats 4000000 in
set_option maxRecDepth 100000 in
theorem c_X11_nightCount (l : Launch) (D : va_G) (tA : Nat → ClassId) (a0 a1 a2 a3 a4 a5 a6 a7 a8 a9 a10 : Nat) (sz : Nat) (ms : Int → Int) (mbef : Int → Int) (msav : Int → Int) (misv : Int) (mpast : Int → Int) (mpm : Int) (mthr : Int) (mways : Int → Int) (mnds : Int → Int) (mtkp : Int → Int) (mline : Int → Int) (mlm : Int) (mtxt : Int → Int) (mlen : Int) (mat : Int) (mwr : Int) (merr : Int) (mfail : Int) (mcmd : Int → Int) (mcm : Int) : zMi l yX11_nightCount wsX11_nightCount ({ frames := 0, cells := 0, slots := 0, locals := 0 }) D tA [.ref a0] (bModel tA a0 a1 a2 a3 a4 a5 a6 a7 a8 a9 a10 ms mbef msav misv mpast mpm mthr mways mnds mtkp mline mlm mtxt mlen mat mwr merr mfail mcmd mcm) sz (fun (z : Int) (u : Unit) => (z = ms 4)) (fun (u : Unit) => bModel tA a0 a1 a2 a3 a4 a5 a6 a7 a8 a9 a10 ms mbef msav misv mpast mpm 0 mways mnds mtkp mline mlm mtxt mlen mat mwr merr mfail mcmd mcm) 0 0 := by
  refine zMi_of (cc := cX11_nightCount) (maxL := 1) (by decide) rfl (fun z u h => rfl) (Nat.le_of_ble_eq_true rfl) ?_
  intro p e s m args below meth c A Q ls hx hb hml hts hown hK hP hD hA hret hl
  obtain ⟨H, hHe⟩ : ∃ H : Heap, H = s.heap := ⟨_, rfl⟩
  have hS : va_S A s.heap H [] := by rw [hHe]; exact va_S.rf
  rw [← hHe] at hP ⊢
  have hl : lv_has ls 1 [(0, .ref a0)] := hl
  have iX11 : ∀ v ∈ wsX110, v ∈ wsX11_nightCount := by decide +kernel
  have f_9 := hts (.fieldLink RX11 9 "HarborLightsModel" "s" "[I") (by decide +kernel)
  have f_49 := hts (.fieldLink RX11 49 "HarborLightsModel" "thrown" "I") (by decide +kernel)
  refine lv_aload_n hx hb dX11_nightCount_0 rfl (lv_at hl 0 rfl) ?_
  refine zz_iconst hx hb dX11_nightCount_1 ?_
  refine va_put (D := D) (ci := 13) (v := .int (iI 0)) (ty := .int) (C := RX11) (T := TX11) (N := 20) hx hb hts iX11 tyX11 tyX11_ok nmX11 hown hK hP hD hS 0 rfl rfl 6 (by decide) f_49 (fun _ h9 => h9) rfl (by decide +kernel) rfl rfl (Nat.le_of_ble_eq_true rfl) dX11_nightCount_2 (fun H locs hP hD hS => ?_)
  have hP : va_P D vwCl (bModel tA a0 a1 a2 a3 a4 a5 a6 a7 a8 a9 a10 ms mbef msav misv mpast mpm 0 mways mnds mtkp mline mlm mtxt mlen mat mwr merr mfail mcmd mcm) H := hP
  have hD : va_D A (bModel tA a0 a1 a2 a3 a4 a5 a6 a7 a8 a9 a10 ms mbef msav misv mpast mpm 0 mways mnds mtkp mline mlm mtxt mlen mat mwr merr mfail mcmd mcm) := hD
  refine lv_aload_n hx hb dX11_nightCount_5 rfl (lv_at hl 0 rfl) ?_
  refine va_get (D := D) (ci := 13) (v := .ref a1) (C := RX11) (T := TX11) (N := 20) hx hb hts iX11 hown hK hP 0 rfl rfl 0 (by decide) f_9 (fun _ h9 => h9) rfl dX11_nightCount_6 ?_
  refine zz_iconst hx hb dX11_nightCount_9 ?_
  refine zz_iald hx hb hK hP 1 rfl (by decide) (by omega) dX11_nightCount_10 ?_
  exact hret (ms 4) () _ _ _ _ dX11_nightCount_11 (show (ms 4) = ms 4 from by rfl) hP hD hS

set_option maxHeartbeats 4000000 in
set_option maxRecDepth 100000 in
theorem c_X11_fund (l : Launch) (D : va_G) (tA : Nat → ClassId) (a0 a1 a2 a3 a4 a5 a6 a7 a8 a9 a10 : Nat) (sz : Nat) (ms : Int → Int) (mbef : Int → Int) (msav : Int → Int) (misv : Int) (mpast : Int → Int) (mpm : Int) (mthr : Int) (mways : Int → Int) (mnds : Int → Int) (mtkp : Int → Int) (mline : Int → Int) (mlm : Int) (mtxt : Int → Int) (mlen : Int) (mat : Int) (mwr : Int) (merr : Int) (mfail : Int) (mcmd : Int → Int) (mcm : Int) (hr : -2147483648 ≤ ms 5 ∧ ms 5 ≤ 2147483647) : zMl l yX11_fund wsX11_fund ({ frames := 0, cells := 0, slots := 0, locals := 0 }) D tA [.ref a0] (bModel tA a0 a1 a2 a3 a4 a5 a6 a7 a8 a9 a10 ms mbef msav misv mpast mpm mthr mways mnds mtkp mline mlm mtxt mlen mat mwr merr mfail mcmd mcm) sz (fun (z : Int) (u : Unit) => (z = ms 5)) (fun (u : Unit) => bModel tA a0 a1 a2 a3 a4 a5 a6 a7 a8 a9 a10 ms mbef msav misv mpast mpm 0 mways mnds mtkp mline mlm mtxt mlen mat mwr merr mfail mcmd mcm) 0 0 := by
  refine zMl_of (cc := cX11_fund) (maxL := 1) (by decide) rfl (Nat.le_of_ble_eq_true rfl) ?_
  intro p e s m args below meth c A Q ls hx hb hml hts hown hK hP hD hA hret hl
  obtain ⟨H, hHe⟩ : ∃ H : Heap, H = s.heap := ⟨_, rfl⟩
  have hS : va_S A s.heap H [] := by rw [hHe]; exact va_S.rf
  rw [← hHe] at hP ⊢
  have hl : lv_has ls 1 [(0, .ref a0)] := hl
  have iX11 : ∀ v ∈ wsX110, v ∈ wsX11_fund := by decide +kernel
  have f_9 := hts (.fieldLink RX11 9 "HarborLightsModel" "s" "[I") (by decide +kernel)
  have f_49 := hts (.fieldLink RX11 49 "HarborLightsModel" "thrown" "I") (by decide +kernel)
  refine lv_aload_n hx hb dX11_fund_0 rfl (lv_at hl 0 rfl) ?_
  refine zz_iconst hx hb dX11_fund_1 ?_
  refine va_put (D := D) (ci := 13) (v := .int (iI 0)) (ty := .int) (C := RX11) (T := TX11) (N := 20) hx hb hts iX11 tyX11 tyX11_ok nmX11 hown hK hP hD hS 0 rfl rfl 6 (by decide) f_49 (fun _ h9 => h9) rfl (by decide +kernel) rfl rfl (Nat.le_of_ble_eq_true rfl) dX11_fund_2 (fun H locs hP hD hS => ?_)
  have hP : va_P D vwCl (bModel tA a0 a1 a2 a3 a4 a5 a6 a7 a8 a9 a10 ms mbef msav misv mpast mpm 0 mways mnds mtkp mline mlm mtxt mlen mat mwr merr mfail mcmd mcm) H := hP
  have hD : va_D A (bModel tA a0 a1 a2 a3 a4 a5 a6 a7 a8 a9 a10 ms mbef msav misv mpast mpm 0 mways mnds mtkp mline mlm mtxt mlen mat mwr merr mfail mcmd mcm) := hD
  refine lv_aload_n hx hb dX11_fund_5 rfl (lv_at hl 0 rfl) ?_
  refine va_get (D := D) (ci := 13) (v := .ref a1) (C := RX11) (T := TX11) (N := 20) hx hb hts iX11 hown hK hP 0 rfl rfl 0 (by decide) f_9 (fun _ h9 => h9) rfl dX11_fund_6 ?_
  refine zz_iconst hx hb dX11_fund_9 ?_
  refine zz_iald hx hb hK hP 1 rfl (by decide) (by omega) dX11_fund_10 ?_
  refine zz_i2l hx hb dX11_fund_11 (by omega) ?_
  exact hret (ms 5) () _ _ _ _ dX11_fund_12 (show (ms 5) = ms 5 from by rfl) hP hD hS

set_option maxHeartbeats 4000000 in
set_option maxRecDepth 100000 in
theorem c_X11_refunded (l : Launch) (D : va_G) (tA : Nat → ClassId) (a0 a1 a2 a3 a4 a5 a6 a7 a8 a9 a10 : Nat) (sz : Nat) (ms : Int → Int) (mbef : Int → Int) (msav : Int → Int) (misv : Int) (mpast : Int → Int) (mpm : Int) (mthr : Int) (mways : Int → Int) (mnds : Int → Int) (mtkp : Int → Int) (mline : Int → Int) (mlm : Int) (mtxt : Int → Int) (mlen : Int) (mat : Int) (mwr : Int) (merr : Int) (mfail : Int) (mcmd : Int → Int) (mcm : Int) (hr : -2147483648 ≤ ms 6 ∧ ms 6 ≤ 2147483647) : zMl l yX11_refunded wsX11_refunded ({ frames := 0, cells := 0, slots := 0, locals := 0 }) D tA [.ref a0] (bModel tA a0 a1 a2 a3 a4 a5 a6 a7 a8 a9 a10 ms mbef msav misv mpast mpm mthr mways mnds mtkp mline mlm mtxt mlen mat mwr merr mfail mcmd mcm) sz (fun (z : Int) (u : Unit) => (z = ms 6)) (fun (u : Unit) => bModel tA a0 a1 a2 a3 a4 a5 a6 a7 a8 a9 a10 ms mbef msav misv mpast mpm 0 mways mnds mtkp mline mlm mtxt mlen mat mwr merr mfail mcmd mcm) 0 0 := by
  refine zMl_of (cc := cX11_refunded) (maxL := 1) (by decide) rfl (Nat.le_of_ble_eq_true rfl) ?_
  intro p e s m args below meth c A Q ls hx hb hml hts hown hK hP hD hA hret hl
  obtain ⟨H, hHe⟩ : ∃ H : Heap, H = s.heap := ⟨_, rfl⟩
  have hS : va_S A s.heap H [] := by rw [hHe]; exact va_S.rf
  rw [← hHe] at hP ⊢
  have hl : lv_has ls 1 [(0, .ref a0)] := hl
  have iX11 : ∀ v ∈ wsX110, v ∈ wsX11_refunded := by decide +kernel
  have f_9 := hts (.fieldLink RX11 9 "HarborLightsModel" "s" "[I") (by decide +kernel)
  have f_49 := hts (.fieldLink RX11 49 "HarborLightsModel" "thrown" "I") (by decide +kernel)
  refine lv_aload_n hx hb dX11_refunded_0 rfl (lv_at hl 0 rfl) ?_
  refine zz_iconst hx hb dX11_refunded_1 ?_
  refine va_put (D := D) (ci := 13) (v := .int (iI 0)) (ty := .int) (C := RX11) (T := TX11) (N := 20) hx hb hts iX11 tyX11 tyX11_ok nmX11 hown hK hP hD hS 0 rfl rfl 6 (by decide) f_49 (fun _ h9 => h9) rfl (by decide +kernel) rfl rfl (Nat.le_of_ble_eq_true rfl) dX11_refunded_2 (fun H locs hP hD hS => ?_)
  have hP : va_P D vwCl (bModel tA a0 a1 a2 a3 a4 a5 a6 a7 a8 a9 a10 ms mbef msav misv mpast mpm 0 mways mnds mtkp mline mlm mtxt mlen mat mwr merr mfail mcmd mcm) H := hP
  have hD : va_D A (bModel tA a0 a1 a2 a3 a4 a5 a6 a7 a8 a9 a10 ms mbef msav misv mpast mpm 0 mways mnds mtkp mline mlm mtxt mlen mat mwr merr mfail mcmd mcm) := hD
  refine lv_aload_n hx hb dX11_refunded_5 rfl (lv_at hl 0 rfl) ?_
  refine va_get (D := D) (ci := 13) (v := .ref a1) (C := RX11) (T := TX11) (N := 20) hx hb hts iX11 hown hK hP 0 rfl rfl 0 (by decide) f_9 (fun _ h9 => h9) rfl dX11_refunded_6 ?_
  refine zz_bipush hx hb dX11_refunded_9 (by decide) ?_
  refine zz_iald hx hb hK hP 1 rfl (by decide) (by omega) dX11_refunded_11 ?_
  refine zz_i2l hx hb dX11_refunded_12 (by omega) ?_
  exact hret (ms 6) () _ _ _ _ dX11_refunded_13 (show (ms 6) = ms 6 from by rfl) hP hD hS

set_option maxHeartbeats 4000000 in
set_option maxRecDepth 100000 in
theorem c_X11_tells (l : Launch) (D : va_G) (tA : Nat → ClassId) (a0 a1 a2 a3 a4 a5 a6 a7 a8 a9 a10 : Nat) (sz : Nat) (ms : Int → Int) (mbef : Int → Int) (msav : Int → Int) (misv : Int) (mpast : Int → Int) (mpm : Int) (mthr : Int) (mways : Int → Int) (mnds : Int → Int) (mtkp : Int → Int) (mline : Int → Int) (mlm : Int) (mtxt : Int → Int) (mlen : Int) (mat : Int) (mwr : Int) (merr : Int) (mfail : Int) (mcmd : Int → Int) (mcm : Int) (sb : Int) (w : Int) (r_sb : -2147483648 ≤ sb ∧ sb ≤ 2147483647) (r_w : -2147483648 ≤ w ∧ w ≤ 2147483647) (hc : 0 ≤ ms 1 ∧ ms 1 ≤ 6) (hw : 0 ≤ w ∧ w ≤ 4) : zMi l yX11_tells wsX11_tells ({ frames := 2, cells := 0, slots := 0, locals := 43 }) D tA [.ref a0, .int (iI sb), .int (iI w)] (bModel tA a0 a1 a2 a3 a4 a5 a6 a7 a8 a9 a10 ms mbef msav misv mpast mpm mthr mways mnds mtkp mline mlm mtxt mlen mat mwr merr mfail mcmd mcm) sz (fun (z : Int) (u : (Int)) => ((u = 1 ∧ ¬ (0 ≤ sb ∧ sb < ms 1)) ∨ (u = 0 ∧ (0 ≤ sb ∧ sb < ms 1) ∧ z = suM ms sb w))) (fun (u : (Int)) => bModel tA a0 a1 a2 a3 a4 a5 a6 a7 a8 a9 a10 ms mbef msav misv mpast mpm u mways mnds mtkp mline mlm mtxt mlen mat mwr merr mfail mcmd mcm) 0 0 := by
  refine zMi_of (cc := cX11_tells) (maxL := 3) (by decide) rfl (fun z u h => rfl) (Nat.le_of_ble_eq_true rfl) ?_
  intro p e s m args below meth c A Q ls hx hb hml hts hown hK hP hD hA hret hl
  obtain ⟨H, hHe⟩ : ∃ H : Heap, H = s.heap := ⟨_, rfl⟩
  have hS : va_S A s.heap H [] := by rw [hHe]; exact va_S.rf
  rw [← hHe] at hP ⊢
  have hl : lv_has ls 3 [(0, .ref a0), (1, .int (iI sb)), (2, .int (iI w))] := hl
  refine lv_aload_n hx hb dX11_tells_0 rfl (lv_at hl 0 rfl) ?_
  refine lv_aload_n hx hb dX11_tells_1 rfl (lv_at hl 0 rfl) ?_
  refine lv_iload_n hx hb dX11_tells_2 rfl (lv_at hl 1 rfl) ?_
  refine zz_callVi (As := [.int (iI sb)]) (rest := [.ref a0]) (wf := fun u => bModel tA a0 a1 a2 a3 a4 a5 a6 a7 a8 a9 a10 ms mbef msav misv mpast mpm mthr mways mnds mtkp mline mlm mtxt mlen mat mwr merr mfail mcmd mcm) ⟨hx, hb, hml, hown, hts⟩ (c_X11_isSubscriber l D tA a0 a1 a2 a3 a4 a5 a6 a7 a8 a9 a10 H.size ms mbef msav misv mpast mpm mthr mways mnds mtkp mline mlm mtxt mlen mat mwr merr mfail mcmd mcm sb (by first | assumption | omega) (by first | assumption | omega)) (cwV 1 hts gX11_tells_X11_isSubscriber rfl rfl rfl (by decide +kernel) ⟨Nat.le_of_ble_eq_true rfl, Nat.le_of_ble_eq_true rfl⟩) hK hP hD hS hA [0, 1, 2, 3, 4, 5, 6, 7, 8, 9, 10] [] [0, 1, 2, 3, 4, 5, 6, 7, 8, 9, 10] rfl rfl (by decide) (by decide) (by decide) (by decide) (fun _ => rfl) (ci := 13) (q0 := 0) rfl rfl rfl rfl rfl hl.1 (Nat.le_of_ble_eq_true rfl) dX11_tells_3 ⟨Nat.le_of_ble_eq_true rfl, Nat.le_of_ble_eq_true rfl⟩ ?_
  intro z3_1 u H locs p3_2 hP hD hS
  have hP : va_P D vwCl (bModel tA a0 a1 a2 a3 a4 a5 a6 a7 a8 a9 a10 ms mbef msav misv mpast mpm mthr mways mnds mtkp mline mlm mtxt mlen mat mwr merr mfail mcmd mcm) H := hP
  have hD : va_D A (bModel tA a0 a1 a2 a3 a4 a5 a6 a7 a8 a9 a10 ms mbef msav misv mpast mpm mthr mways mnds mtkp mline mlm mtxt mlen mat mwr merr mfail mcmd mcm) := hD
  have q_3 : (z3_1 = 1 ∧ 0 ≤ sb ∧ sb < ms 1) ∨ (z3_1 = 0 ∧ ¬ (0 ≤ sb ∧ sb < ms 1)) := p3_2
  refine zz_callVi (As := [.int (iI z3_1)]) (rest := []) (wf := fun u => bModel tA a0 a1 a2 a3 a4 a5 a6 a7 a8 a9 a10 ms mbef msav misv mpast mpm (1 - z3_1) mways mnds mtkp mline mlm mtxt mlen mat mwr merr mfail mcmd mcm) ⟨hx, hb, hml, hown, hts⟩ (c_X11_isThere l D tA a0 a1 a2 a3 a4 a5 a6 a7 a8 a9 a10 H.size ms mbef msav misv mpast mpm mthr mways mnds mtkp mline mlm mtxt mlen mat mwr merr mfail mcmd mcm z3_1 (by first | assumption | omega)) (cwV 1 hts gX11_tells_X11_isThere rfl rfl rfl (by decide +kernel) ⟨Nat.le_of_ble_eq_true rfl, Nat.le_of_ble_eq_true rfl⟩) hK hP hD hS hA [0, 1, 2, 3, 4, 5, 6, 7, 8, 9, 10] [] [0, 1, 2, 3, 4, 5, 6, 7, 8, 9, 10] rfl rfl (by decide) (by decide) (by decide) (by decide) (fun _ => rfl) (ci := 13) (q0 := 0) rfl rfl rfl rfl rfl hl.1 (Nat.le_of_ble_eq_true rfl) dX11_tells_6 ⟨Nat.le_of_ble_eq_true rfl, Nat.le_of_ble_eq_true rfl⟩ ?_
  intro z6_3 u H locs p6_4 hP hD hS
  have hP : va_P D vwCl (bModel tA a0 a1 a2 a3 a4 a5 a6 a7 a8 a9 a10 ms mbef msav misv mpast mpm (1 - z3_1) mways mnds mtkp mline mlm mtxt mlen mat mwr merr mfail mcmd mcm) H := hP
  have hD : va_D A (bModel tA a0 a1 a2 a3 a4 a5 a6 a7 a8 a9 a10 ms mbef msav misv mpast mpm (1 - z3_1) mways mnds mtkp mline mlm mtxt mlen mat mwr merr mfail mcmd mcm) := hD
  have q_6 : z6_3 = z3_1 := p6_4
  refine zz_if_eq (tgt := 21) hx hb dX11_tells_9 (by decide) (by omega) (fun c_9 => ?_) (fun c_9 => ?_)
  · refine zz_iconst hx hb dX11_tells_21 ?_
    exact hret 0 (1 - z3_1) _ _ _ _ dX11_tells_22 (show ((1 - z3_1) = 1 ∧ ¬ (0 ≤ sb ∧ sb < ms 1)) ∨ ((1 - z3_1) = 0 ∧ (0 ≤ sb ∧ sb < ms 1) ∧ (0 : Int) = suM ms sb w) from by omega) hP hD hS
  · refine lv_aload_n hx hb dX11_tells_12 rfl (lv_at hl 0 rfl) ?_
    refine lv_iload_n hx hb dX11_tells_13 rfl (lv_at hl 1 rfl) ?_
    refine lv_iload_n hx hb dX11_tells_14 rfl (lv_at hl 2 rfl) ?_
    refine zz_callVi (As := [.int (iI sb), .int (iI w)]) (rest := []) (wf := fun u => bModel tA a0 a1 a2 a3 a4 a5 a6 a7 a8 a9 a10 ms mbef msav misv mpast mpm (1 - z3_1) mways mnds mtkp mline mlm mtxt mlen mat mwr merr mfail mcmd mcm) ⟨hx, hb, hml, hown, hts⟩ (c_X11_of l D tA a0 a1 a2 a3 a4 a5 a6 a7 a8 a9 a10 H.size ms mbef msav misv mpast mpm (1 - z3_1) mways mnds mtkp mline mlm mtxt mlen mat mwr merr mfail mcmd mcm sb w (by first | assumption | omega) (by first | assumption | omega) (by first | assumption | omega) (by first | assumption | omega)) (cwV 2 hts gX11_tells_X11_of rfl rfl rfl (by decide +kernel) ⟨Nat.le_of_ble_eq_true rfl, Nat.le_of_ble_eq_true rfl⟩) hK hP hD hS hA [0, 1, 2, 3, 4, 5, 6, 7, 8, 9, 10] [] [0, 1, 2, 3, 4, 5, 6, 7, 8, 9, 10] rfl rfl (by decide) (by decide) (by decide) (by decide) (fun _ => rfl) (ci := 13) (q0 := 0) rfl rfl rfl rfl rfl hl.1 (Nat.le_of_ble_eq_true rfl) dX11_tells_15 ⟨Nat.le_of_ble_eq_true rfl, Nat.le_of_ble_eq_true rfl⟩ ?_
    intro z15_5 u H locs p15_6 hP hD hS
    have hP : va_P D vwCl (bModel tA a0 a1 a2 a3 a4 a5 a6 a7 a8 a9 a10 ms mbef msav misv mpast mpm (1 - z3_1) mways mnds mtkp mline mlm mtxt mlen mat mwr merr mfail mcmd mcm) H := hP
    have hD : va_D A (bModel tA a0 a1 a2 a3 a4 a5 a6 a7 a8 a9 a10 ms mbef msav misv mpast mpm (1 - z3_1) mways mnds mtkp mline mlm mtxt mlen mat mwr merr mfail mcmd mcm) := hD
    have q_15 : z15_5 = suM ms sb w := p15_6
    refine lv_goto (tgt := 22) hx hb dX11_tells_18 (by decide) ?_
    exact hret z15_5 (1 - z3_1) _ _ _ _ dX11_tells_22 (show ((1 - z3_1) = 1 ∧ ¬ (0 ≤ sb ∧ sb < ms 1)) ∨ ((1 - z3_1) = 0 ∧ (0 ≤ sb ∧ sb < ms 1) ∧ z15_5 = suM ms sb w) from by omega) hP hD hS

set_option maxHeartbeats 4000000 in
set_option maxRecDepth 100000 in
theorem c_X11_startOf (l : Launch) (D : va_G) (tA : Nat → ClassId) (a0 a1 a2 a3 a4 a5 a6 a7 a8 a9 a10 : Nat) (sz : Nat) (ms : Int → Int) (mbef : Int → Int) (msav : Int → Int) (misv : Int) (mpast : Int → Int) (mpm : Int) (mthr : Int) (mways : Int → Int) (mnds : Int → Int) (mtkp : Int → Int) (mline : Int → Int) (mlm : Int) (mtxt : Int → Int) (mlen : Int) (mat : Int) (mwr : Int) (merr : Int) (mfail : Int) (mcmd : Int → Int) (mcm : Int) (sb : Int) (r_sb : -2147483648 ≤ sb ∧ sb ≤ 2147483647) (hc : 0 ≤ ms 1 ∧ ms 1 ≤ 6) : zMi l yX11_startOf wsX11_startOf ({ frames := 3, cells := 0, slots := 0, locals := 65 }) D tA [.ref a0, .int (iI sb)] (bModel tA a0 a1 a2 a3 a4 a5 a6 a7 a8 a9 a10 ms mbef msav misv mpast mpm mthr mways mnds mtkp mline mlm mtxt mlen mat mwr merr mfail mcmd mcm) sz (fun (z : Int) (u : (Int)) => ((u = 1 ∧ ¬ (0 ≤ sb ∧ sb < ms 1)) ∨ (u = 0 ∧ (0 ≤ sb ∧ sb < ms 1) ∧ z = suM ms sb 0))) (fun (u : (Int)) => bModel tA a0 a1 a2 a3 a4 a5 a6 a7 a8 a9 a10 ms mbef msav misv mpast mpm u mways mnds mtkp mline mlm mtxt mlen mat mwr merr mfail mcmd mcm) 0 0 := by
  refine zMi_of (cc := cX11_startOf) (maxL := 2) (by decide) rfl (fun z u h => rfl) (Nat.le_of_ble_eq_true rfl) ?_
  intro p e s m args below meth c A Q ls hx hb hml hts hown hK hP hD hA hret hl
  obtain ⟨H, hHe⟩ : ∃ H : Heap, H = s.heap := ⟨_, rfl⟩
  have hS : va_S A s.heap H [] := by rw [hHe]; exact va_S.rf
  rw [← hHe] at hP ⊢
  have hl : lv_has ls 2 [(0, .ref a0), (1, .int (iI sb))] := hl
  refine lv_aload_n hx hb dX11_startOf_0 rfl (lv_at hl 0 rfl) ?_
  refine lv_iload_n hx hb dX11_startOf_1 rfl (lv_at hl 1 rfl) ?_
  refine zz_iconst hx hb dX11_startOf_2 ?_
  refine zz_callVi (As := [.int (iI sb), .int (iI 0)]) (rest := []) (wf := fun u => bModel tA a0 a1 a2 a3 a4 a5 a6 a7 a8 a9 a10 ms mbef msav misv mpast mpm u mways mnds mtkp mline mlm mtxt mlen mat mwr merr mfail mcmd mcm) ⟨hx, hb, hml, hown, hts⟩ (c_X11_tells l D tA a0 a1 a2 a3 a4 a5 a6 a7 a8 a9 a10 H.size ms mbef msav misv mpast mpm mthr mways mnds mtkp mline mlm mtxt mlen mat mwr merr mfail mcmd mcm sb 0 (by first | assumption | omega) (by first | assumption | omega) (by first | assumption | omega) (by first | assumption | omega)) (cwV 2 hts gX11_startOf_X11_tells rfl rfl rfl (by decide +kernel) ⟨Nat.le_of_ble_eq_true rfl, Nat.le_of_ble_eq_true rfl⟩) hK hP hD hS hA [0, 1, 2, 3, 4, 5, 6, 7, 8, 9, 10] [] [0, 1, 2, 3, 4, 5, 6, 7, 8, 9, 10] rfl rfl (by decide) (by decide) (by decide) (by decide) (fun _ => rfl) (ci := 13) (q0 := 0) rfl rfl rfl rfl rfl hl.1 (Nat.le_of_ble_eq_true rfl) dX11_startOf_3 ⟨Nat.le_of_ble_eq_true rfl, Nat.le_of_ble_eq_true rfl⟩ ?_
  intro z3_2 u H locs p3_3 hP hD hS
  obtain ⟨mthr_1, rfl⟩ : ∃ q, q = u := ⟨_, rfl⟩
  have hP : va_P D vwCl (bModel tA a0 a1 a2 a3 a4 a5 a6 a7 a8 a9 a10 ms mbef msav misv mpast mpm mthr_1 mways mnds mtkp mline mlm mtxt mlen mat mwr merr mfail mcmd mcm) H := hP
  have hD : va_D A (bModel tA a0 a1 a2 a3 a4 a5 a6 a7 a8 a9 a10 ms mbef msav misv mpast mpm mthr_1 mways mnds mtkp mline mlm mtxt mlen mat mwr merr mfail mcmd mcm) := hD
  have q_3 : (mthr_1 = 1 ∧ ¬ (0 ≤ sb ∧ sb < ms 1)) ∨ (mthr_1 = 0 ∧ (0 ≤ sb ∧ sb < ms 1) ∧ z3_2 = suM ms sb 0) := p3_3
  exact hret z3_2 mthr_1 _ _ _ _ dX11_startOf_6 (show (mthr_1 = 1 ∧ ¬ (0 ≤ sb ∧ sb < ms 1)) ∨ (mthr_1 = 0 ∧ (0 ≤ sb ∧ sb < ms 1) ∧ z3_2 = suM ms sb 0) from by omega) hP hD hS

set_option maxHeartbeats 4000000 in
set_option maxRecDepth 100000 in
theorem c_X11_goalOf (l : Launch) (D : va_G) (tA : Nat → ClassId) (a0 a1 a2 a3 a4 a5 a6 a7 a8 a9 a10 : Nat) (sz : Nat) (ms : Int → Int) (mbef : Int → Int) (msav : Int → Int) (misv : Int) (mpast : Int → Int) (mpm : Int) (mthr : Int) (mways : Int → Int) (mnds : Int → Int) (mtkp : Int → Int) (mline : Int → Int) (mlm : Int) (mtxt : Int → Int) (mlen : Int) (mat : Int) (mwr : Int) (merr : Int) (mfail : Int) (mcmd : Int → Int) (mcm : Int) (sb : Int) (r_sb : -2147483648 ≤ sb ∧ sb ≤ 2147483647) (hc : 0 ≤ ms 1 ∧ ms 1 ≤ 6) : zMi l yX11_goalOf wsX11_goalOf ({ frames := 3, cells := 0, slots := 0, locals := 65 }) D tA [.ref a0, .int (iI sb)] (bModel tA a0 a1 a2 a3 a4 a5 a6 a7 a8 a9 a10 ms mbef msav misv mpast mpm mthr mways mnds mtkp mline mlm mtxt mlen mat mwr merr mfail mcmd mcm) sz (fun (z : Int) (u : (Int)) => ((u = 1 ∧ ¬ (0 ≤ sb ∧ sb < ms 1)) ∨ (u = 0 ∧ (0 ≤ sb ∧ sb < ms 1) ∧ z = suM ms sb 1))) (fun (u : (Int)) => bModel tA a0 a1 a2 a3 a4 a5 a6 a7 a8 a9 a10 ms mbef msav misv mpast mpm u mways mnds mtkp mline mlm mtxt mlen mat mwr merr mfail mcmd mcm) 0 0 := by
  refine zMi_of (cc := cX11_goalOf) (maxL := 2) (by decide) rfl (fun z u h => rfl) (Nat.le_of_ble_eq_true rfl) ?_
  intro p e s m args below meth c A Q ls hx hb hml hts hown hK hP hD hA hret hl
  obtain ⟨H, hHe⟩ : ∃ H : Heap, H = s.heap := ⟨_, rfl⟩
  have hS : va_S A s.heap H [] := by rw [hHe]; exact va_S.rf
  rw [← hHe] at hP ⊢
  have hl : lv_has ls 2 [(0, .ref a0), (1, .int (iI sb))] := hl
  refine lv_aload_n hx hb dX11_goalOf_0 rfl (lv_at hl 0 rfl) ?_
  refine lv_iload_n hx hb dX11_goalOf_1 rfl (lv_at hl 1 rfl) ?_
  refine zz_iconst hx hb dX11_goalOf_2 ?_
  refine zz_callVi (As := [.int (iI sb), .int (iI 1)]) (rest := []) (wf := fun u => bModel tA a0 a1 a2 a3 a4 a5 a6 a7 a8 a9 a10 ms mbef msav misv mpast mpm u mways mnds mtkp mline mlm mtxt mlen mat mwr merr mfail mcmd mcm) ⟨hx, hb, hml, hown, hts⟩ (c_X11_tells l D tA a0 a1 a2 a3 a4 a5 a6 a7 a8 a9 a10 H.size ms mbef msav misv mpast mpm mthr mways mnds mtkp mline mlm mtxt mlen mat mwr merr mfail mcmd mcm sb 1 (by first | assumption | omega) (by first | assumption | omega) (by first | assumption | omega) (by first | assumption | omega)) (cwV 2 hts gX11_goalOf_X11_tells rfl rfl rfl (by decide +kernel) ⟨Nat.le_of_ble_eq_true rfl, Nat.le_of_ble_eq_true rfl⟩) hK hP hD hS hA [0, 1, 2, 3, 4, 5, 6, 7, 8, 9, 10] [] [0, 1, 2, 3, 4, 5, 6, 7, 8, 9, 10] rfl rfl (by decide) (by decide) (by decide) (by decide) (fun _ => rfl) (ci := 13) (q0 := 0) rfl rfl rfl rfl rfl hl.1 (Nat.le_of_ble_eq_true rfl) dX11_goalOf_3 ⟨Nat.le_of_ble_eq_true rfl, Nat.le_of_ble_eq_true rfl⟩ ?_
  intro z3_2 u H locs p3_3 hP hD hS
  obtain ⟨mthr_1, rfl⟩ : ∃ q, q = u := ⟨_, rfl⟩
  have hP : va_P D vwCl (bModel tA a0 a1 a2 a3 a4 a5 a6 a7 a8 a9 a10 ms mbef msav misv mpast mpm mthr_1 mways mnds mtkp mline mlm mtxt mlen mat mwr merr mfail mcmd mcm) H := hP
  have hD : va_D A (bModel tA a0 a1 a2 a3 a4 a5 a6 a7 a8 a9 a10 ms mbef msav misv mpast mpm mthr_1 mways mnds mtkp mline mlm mtxt mlen mat mwr merr mfail mcmd mcm) := hD
  have q_3 : (mthr_1 = 1 ∧ ¬ (0 ≤ sb ∧ sb < ms 1)) ∨ (mthr_1 = 0 ∧ (0 ≤ sb ∧ sb < ms 1) ∧ z3_2 = suM ms sb 1) := p3_3
  exact hret z3_2 mthr_1 _ _ _ _ dX11_goalOf_6 (show (mthr_1 = 1 ∧ ¬ (0 ≤ sb ∧ sb < ms 1)) ∨ (mthr_1 = 0 ∧ (0 ≤ sb ∧ sb < ms 1) ∧ z3_2 = suM ms sb 1) from by omega) hP hD hS

set_option maxHeartbeats 4000000 in
set_option maxRecDepth 100000 in
theorem c_X11_moneyOf (l : Launch) (D : va_G) (tA : Nat → ClassId) (a0 a1 a2 a3 a4 a5 a6 a7 a8 a9 a10 : Nat) (sz : Nat) (ms : Int → Int) (mbef : Int → Int) (msav : Int → Int) (misv : Int) (mpast : Int → Int) (mpm : Int) (mthr : Int) (mways : Int → Int) (mnds : Int → Int) (mtkp : Int → Int) (mline : Int → Int) (mlm : Int) (mtxt : Int → Int) (mlen : Int) (mat : Int) (mwr : Int) (merr : Int) (mfail : Int) (mcmd : Int → Int) (mcm : Int) (sb : Int) (r_sb : -2147483648 ≤ sb ∧ sb ≤ 2147483647) (hc : 0 ≤ ms 1 ∧ ms 1 ≤ 6) : zMi l yX11_moneyOf wsX11_moneyOf ({ frames := 3, cells := 0, slots := 0, locals := 65 }) D tA [.ref a0, .int (iI sb)] (bModel tA a0 a1 a2 a3 a4 a5 a6 a7 a8 a9 a10 ms mbef msav misv mpast mpm mthr mways mnds mtkp mline mlm mtxt mlen mat mwr merr mfail mcmd mcm) sz (fun (z : Int) (u : (Int)) => ((u = 1 ∧ ¬ (0 ≤ sb ∧ sb < ms 1)) ∨ (u = 0 ∧ (0 ≤ sb ∧ sb < ms 1) ∧ z = suM ms sb 2))) (fun (u : (Int)) => bModel tA a0 a1 a2 a3 a4 a5 a6 a7 a8 a9 a10 ms mbef msav misv mpast mpm u mways mnds mtkp mline mlm mtxt mlen mat mwr merr mfail mcmd mcm) 0 0 := by
  refine zMi_of (cc := cX11_moneyOf) (maxL := 2) (by decide) rfl (fun z u h => rfl) (Nat.le_of_ble_eq_true rfl) ?_
  intro p e s m args below meth c A Q ls hx hb hml hts hown hK hP hD hA hret hl
  obtain ⟨H, hHe⟩ : ∃ H : Heap, H = s.heap := ⟨_, rfl⟩
  have hS : va_S A s.heap H [] := by rw [hHe]; exact va_S.rf
  rw [← hHe] at hP ⊢
  have hl : lv_has ls 2 [(0, .ref a0), (1, .int (iI sb))] := hl
  refine lv_aload_n hx hb dX11_moneyOf_0 rfl (lv_at hl 0 rfl) ?_
  refine lv_iload_n hx hb dX11_moneyOf_1 rfl (lv_at hl 1 rfl) ?_
  refine zz_iconst hx hb dX11_moneyOf_2 ?_
  refine zz_callVi (As := [.int (iI sb), .int (iI 2)]) (rest := []) (wf := fun u => bModel tA a0 a1 a2 a3 a4 a5 a6 a7 a8 a9 a10 ms mbef msav misv mpast mpm u mways mnds mtkp mline mlm mtxt mlen mat mwr merr mfail mcmd mcm) ⟨hx, hb, hml, hown, hts⟩ (c_X11_tells l D tA a0 a1 a2 a3 a4 a5 a6 a7 a8 a9 a10 H.size ms mbef msav misv mpast mpm mthr mways mnds mtkp mline mlm mtxt mlen mat mwr merr mfail mcmd mcm sb 2 (by first | assumption | omega) (by first | assumption | omega) (by first | assumption | omega) (by first | assumption | omega)) (cwV 2 hts gX11_moneyOf_X11_tells rfl rfl rfl (by decide +kernel) ⟨Nat.le_of_ble_eq_true rfl, Nat.le_of_ble_eq_true rfl⟩) hK hP hD hS hA [0, 1, 2, 3, 4, 5, 6, 7, 8, 9, 10] [] [0, 1, 2, 3, 4, 5, 6, 7, 8, 9, 10] rfl rfl (by decide) (by decide) (by decide) (by decide) (fun _ => rfl) (ci := 13) (q0 := 0) rfl rfl rfl rfl rfl hl.1 (Nat.le_of_ble_eq_true rfl) dX11_moneyOf_3 ⟨Nat.le_of_ble_eq_true rfl, Nat.le_of_ble_eq_true rfl⟩ ?_
  intro z3_2 u H locs p3_3 hP hD hS
  obtain ⟨mthr_1, rfl⟩ : ∃ q, q = u := ⟨_, rfl⟩
  have hP : va_P D vwCl (bModel tA a0 a1 a2 a3 a4 a5 a6 a7 a8 a9 a10 ms mbef msav misv mpast mpm mthr_1 mways mnds mtkp mline mlm mtxt mlen mat mwr merr mfail mcmd mcm) H := hP
  have hD : va_D A (bModel tA a0 a1 a2 a3 a4 a5 a6 a7 a8 a9 a10 ms mbef msav misv mpast mpm mthr_1 mways mnds mtkp mline mlm mtxt mlen mat mwr merr mfail mcmd mcm) := hD
  have q_3 : (mthr_1 = 1 ∧ ¬ (0 ≤ sb ∧ sb < ms 1)) ∨ (mthr_1 = 0 ∧ (0 ≤ sb ∧ sb < ms 1) ∧ z3_2 = suM ms sb 2) := p3_3
  exact hret z3_2 mthr_1 _ _ _ _ dX11_moneyOf_6 (show (mthr_1 = 1 ∧ ¬ (0 ≤ sb ∧ sb < ms 1)) ∨ (mthr_1 = 0 ∧ (0 ≤ sb ∧ sb < ms 1) ∧ z3_2 = suM ms sb 2) from by omega) hP hD hS

set_option maxHeartbeats 4000000 in
set_option maxRecDepth 100000 in
theorem c_X11_litNightsOf (l : Launch) (D : va_G) (tA : Nat → ClassId) (a0 a1 a2 a3 a4 a5 a6 a7 a8 a9 a10 : Nat) (sz : Nat) (ms : Int → Int) (mbef : Int → Int) (msav : Int → Int) (misv : Int) (mpast : Int → Int) (mpm : Int) (mthr : Int) (mways : Int → Int) (mnds : Int → Int) (mtkp : Int → Int) (mline : Int → Int) (mlm : Int) (mtxt : Int → Int) (mlen : Int) (mat : Int) (mwr : Int) (merr : Int) (mfail : Int) (mcmd : Int → Int) (mcm : Int) (sb : Int) (r_sb : -2147483648 ≤ sb ∧ sb ≤ 2147483647) (hc : 0 ≤ ms 1 ∧ ms 1 ≤ 6) : zMi l yX11_litNightsOf wsX11_litNightsOf ({ frames := 3, cells := 0, slots := 0, locals := 65 }) D tA [.ref a0, .int (iI sb)] (bModel tA a0 a1 a2 a3 a4 a5 a6 a7 a8 a9 a10 ms mbef msav misv mpast mpm mthr mways mnds mtkp mline mlm mtxt mlen mat mwr merr mfail mcmd mcm) sz (fun (z : Int) (u : (Int)) => ((u = 1 ∧ ¬ (0 ≤ sb ∧ sb < ms 1)) ∨ (u = 0 ∧ (0 ≤ sb ∧ sb < ms 1) ∧ z = suM ms sb 3))) (fun (u : (Int)) => bModel tA a0 a1 a2 a3 a4 a5 a6 a7 a8 a9 a10 ms mbef msav misv mpast mpm u mways mnds mtkp mline mlm mtxt mlen mat mwr merr mfail mcmd mcm) 0 0 := by
  refine zMi_of (cc := cX11_litNightsOf) (maxL := 2) (by decide) rfl (fun z u h => rfl) (Nat.le_of_ble_eq_true rfl) ?_
  intro p e s m args below meth c A Q ls hx hb hml hts hown hK hP hD hA hret hl
  obtain ⟨H, hHe⟩ : ∃ H : Heap, H = s.heap := ⟨_, rfl⟩
  have hS : va_S A s.heap H [] := by rw [hHe]; exact va_S.rf
  rw [← hHe] at hP ⊢
  have hl : lv_has ls 2 [(0, .ref a0), (1, .int (iI sb))] := hl
  refine lv_aload_n hx hb dX11_litNightsOf_0 rfl (lv_at hl 0 rfl) ?_
  refine lv_iload_n hx hb dX11_litNightsOf_1 rfl (lv_at hl 1 rfl) ?_
  refine zz_iconst hx hb dX11_litNightsOf_2 ?_
  refine zz_callVi (As := [.int (iI sb), .int (iI 3)]) (rest := []) (wf := fun u => bModel tA a0 a1 a2 a3 a4 a5 a6 a7 a8 a9 a10 ms mbef msav misv mpast mpm u mways mnds mtkp mline mlm mtxt mlen mat mwr merr mfail mcmd mcm) ⟨hx, hb, hml, hown, hts⟩ (c_X11_tells l D tA a0 a1 a2 a3 a4 a5 a6 a7 a8 a9 a10 H.size ms mbef msav misv mpast mpm mthr mways mnds mtkp mline mlm mtxt mlen mat mwr merr mfail mcmd mcm sb 3 (by first | assumption | omega) (by first | assumption | omega) (by first | assumption | omega) (by first | assumption | omega)) (cwV 2 hts gX11_litNightsOf_X11_tells rfl rfl rfl (by decide +kernel) ⟨Nat.le_of_ble_eq_true rfl, Nat.le_of_ble_eq_true rfl⟩) hK hP hD hS hA [0, 1, 2, 3, 4, 5, 6, 7, 8, 9, 10] [] [0, 1, 2, 3, 4, 5, 6, 7, 8, 9, 10] rfl rfl (by decide) (by decide) (by decide) (by decide) (fun _ => rfl) (ci := 13) (q0 := 0) rfl rfl rfl rfl rfl hl.1 (Nat.le_of_ble_eq_true rfl) dX11_litNightsOf_3 ⟨Nat.le_of_ble_eq_true rfl, Nat.le_of_ble_eq_true rfl⟩ ?_
  intro z3_2 u H locs p3_3 hP hD hS
  obtain ⟨mthr_1, rfl⟩ : ∃ q, q = u := ⟨_, rfl⟩
  have hP : va_P D vwCl (bModel tA a0 a1 a2 a3 a4 a5 a6 a7 a8 a9 a10 ms mbef msav misv mpast mpm mthr_1 mways mnds mtkp mline mlm mtxt mlen mat mwr merr mfail mcmd mcm) H := hP
  have hD : va_D A (bModel tA a0 a1 a2 a3 a4 a5 a6 a7 a8 a9 a10 ms mbef msav misv mpast mpm mthr_1 mways mnds mtkp mline mlm mtxt mlen mat mwr merr mfail mcmd mcm) := hD
  have q_3 : (mthr_1 = 1 ∧ ¬ (0 ≤ sb ∧ sb < ms 1)) ∨ (mthr_1 = 0 ∧ (0 ≤ sb ∧ sb < ms 1) ∧ z3_2 = suM ms sb 3) := p3_3
  exact hret z3_2 mthr_1 _ _ _ _ dX11_litNightsOf_6 (show (mthr_1 = 1 ∧ ¬ (0 ≤ sb ∧ sb < ms 1)) ∨ (mthr_1 = 0 ∧ (0 ≤ sb ∧ sb < ms 1) ∧ z3_2 = suM ms sb 3) from by omega) hP hD hS

set_option maxHeartbeats 4000000 in
set_option maxRecDepth 100000 in
theorem c_X11_darkNightsOf (l : Launch) (D : va_G) (tA : Nat → ClassId) (a0 a1 a2 a3 a4 a5 a6 a7 a8 a9 a10 : Nat) (sz : Nat) (ms : Int → Int) (mbef : Int → Int) (msav : Int → Int) (misv : Int) (mpast : Int → Int) (mpm : Int) (mthr : Int) (mways : Int → Int) (mnds : Int → Int) (mtkp : Int → Int) (mline : Int → Int) (mlm : Int) (mtxt : Int → Int) (mlen : Int) (mat : Int) (mwr : Int) (merr : Int) (mfail : Int) (mcmd : Int → Int) (mcm : Int) (sb : Int) (r_sb : -2147483648 ≤ sb ∧ sb ≤ 2147483647) (hc : 0 ≤ ms 1 ∧ ms 1 ≤ 6) : zMi l yX11_darkNightsOf wsX11_darkNightsOf ({ frames := 3, cells := 0, slots := 0, locals := 65 }) D tA [.ref a0, .int (iI sb)] (bModel tA a0 a1 a2 a3 a4 a5 a6 a7 a8 a9 a10 ms mbef msav misv mpast mpm mthr mways mnds mtkp mline mlm mtxt mlen mat mwr merr mfail mcmd mcm) sz (fun (z : Int) (u : (Int)) => ((u = 1 ∧ ¬ (0 ≤ sb ∧ sb < ms 1)) ∨ (u = 0 ∧ (0 ≤ sb ∧ sb < ms 1) ∧ z = suM ms sb 4))) (fun (u : (Int)) => bModel tA a0 a1 a2 a3 a4 a5 a6 a7 a8 a9 a10 ms mbef msav misv mpast mpm u mways mnds mtkp mline mlm mtxt mlen mat mwr merr mfail mcmd mcm) 0 0 := by
  refine zMi_of (cc := cX11_darkNightsOf) (maxL := 2) (by decide) rfl (fun z u h => rfl) (Nat.le_of_ble_eq_true rfl) ?_
  intro p e s m args below meth c A Q ls hx hb hml hts hown hK hP hD hA hret hl
  obtain ⟨H, hHe⟩ : ∃ H : Heap, H = s.heap := ⟨_, rfl⟩
  have hS : va_S A s.heap H [] := by rw [hHe]; exact va_S.rf
  rw [← hHe] at hP ⊢
  have hl : lv_has ls 2 [(0, .ref a0), (1, .int (iI sb))] := hl
  refine lv_aload_n hx hb dX11_darkNightsOf_0 rfl (lv_at hl 0 rfl) ?_
  refine lv_iload_n hx hb dX11_darkNightsOf_1 rfl (lv_at hl 1 rfl) ?_
  refine zz_iconst hx hb dX11_darkNightsOf_2 ?_
  refine zz_callVi (As := [.int (iI sb), .int (iI 4)]) (rest := []) (wf := fun u => bModel tA a0 a1 a2 a3 a4 a5 a6 a7 a8 a9 a10 ms mbef msav misv mpast mpm u mways mnds mtkp mline mlm mtxt mlen mat mwr merr mfail mcmd mcm) ⟨hx, hb, hml, hown, hts⟩ (c_X11_tells l D tA a0 a1 a2 a3 a4 a5 a6 a7 a8 a9 a10 H.size ms mbef msav misv mpast mpm mthr mways mnds mtkp mline mlm mtxt mlen mat mwr merr mfail mcmd mcm sb 4 (by first | assumption | omega) (by first | assumption | omega) (by first | assumption | omega) (by first | assumption | omega)) (cwV 2 hts gX11_darkNightsOf_X11_tells rfl rfl rfl (by decide +kernel) ⟨Nat.le_of_ble_eq_true rfl, Nat.le_of_ble_eq_true rfl⟩) hK hP hD hS hA [0, 1, 2, 3, 4, 5, 6, 7, 8, 9, 10] [] [0, 1, 2, 3, 4, 5, 6, 7, 8, 9, 10] rfl rfl (by decide) (by decide) (by decide) (by decide) (fun _ => rfl) (ci := 13) (q0 := 0) rfl rfl rfl rfl rfl hl.1 (Nat.le_of_ble_eq_true rfl) dX11_darkNightsOf_3 ⟨Nat.le_of_ble_eq_true rfl, Nat.le_of_ble_eq_true rfl⟩ ?_
  intro z3_2 u H locs p3_3 hP hD hS
  obtain ⟨mthr_1, rfl⟩ : ∃ q, q = u := ⟨_, rfl⟩
  have hP : va_P D vwCl (bModel tA a0 a1 a2 a3 a4 a5 a6 a7 a8 a9 a10 ms mbef msav misv mpast mpm mthr_1 mways mnds mtkp mline mlm mtxt mlen mat mwr merr mfail mcmd mcm) H := hP
  have hD : va_D A (bModel tA a0 a1 a2 a3 a4 a5 a6 a7 a8 a9 a10 ms mbef msav misv mpast mpm mthr_1 mways mnds mtkp mline mlm mtxt mlen mat mwr merr mfail mcmd mcm) := hD
  have q_3 : (mthr_1 = 1 ∧ ¬ (0 ≤ sb ∧ sb < ms 1)) ∨ (mthr_1 = 0 ∧ (0 ≤ sb ∧ sb < ms 1) ∧ z3_2 = suM ms sb 4) := p3_3
  exact hret z3_2 mthr_1 _ _ _ _ dX11_darkNightsOf_6 (show (mthr_1 = 1 ∧ ¬ (0 ≤ sb ∧ sb < ms 1)) ∨ (mthr_1 = 0 ∧ (0 ≤ sb ∧ sb < ms 1) ∧ z3_2 = suM ms sb 4) from by omega) hP hD hS

set_option maxHeartbeats 4000000 in
set_option maxRecDepth 100000 in
theorem c_X11_wouldBeLit (l : Launch) (D : va_G) (tA : Nat → ClassId) (a0 a1 a2 a3 a4 a5 a6 a7 a8 a9 a10 : Nat) (sz : Nat) (ms : Int → Int) (mbef : Int → Int) (msav : Int → Int) (misv : Int) (mpast : Int → Int) (mpm : Int) (mthr : Int) (mways : Int → Int) (mnds : Int → Int) (mtkp : Int → Int) (mline : Int → Int) (mlm : Int) (mtxt : Int → Int) (mlen : Int) (mat : Int) (mwr : Int) (merr : Int) (mfail : Int) (mcmd : Int → Int) (mcm : Int) (sb : Int) (r_sb : -2147483648 ≤ sb ∧ sb ≤ 2147483647) (hm : MV ms) : zMi l yX11_wouldBeLit wsX11_wouldBeLit ({ frames := 4, cells := 0, slots := 0, locals := 90 }) D tA [.ref a0, .int (iI sb)] (bModel tA a0 a1 a2 a3 a4 a5 a6 a7 a8 a9 a10 ms mbef msav misv mpast mpm mthr mways mnds mtkp mline mlm mtxt mlen mat mwr merr mfail mcmd mcm) sz (fun (z : Int) (u : (Int → Int) × (Int → Int) × (Int → Int) × (Int)) => (plnM ms u.2.2.1 u.2.1) ∧ ((z = 0 ∨ z = 1) ∧ ((u.2.2.2 = 1 ∧ ¬ (0 ≤ sb ∧ sb < ms 1)) ∨ (u.2.2.2 = 0 ∧ (0 ≤ sb ∧ sb < ms 1) ∧ z = u.2.2.1 sb)))) (fun (u : (Int → Int) × (Int → Int) × (Int → Int) × (Int)) => bModel tA a0 a1 a2 a3 a4 a5 a6 a7 a8 a9 a10 ms mbef msav misv mpast mpm u.2.2.2 u.1 u.2.1 u.2.2.1 mline mlm mtxt mlen mat mwr merr mfail mcmd mcm) 0 0 := by
  refine zMi_of (cc := cX11_wouldBeLit) (maxL := 2) (by decide) rfl (fun z u h => zbool z (by exact h.2.1)) (Nat.le_of_ble_eq_true rfl) ?_
  intro p e s m args below meth c A Q ls hx hb hml hts hown hK hP hD hA hret hl
  obtain ⟨H, hHe⟩ : ∃ H : Heap, H = s.heap := ⟨_, rfl⟩
  have hS : va_S A s.heap H [] := by rw [hHe]; exact va_S.rf
  rw [← hHe] at hP ⊢
  have hl : lv_has ls 2 [(0, .ref a0), (1, .int (iI sb))] := hl
  have iX11 : ∀ v ∈ wsX110, v ∈ wsX11_wouldBeLit := by decide +kernel
  have f_28 := hts (.fieldLink RX11 28 "HarborLightsModel" "takesPart" "[Z") (by decide +kernel)
  obtain ⟨⟨mp0, mp1, mc0, mc1, mf0, mf1, mr0, mr1⟩, hlr, mL, mS⟩ := id hm
  refine lv_aload_n hx hb dX11_wouldBeLit_0 rfl (lv_at hl 0 rfl) ?_
  refine zz_callVv (As := []) (rest := []) (wf := fun u => bModel tA a0 a1 a2 a3 a4 a5 a6 a7 a8 a9 a10 ms mbef msav misv mpast mpm mthr u.1 u.2.1 u.2.2 mline mlm mtxt mlen mat mwr merr mfail mcmd mcm) ⟨hx, hb, hml, hown, hts⟩ (c_X11_findsNight l D tA a0 a1 a2 a3 a4 a5 a6 a7 a8 a9 a10 H.size ms mbef msav misv mpast mpm mthr mways mnds mtkp mline mlm mtxt mlen mat mwr merr mfail mcmd mcm (by first | assumption | omega)) (cwV 0 hts gX11_wouldBeLit_X11_findsNight rfl rfl rfl (by decide +kernel) ⟨Nat.le_of_ble_eq_true rfl, Nat.le_of_ble_eq_true rfl⟩) hK hP hD hS hA [0, 1, 2, 3, 4, 5, 6, 7, 8, 9, 10] [] [0, 1, 2, 3, 4, 5, 6, 7, 8, 9, 10] rfl rfl (by decide) (by decide) (by decide) (by decide) (fun _ => rfl) (ci := 13) (q0 := 0) rfl rfl rfl rfl rfl hl.1 (Nat.le_of_ble_eq_true rfl) dX11_wouldBeLit_1 ⟨Nat.le_of_ble_eq_true rfl, Nat.le_of_ble_eq_true rfl⟩ ?_
  intro u H locs p1_4 hP hD hS
  obtain ⟨mways_1, mnds_2, mtkp_3⟩ := u
  have hP : va_P D vwCl (bModel tA a0 a1 a2 a3 a4 a5 a6 a7 a8 a9 a10 ms mbef msav misv mpast mpm mthr mways_1 mnds_2 mtkp_3 mline mlm mtxt mlen mat mwr merr mfail mcmd mcm) H := hP
  have hD : va_D A (bModel tA a0 a1 a2 a3 a4 a5 a6 a7 a8 a9 a10 ms mbef msav misv mpast mpm mthr mways_1 mnds_2 mtkp_3 mline mlm mtxt mlen mat mwr merr mfail mcmd mcm) := hD
  have q_1 : plnM ms mtkp_3 mnds_2 := p1_4
  refine lv_aload_n hx hb dX11_wouldBeLit_4 rfl (lv_at hl 0 rfl) ?_
  refine lv_aload_n hx hb dX11_wouldBeLit_5 rfl (lv_at hl 0 rfl) ?_
  refine lv_iload_n hx hb dX11_wouldBeLit_6 rfl (lv_at hl 1 rfl) ?_
  refine zz_callVi (As := [.int (iI sb)]) (rest := [.ref a0]) (wf := fun u => bModel tA a0 a1 a2 a3 a4 a5 a6 a7 a8 a9 a10 ms mbef msav misv mpast mpm mthr mways_1 mnds_2 mtkp_3 mline mlm mtxt mlen mat mwr merr mfail mcmd mcm) ⟨hx, hb, hml, hown, hts⟩ (c_X11_isSubscriber l D tA a0 a1 a2 a3 a4 a5 a6 a7 a8 a9 a10 H.size ms mbef msav misv mpast mpm mthr mways_1 mnds_2 mtkp_3 mline mlm mtxt mlen mat mwr merr mfail mcmd mcm sb (by first | assumption | omega) (by first | assumption | omega)) (cwV 1 hts gX11_wouldBeLit_X11_isSubscriber rfl rfl rfl (by decide +kernel) ⟨Nat.le_of_ble_eq_true rfl, Nat.le_of_ble_eq_true rfl⟩) hK hP hD hS hA [0, 1, 2, 3, 4, 5, 6, 7, 8, 9, 10] [] [0, 1, 2, 3, 4, 5, 6, 7, 8, 9, 10] rfl rfl (by decide) (by decide) (by decide) (by decide) (fun _ => rfl) (ci := 13) (q0 := 0) rfl rfl rfl rfl rfl hl.1 (Nat.le_of_ble_eq_true rfl) dX11_wouldBeLit_7 ⟨Nat.le_of_ble_eq_true rfl, Nat.le_of_ble_eq_true rfl⟩ ?_
  intro z7_5 u H locs p7_6 hP hD hS
  have hP : va_P D vwCl (bModel tA a0 a1 a2 a3 a4 a5 a6 a7 a8 a9 a10 ms mbef msav misv mpast mpm mthr mways_1 mnds_2 mtkp_3 mline mlm mtxt mlen mat mwr merr mfail mcmd mcm) H := hP
  have hD : va_D A (bModel tA a0 a1 a2 a3 a4 a5 a6 a7 a8 a9 a10 ms mbef msav misv mpast mpm mthr mways_1 mnds_2 mtkp_3 mline mlm mtxt mlen mat mwr merr mfail mcmd mcm) := hD
  have q_7 : (z7_5 = 1 ∧ 0 ≤ sb ∧ sb < ms 1) ∨ (z7_5 = 0 ∧ ¬ (0 ≤ sb ∧ sb < ms 1)) := p7_6
  refine zz_callVi (As := [.int (iI z7_5)]) (rest := []) (wf := fun u => bModel tA a0 a1 a2 a3 a4 a5 a6 a7 a8 a9 a10 ms mbef msav misv mpast mpm (1 - z7_5) mways_1 mnds_2 mtkp_3 mline mlm mtxt mlen mat mwr merr mfail mcmd mcm) ⟨hx, hb, hml, hown, hts⟩ (c_X11_isThere l D tA a0 a1 a2 a3 a4 a5 a6 a7 a8 a9 a10 H.size ms mbef msav misv mpast mpm mthr mways_1 mnds_2 mtkp_3 mline mlm mtxt mlen mat mwr merr mfail mcmd mcm z7_5 (by first | assumption | omega)) (cwV 1 hts gX11_wouldBeLit_X11_isThere rfl rfl rfl (by decide +kernel) ⟨Nat.le_of_ble_eq_true rfl, Nat.le_of_ble_eq_true rfl⟩) hK hP hD hS hA [0, 1, 2, 3, 4, 5, 6, 7, 8, 9, 10] [] [0, 1, 2, 3, 4, 5, 6, 7, 8, 9, 10] rfl rfl (by decide) (by decide) (by decide) (by decide) (fun _ => rfl) (ci := 13) (q0 := 0) rfl rfl rfl rfl rfl hl.1 (Nat.le_of_ble_eq_true rfl) dX11_wouldBeLit_10 ⟨Nat.le_of_ble_eq_true rfl, Nat.le_of_ble_eq_true rfl⟩ ?_
  intro z10_7 u H locs p10_8 hP hD hS
  have hP : va_P D vwCl (bModel tA a0 a1 a2 a3 a4 a5 a6 a7 a8 a9 a10 ms mbef msav misv mpast mpm (1 - z7_5) mways_1 mnds_2 mtkp_3 mline mlm mtxt mlen mat mwr merr mfail mcmd mcm) H := hP
  have hD : va_D A (bModel tA a0 a1 a2 a3 a4 a5 a6 a7 a8 a9 a10 ms mbef msav misv mpast mpm (1 - z7_5) mways_1 mnds_2 mtkp_3 mline mlm mtxt mlen mat mwr merr mfail mcmd mcm) := hD
  have q_10 : z10_7 = z7_5 := p10_8
  refine zz_if_eq (tgt := 29) hx hb dX11_wouldBeLit_13 (by decide) (by omega) (fun c_13 => ?_) (fun c_13 => ?_)
  · refine zz_iconst hx hb dX11_wouldBeLit_29 ?_
    exact hret 0 (mways_1, mnds_2, mtkp_3, (1 - z7_5)) _ _ _ _ dX11_wouldBeLit_30 ⟨(show plnM ms mtkp_3 mnds_2 from by exact q_1), (show ((0 : Int) = 0 ∨ (0 : Int) = 1) ∧ (((1 - z7_5) = 1 ∧ ¬ (0 ≤ sb ∧ sb < ms 1)) ∨ ((1 - z7_5) = 0 ∧ (0 ≤ sb ∧ sb < ms 1) ∧ (0 : Int) = mtkp_3 sb)) from by omega)⟩ hP hD hS
  · refine lv_aload_n hx hb dX11_wouldBeLit_16 rfl (lv_at hl 0 rfl) ?_
    refine va_get (D := D) (ci := 13) (v := .ref a7) (C := RX11) (T := TX11) (N := 20) hx hb hts iX11 hown hK hP 0 rfl rfl 9 (by decide) f_28 (fun _ h9 => h9) rfl dX11_wouldBeLit_17 ?_
    refine lv_iload_n hx hb dX11_wouldBeLit_20 rfl (lv_at hl 1 rfl) ?_
    refine zz_zald hx hb hK hP 7 rfl (by decide) (by omega) dX11_wouldBeLit_21 ?_
    have hga := mkT_01 q_1.2 mc1 (show 0 ≤ sb by omega) (show sb < ms 1 by omega)
    refine zz_if_eq (tgt := 29) hx hb dX11_wouldBeLit_22 (by decide) (by omega) (fun c_22 => ?_) (fun c_22 => ?_)
    · refine zz_iconst hx hb dX11_wouldBeLit_29 ?_
      exact hret 0 (mways_1, mnds_2, mtkp_3, (1 - z7_5)) _ _ _ _ dX11_wouldBeLit_30 ⟨(show plnM ms mtkp_3 mnds_2 from by exact q_1), (show ((0 : Int) = 0 ∨ (0 : Int) = 1) ∧ (((1 - z7_5) = 1 ∧ ¬ (0 ≤ sb ∧ sb < ms 1)) ∨ ((1 - z7_5) = 0 ∧ (0 ≤ sb ∧ sb < ms 1) ∧ (0 : Int) = mtkp_3 sb)) from by omega)⟩ hP hD hS
    · refine zz_iconst hx hb dX11_wouldBeLit_25 ?_
      refine lv_goto (tgt := 30) hx hb dX11_wouldBeLit_26 (by decide) ?_
      exact hret 1 (mways_1, mnds_2, mtkp_3, (1 - z7_5)) _ _ _ _ dX11_wouldBeLit_30 ⟨(show plnM ms mtkp_3 mnds_2 from by exact q_1), (show ((1 : Int) = 0 ∨ (1 : Int) = 1) ∧ (((1 - z7_5) = 1 ∧ ¬ (0 ≤ sb ∧ sb < ms 1)) ∨ ((1 - z7_5) = 0 ∧ (0 ≤ sb ∧ sb < ms 1) ∧ (1 : Int) = mtkp_3 sb)) from by omega)⟩ hP hD hS

set_option maxHeartbeats 4000000 in
set_option maxRecDepth 100000 in
theorem c_X11_nextRange (l : Launch) (D : va_G) (tA : Nat → ClassId) (a0 a1 a2 a3 a4 a5 a6 a7 a8 a9 a10 : Nat) (sz : Nat) (ms : Int → Int) (mbef : Int → Int) (msav : Int → Int) (misv : Int) (mpast : Int → Int) (mpm : Int) (mthr : Int) (mways : Int → Int) (mnds : Int → Int) (mtkp : Int → Int) (mline : Int → Int) (mlm : Int) (mtxt : Int → Int) (mlen : Int) (mat : Int) (mwr : Int) (merr : Int) (mfail : Int) (mcmd : Int → Int) (mcm : Int) (hm : MV ms) : zMi l yX11_nextRange wsX11_nextRange ({ frames := 4, cells := 0, slots := 0, locals := 90 }) D tA [.ref a0] (bModel tA a0 a1 a2 a3 a4 a5 a6 a7 a8 a9 a10 ms mbef msav misv mpast mpm mthr mways mnds mtkp mline mlm mtxt mlen mat mwr merr mfail mcmd mcm) sz (fun (z : Int) (u : (Int → Int) × (Int → Int) × (Int → Int)) => (plnM ms u.2.2 u.2.1) ∧ (isGr (mkT (ms 1) u.2.2) u.2.1 z)) (fun (u : (Int → Int) × (Int → Int) × (Int → Int)) => bModel tA a0 a1 a2 a3 a4 a5 a6 a7 a8 a9 a10 ms mbef msav misv mpast mpm 0 u.1 u.2.1 u.2.2 mline mlm mtxt mlen mat mwr merr mfail mcmd mcm) 0 0 := by
  refine zMi_of (cc := cX11_nextRange) (maxL := 1) (by decide) rfl (fun z u h => rfl) (Nat.le_of_ble_eq_true rfl) ?_
  intro p e s m args below meth c A Q ls hx hb hml hts hown hK hP hD hA hret hl
  obtain ⟨H, hHe⟩ : ∃ H : Heap, H = s.heap := ⟨_, rfl⟩
  have hS : va_S A s.heap H [] := by rw [hHe]; exact va_S.rf
  rw [← hHe] at hP ⊢
  have hl : lv_has ls 1 [(0, .ref a0)] := hl
  have iX11 : ∀ v ∈ wsX110, v ∈ wsX11_nextRange := by decide +kernel
  have f_49 := hts (.fieldLink RX11 49 "HarborLightsModel" "thrown" "I") (by decide +kernel)
  obtain ⟨⟨mp0, mp1, mc0, mc1, mf0, mf1, mr0, mr1⟩, hlr, mL, mS⟩ := id hm
  refine lv_aload_n hx hb dX11_nextRange_0 rfl (lv_at hl 0 rfl) ?_
  refine zz_iconst hx hb dX11_nextRange_1 ?_
  refine va_put (D := D) (ci := 13) (v := .int (iI 0)) (ty := .int) (C := RX11) (T := TX11) (N := 20) hx hb hts iX11 tyX11 tyX11_ok nmX11 hown hK hP hD hS 0 rfl rfl 6 (by decide) f_49 (fun _ h9 => h9) rfl (by decide +kernel) rfl rfl (Nat.le_of_ble_eq_true rfl) dX11_nextRange_2 (fun H locs hP hD hS => ?_)
  have hP : va_P D vwCl (bModel tA a0 a1 a2 a3 a4 a5 a6 a7 a8 a9 a10 ms mbef msav misv mpast mpm 0 mways mnds mtkp mline mlm mtxt mlen mat mwr merr mfail mcmd mcm) H := hP
  have hD : va_D A (bModel tA a0 a1 a2 a3 a4 a5 a6 a7 a8 a9 a10 ms mbef msav misv mpast mpm 0 mways mnds mtkp mline mlm mtxt mlen mat mwr merr mfail mcmd mcm) := hD
  refine lv_aload_n hx hb dX11_nextRange_5 rfl (lv_at hl 0 rfl) ?_
  refine zz_callVv (As := []) (rest := []) (wf := fun u => bModel tA a0 a1 a2 a3 a4 a5 a6 a7 a8 a9 a10 ms mbef msav misv mpast mpm 0 u.1 u.2.1 u.2.2 mline mlm mtxt mlen mat mwr merr mfail mcmd mcm) ⟨hx, hb, hml, hown, hts⟩ (c_X11_findsNight l D tA a0 a1 a2 a3 a4 a5 a6 a7 a8 a9 a10 H.size ms mbef msav misv mpast mpm 0 mways mnds mtkp mline mlm mtxt mlen mat mwr merr mfail mcmd mcm (by first | assumption | omega)) (cwV 0 hts gX11_nextRange_X11_findsNight rfl rfl rfl (by decide +kernel) ⟨Nat.le_of_ble_eq_true rfl, Nat.le_of_ble_eq_true rfl⟩) hK hP hD hS hA [0, 1, 2, 3, 4, 5, 6, 7, 8, 9, 10] [] [0, 1, 2, 3, 4, 5, 6, 7, 8, 9, 10] rfl rfl (by decide) (by decide) (by decide) (by decide) (fun _ => rfl) (ci := 13) (q0 := 0) rfl rfl rfl rfl rfl hl.1 (Nat.le_of_ble_eq_true rfl) dX11_nextRange_6 ⟨Nat.le_of_ble_eq_true rfl, Nat.le_of_ble_eq_true rfl⟩ ?_
  intro u H locs p6_4 hP hD hS
  obtain ⟨mways_1, mnds_2, mtkp_3⟩ := u
  have hP : va_P D vwCl (bModel tA a0 a1 a2 a3 a4 a5 a6 a7 a8 a9 a10 ms mbef msav misv mpast mpm 0 mways_1 mnds_2 mtkp_3 mline mlm mtxt mlen mat mwr merr mfail mcmd mcm) H := hP
  have hD : va_D A (bModel tA a0 a1 a2 a3 a4 a5 a6 a7 a8 a9 a10 ms mbef msav misv mpast mpm 0 mways_1 mnds_2 mtkp_3 mline mlm mtxt mlen mat mwr merr mfail mcmd mcm) := hD
  have q_6 : plnM ms mtkp_3 mnds_2 := p6_4
  refine lv_aload_n hx hb dX11_nextRange_9 rfl (lv_at hl 0 rfl) ?_
  refine zz_callVi (As := []) (rest := []) (wf := fun u => bModel tA a0 a1 a2 a3 a4 a5 a6 a7 a8 a9 a10 ms mbef msav misv mpast mpm 0 mways_1 mnds_2 mtkp_3 mline mlm mtxt mlen mat mwr merr mfail mcmd mcm) ⟨hx, hb, hml, hown, hts⟩ (c_X11_greatestNeed l D tA a0 a1 a2 a3 a4 a5 a6 a7 a8 a9 a10 H.size ms mbef msav misv mpast mpm 0 mways_1 mnds_2 mtkp_3 mline mlm mtxt mlen mat mwr merr mfail mcmd mcm (by first | assumption | omega) q_6.2) (cwV 0 hts gX11_nextRange_X11_greatestNeed rfl rfl rfl (by decide +kernel) ⟨Nat.le_of_ble_eq_true rfl, Nat.le_of_ble_eq_true rfl⟩) hK hP hD hS hA [0, 1, 2, 3, 4, 5, 6, 7, 8, 9, 10] [] [0, 1, 2, 3, 4, 5, 6, 7, 8, 9, 10] rfl rfl (by decide) (by decide) (by decide) (by decide) (fun _ => rfl) (ci := 13) (q0 := 0) rfl rfl rfl rfl rfl hl.1 (Nat.le_of_ble_eq_true rfl) dX11_nextRange_10 ⟨Nat.le_of_ble_eq_true rfl, Nat.le_of_ble_eq_true rfl⟩ ?_
  intro z10_5 u H locs p10_6 hP hD hS
  have hP : va_P D vwCl (bModel tA a0 a1 a2 a3 a4 a5 a6 a7 a8 a9 a10 ms mbef msav misv mpast mpm 0 mways_1 mnds_2 mtkp_3 mline mlm mtxt mlen mat mwr merr mfail mcmd mcm) H := hP
  have hD : va_D A (bModel tA a0 a1 a2 a3 a4 a5 a6 a7 a8 a9 a10 ms mbef msav misv mpast mpm 0 mways_1 mnds_2 mtkp_3 mline mlm mtxt mlen mat mwr merr mfail mcmd mcm) := hD
  have q_10 : isGr (mkT (ms 1) mtkp_3) mnds_2 z10_5 := p10_6
  exact hret z10_5 (mways_1, mnds_2, mtkp_3) _ _ _ _ dX11_nextRange_13 ⟨(show plnM ms mtkp_3 mnds_2 from by exact q_6), (show isGr (mkT (ms 1) mtkp_3) mnds_2 z10_5 from by exact q_10)⟩ hP hD hS

set_option maxHeartbeats 4000000 in
set_option maxRecDepth 100000 in
theorem c_X11_costOf (l : Launch) (D : va_G) (tA : Nat → ClassId) (a0 a1 a2 a3 a4 a5 a6 a7 a8 a9 a10 : Nat) (sz : Nat) (ms : Int → Int) (mbef : Int → Int) (msav : Int → Int) (misv : Int) (mpast : Int → Int) (mpm : Int) (mthr : Int) (mways : Int → Int) (mnds : Int → Int) (mtkp : Int → Int) (mline : Int → Int) (mlm : Int) (mtxt : Int → Int) (mlen : Int) (mat : Int) (mwr : Int) (merr : Int) (mfail : Int) (mcmd : Int → Int) (mcm : Int) (r : Int) (r_r : -2147483648 ≤ r ∧ r ≤ 2147483647) : zMi l yX11_costOf wsX11_costOf ({ frames := 1, cells := 0, slots := 0, locals := 22 }) D tA [.ref a0, .int (iI r)] (bModel tA a0 a1 a2 a3 a4 a5 a6 a7 a8 a9 a10 ms mbef msav misv mpast mpm mthr mways mnds mtkp mline mlm mtxt mlen mat mwr merr mfail mcmd mcm) sz (fun (z : Int) (u : (Int)) => ((u = 1 ∧ ¬ (0 ≤ r ∧ r ≤ 20)) ∨ (u = 0 ∧ (0 ≤ r ∧ r ≤ 20) ∧ z = 60 * r * r))) (fun (u : (Int)) => bModel tA a0 a1 a2 a3 a4 a5 a6 a7 a8 a9 a10 ms mbef msav misv mpast mpm u mways mnds mtkp mline mlm mtxt mlen mat mwr merr mfail mcmd mcm) 0 0 := by
  refine zMi_of (cc := cX11_costOf) (maxL := 2) (by decide) rfl (fun z u h => rfl) (Nat.le_of_ble_eq_true rfl) ?_
  intro p e s m args below meth c A Q ls hx hb hml hts hown hK hP hD hA hret hl
  obtain ⟨H, hHe⟩ : ∃ H : Heap, H = s.heap := ⟨_, rfl⟩
  have hS : va_S A s.heap H [] := by rw [hHe]; exact va_S.rf
  rw [← hHe] at hP ⊢
  have hl : lv_has ls 2 [(0, .ref a0), (1, .int (iI r))] := hl
  refine lv_aload_n hx hb dX11_costOf_0 rfl (lv_at hl 0 rfl) ?_
  refine lv_iload_n hx hb dX11_costOf_1 rfl (lv_at hl 1 rfl) ?_
  refine zz_iconst hx hb dX11_costOf_2 ?_
  refine zz_bipush hx hb dX11_costOf_3 (by decide) ?_
  refine zz_callSi (As := [.int (iI r), .int (iI 0), .int (iI 20)]) (rest := [.ref a0]) (wf := fun u => bModel tA a0 a1 a2 a3 a4 a5 a6 a7 a8 a9 a10 ms mbef msav misv mpast mpm mthr mways mnds mtkp mline mlm mtxt mlen mat mwr merr mfail mcmd mcm) ⟨hx, hb, hml, hown, hts⟩ (c_X11_in l D tA  H.size r 0 20 (by first | assumption | omega) (by first | assumption | omega) (by first | assumption | omega)) (va_cwS 3 hts gX11_costOf_X11_in rfl rfl rfl (by decide +kernel) ⟨Nat.le_of_ble_eq_true rfl, Nat.le_of_ble_eq_true rfl⟩) hK hP hD hS hA [] [0, 1, 2, 3, 4, 5, 6, 7, 8, 9, 10] [0, 1, 2, 3, 4, 5, 6, 7, 8, 9, 10] rfl rfl (by decide) (by decide) (by decide) (by decide) (fun _ => rfl) rfl rfl hl.1 (Nat.le_of_ble_eq_true rfl) dX11_costOf_5 ⟨Nat.le_of_ble_eq_true rfl, Nat.le_of_ble_eq_true rfl⟩ ?_
  intro z5_1 u H locs p5_2 hP hD hS
  have hP : va_P D vwCl (bModel tA a0 a1 a2 a3 a4 a5 a6 a7 a8 a9 a10 ms mbef msav misv mpast mpm mthr mways mnds mtkp mline mlm mtxt mlen mat mwr merr mfail mcmd mcm) H := hP
  have hD : va_D A (bModel tA a0 a1 a2 a3 a4 a5 a6 a7 a8 a9 a10 ms mbef msav misv mpast mpm mthr mways mnds mtkp mline mlm mtxt mlen mat mwr merr mfail mcmd mcm) := hD
  have q_5 : (z5_1 = 1 ∧ 0 ≤ r ∧ r ≤ 20) ∨ (z5_1 = 0 ∧ ¬ (0 ≤ r ∧ r ≤ 20)) := p5_2
  refine zz_callVi (As := [.int (iI z5_1)]) (rest := []) (wf := fun u => bModel tA a0 a1 a2 a3 a4 a5 a6 a7 a8 a9 a10 ms mbef msav misv mpast mpm (1 - z5_1) mways mnds mtkp mline mlm mtxt mlen mat mwr merr mfail mcmd mcm) ⟨hx, hb, hml, hown, hts⟩ (c_X11_isThere l D tA a0 a1 a2 a3 a4 a5 a6 a7 a8 a9 a10 H.size ms mbef msav misv mpast mpm mthr mways mnds mtkp mline mlm mtxt mlen mat mwr merr mfail mcmd mcm z5_1 (by first | assumption | omega)) (cwV 1 hts gX11_costOf_X11_isThere rfl rfl rfl (by decide +kernel) ⟨Nat.le_of_ble_eq_true rfl, Nat.le_of_ble_eq_true rfl⟩) hK hP hD hS hA [0, 1, 2, 3, 4, 5, 6, 7, 8, 9, 10] [] [0, 1, 2, 3, 4, 5, 6, 7, 8, 9, 10] rfl rfl (by decide) (by decide) (by decide) (by decide) (fun _ => rfl) (ci := 13) (q0 := 0) rfl rfl rfl rfl rfl hl.1 (Nat.le_of_ble_eq_true rfl) dX11_costOf_8 ⟨Nat.le_of_ble_eq_true rfl, Nat.le_of_ble_eq_true rfl⟩ ?_
  intro z8_3 u H locs p8_4 hP hD hS
  have hP : va_P D vwCl (bModel tA a0 a1 a2 a3 a4 a5 a6 a7 a8 a9 a10 ms mbef msav misv mpast mpm (1 - z5_1) mways mnds mtkp mline mlm mtxt mlen mat mwr merr mfail mcmd mcm) H := hP
  have hD : va_D A (bModel tA a0 a1 a2 a3 a4 a5 a6 a7 a8 a9 a10 ms mbef msav misv mpast mpm (1 - z5_1) mways mnds mtkp mline mlm mtxt mlen mat mwr merr mfail mcmd mcm) := hD
  have q_8 : z8_3 = z5_1 := p8_4
  refine zz_if_eq (tgt := 21) hx hb dX11_costOf_11 (by decide) (by omega) (fun c_11 => ?_) (fun c_11 => ?_)
  · refine zz_iconst hx hb dX11_costOf_21 ?_
    exact hret 0 (1 - z5_1) _ _ _ _ dX11_costOf_22 (show ((1 - z5_1) = 1 ∧ ¬ (0 ≤ r ∧ r ≤ 20)) ∨ ((1 - z5_1) = 0 ∧ (0 ≤ r ∧ r ≤ 20) ∧ (0 : Int) = 60 * r * r) from by omega) hP hD hS
  · refine lv_iload_n hx hb dX11_costOf_14 rfl (lv_at hl 1 rfl) ?_
    refine zz_callSi (As := [.int (iI r)]) (rest := []) (wf := fun u => bModel tA a0 a1 a2 a3 a4 a5 a6 a7 a8 a9 a10 ms mbef msav misv mpast mpm (1 - z5_1) mways mnds mtkp mline mlm mtxt mlen mat mwr merr mfail mcmd mcm) ⟨hx, hb, hml, hown, hts⟩ (c_X11_cost l D tA  H.size r (by first | assumption | omega)) (va_cwS 1 hts gX11_costOf_X11_cost rfl rfl rfl (by decide +kernel) ⟨Nat.le_of_ble_eq_true rfl, Nat.le_of_ble_eq_true rfl⟩) hK hP hD hS hA [] [0, 1, 2, 3, 4, 5, 6, 7, 8, 9, 10] [0, 1, 2, 3, 4, 5, 6, 7, 8, 9, 10] rfl rfl (by decide) (by decide) (by decide) (by decide) (fun _ => rfl) rfl rfl hl.1 (Nat.le_of_ble_eq_true rfl) dX11_costOf_15 ⟨Nat.le_of_ble_eq_true rfl, Nat.le_of_ble_eq_true rfl⟩ ?_
    intro z15_5 u H locs p15_6 hP hD hS
    have hP : va_P D vwCl (bModel tA a0 a1 a2 a3 a4 a5 a6 a7 a8 a9 a10 ms mbef msav misv mpast mpm (1 - z5_1) mways mnds mtkp mline mlm mtxt mlen mat mwr merr mfail mcmd mcm) H := hP
    have hD : va_D A (bModel tA a0 a1 a2 a3 a4 a5 a6 a7 a8 a9 a10 ms mbef msav misv mpast mpm (1 - z5_1) mways mnds mtkp mline mlm mtxt mlen mat mwr merr mfail mcmd mcm) := hD
    have q_15 : z15_5 = 60 * r * r := p15_6
    refine lv_goto (tgt := 22) hx hb dX11_costOf_18 (by decide) ?_
    exact hret z15_5 (1 - z5_1) _ _ _ _ dX11_costOf_22 (show ((1 - z5_1) = 1 ∧ ¬ (0 ≤ r ∧ r ≤ 20)) ∨ ((1 - z5_1) = 0 ∧ (0 ≤ r ∧ r ≤ 20) ∧ z15_5 = 60 * r * r) from by omega) hP hD hS

set_option maxHeartbeats 4000000 in
set_option maxRecDepth 100000 in
theorem c_X11_sum (l : Launch) (D : va_G) (tA : Nat → ClassId) (a0 a1 a2 a3 a4 a5 a6 a7 a8 a9 a10 : Nat) (sz : Nat) (ms : Int → Int) (mbef : Int → Int) (msav : Int → Int) (misv : Int) (mpast : Int → Int) (mpm : Int) (mthr : Int) (mways : Int → Int) (mnds : Int → Int) (mtkp : Int → Int) (mline : Int → Int) (mlm : Int) (mtxt : Int → Int) (mlen : Int) (mat : Int) (mwr : Int) (merr : Int) (mfail : Int) (mcmd : Int → Int) (mcm : Int) (w : Int) (r_w : -2147483648 ≤ w ∧ w ≤ 2147483647) (hc : 0 ≤ ms 1 ∧ ms 1 ≤ 6) (hw : 0 ≤ w ∧ w ≤ 4) : zMi l yX11_sum wsX11_sum ({ frames := 1, cells := 0, slots := 0, locals := 22 }) D tA [.ref a0, .int (iI w)] (bModel tA a0 a1 a2 a3 a4 a5 a6 a7 a8 a9 a10 ms mbef msav misv mpast mpm mthr mways mnds mtkp mline mlm mtxt mlen mat mwr merr mfail mcmd mcm) sz (fun (z : Int) (u : Unit) => (z = sm (fun j => suM ms j w) (ms 1).toNat)) (fun (u : Unit) => bModel tA a0 a1 a2 a3 a4 a5 a6 a7 a8 a9 a10 ms mbef msav misv mpast mpm mthr mways mnds mtkp mline mlm mtxt mlen mat mwr merr mfail mcmd mcm) 0 0 := by
  refine zMi_of (cc := cX11_sum) (maxL := 4) (by decide) rfl (fun z u h => rfl) (Nat.le_of_ble_eq_true rfl) ?_
  intro p e s m args below meth c A Q ls hx hb hml hts hown hK hP hD hA hret hl
  obtain ⟨H, hHe⟩ : ∃ H : Heap, H = s.heap := ⟨_, rfl⟩
  have hS : va_S A s.heap H [] := by rw [hHe]; exact va_S.rf
  rw [← hHe] at hP ⊢
  have hl : lv_has ls 4 [(0, .ref a0), (1, .int (iI w))] := hl
  have iX11 : ∀ v ∈ wsX110, v ∈ wsX11_sum := by decide +kernel
  have f_9 := hts (.fieldLink RX11 9 "HarborLightsModel" "s" "[I") (by decide +kernel)
  refine zz_iconst hx hb dX11_sum_0 ?_
  refine lv_istore_n (lv' := [(2, .int (iI 0)), (0, .ref a0), (1, .int (iI w))]) hx hb dX11_sum_1 rfl hl (by decide) rfl (fun ls hl => ?_)
  refine zz_iconst hx hb dX11_sum_2 ?_
  refine lv_istore_n (lv' := [(3, .int (iI 0)), (2, .int (iI 0)), (0, .ref a0), (1, .int (iI w))]) hx hb dX11_sum_3 rfl hl (by decide) rfl (fun ls hl => ?_)
  have L4 : ∀ (n : Nat) (k : Int) (tot : Int) (H : Heap) (locs : List Loc) (ls : Array Slot), (0 ≤ k ∧ k ≤ ms 1) → (tot = sm (fun j => suM ms j w) k.toNat) → (ms 1 - k).toNat < n → va_P D vwCl (bModel tA a0 a1 a2 a3 a4 a5 a6 a7 a8 a9 a10 ms mbef msav misv mpast mpm mthr mways mnds mtkp mline mlm mtxt mlen mat mwr merr mfail mcmd mcm) H → va_D A (bModel tA a0 a1 a2 a3 a4 a5 a6 a7 a8 a9 a10 ms mbef msav misv mpast mpm mthr mways mnds mtkp mline mlm mtxt mlen mat mwr merr mfail mcmd mcm) → va_S A s.heap H locs → lv_has ls 4 [(3, .int (iI k)), (2, .int (iI tot)), (0, .ref a0), (1, .int (iI w))] → W p l e (headSpec wsX11_sum ({ frames := 1, cells := 0, slots := 0, locals := 22 })).room s m args below meth c H locs 0 0 Q (F0 m 4 ls []) := by
    intro n
    induction n with
    | zero => intro k tot H locs ls i0 i1 hmz; exact absurd hmz (Nat.not_lt_zero _)
    | succ n ih4 =>
      intro k tot H locs ls i0 i1 hmz hP hD hS hl
      refine lv_iload_n hx hb dX11_sum_4 rfl (lv_at hl 0 rfl) ?_
      refine lv_aload_n hx hb dX11_sum_5 rfl (lv_at hl 2 rfl) ?_
      refine va_get (D := D) (ci := 13) (v := .ref a1) (C := RX11) (T := TX11) (N := 20) hx hb hts iX11 hown hK hP 0 rfl rfl 0 (by decide) f_9 (fun _ h9 => h9) rfl dX11_sum_6 ?_
      refine zz_iconst hx hb dX11_sum_9 ?_
      refine zz_iald hx hb hK hP 1 rfl (by decide) (by omega) dX11_sum_10 ?_
      refine zz_icmp_ge (tgt := 29) hx hb dX11_sum_11 (by decide) (by omega) (by omega) (fun c_11 => ?_) (fun c_11 => ?_)
      · refine lv_iload_n hx hb dX11_sum_29 rfl (lv_at hl 1 rfl) ?_
        exact hret tot () _ _ _ _ dX11_sum_30 (show tot = sm (fun j => suM ms j w) (ms 1).toNat from by rw [i1, show k = ms 1 by omega]) hP hD hS
      · refine lv_iload_n hx hb dX11_sum_14 rfl (lv_at hl 1 rfl) ?_
        refine lv_aload_n hx hb dX11_sum_15 rfl (lv_at hl 2 rfl) ?_
        refine lv_iload_n hx hb dX11_sum_16 rfl (lv_at hl 0 rfl) ?_
        refine lv_iload_n hx hb dX11_sum_17 rfl (lv_at hl 3 rfl) ?_
        refine zz_callVi (As := [.int (iI k), .int (iI w)]) (rest := [.int (iI tot)]) (wf := fun u => bModel tA a0 a1 a2 a3 a4 a5 a6 a7 a8 a9 a10 ms mbef msav misv mpast mpm mthr mways mnds mtkp mline mlm mtxt mlen mat mwr merr mfail mcmd mcm) ⟨hx, hb, hml, hown, hts⟩ (c_X11_of l D tA a0 a1 a2 a3 a4 a5 a6 a7 a8 a9 a10 H.size ms mbef msav misv mpast mpm mthr mways mnds mtkp mline mlm mtxt mlen mat mwr merr mfail mcmd mcm k w (by first | assumption | omega) (by first | assumption | omega) (by first | assumption | omega) (by first | assumption | omega)) (cwV 2 hts gX11_sum_X11_of rfl rfl rfl (by decide +kernel) ⟨Nat.le_of_ble_eq_true rfl, Nat.le_of_ble_eq_true rfl⟩) hK hP hD hS hA [0, 1, 2, 3, 4, 5, 6, 7, 8, 9, 10] [] [0, 1, 2, 3, 4, 5, 6, 7, 8, 9, 10] rfl rfl (by decide) (by decide) (by decide) (by decide) (fun _ => rfl) (ci := 13) (q0 := 0) rfl rfl rfl rfl rfl hl.1 (Nat.le_of_ble_eq_true rfl) dX11_sum_18 ⟨Nat.le_of_ble_eq_true rfl, Nat.le_of_ble_eq_true rfl⟩ ?_
        intro z18_1 u H locs p18_2 hP hD hS
        have hP : va_P D vwCl (bModel tA a0 a1 a2 a3 a4 a5 a6 a7 a8 a9 a10 ms mbef msav misv mpast mpm mthr mways mnds mtkp mline mlm mtxt mlen mat mwr merr mfail mcmd mcm) H := hP
        have hD : va_D A (bModel tA a0 a1 a2 a3 a4 a5 a6 a7 a8 a9 a10 ms mbef msav misv mpast mpm mthr mways mnds mtkp mline mlm mtxt mlen mat mwr merr mfail mcmd mcm) := hD
        have q_18 : z18_1 = suM ms k w := p18_2
        refine zz_iadd hx hb dX11_sum_21 ?_
        refine lv_istore_n (lv' := [(2, .int (iI (tot + z18_1))), (3, .int (iI k)), (0, .ref a0), (1, .int (iI w))]) hx hb dX11_sum_22 rfl hl (by decide) rfl (fun ls hl => ?_)
        refine zz_iinc (lv' := [(3, .int (iI (k + 1))), (2, .int (iI (tot + z18_1))), (0, .ref a0), (1, .int (iI w))]) hx hb dX11_sum_23 hl (k := 1) rfl (by decide) rfl (fun ls hl => ?_)
        refine lv_goto (tgt := 4) hx hb dX11_sum_26 (by decide) ?_
        exact ih4 (k + 1) (tot + z18_1) _ _ _ (by omega) (by rw [i1, q_18]; exact sm_next (f := fun j => suM ms j w) (by omega)) (by omega) hP hD hS (lv_sub hl [0, 1, 2, 3] rfl)
  exact L4 _ 0 0 _ _ _ (by omega) (by rfl) (Nat.lt_succ_self _) hP hD hS (lv_sub hl [0, 1, 2, 3] rfl)

set_option maxHeartbeats 4000000 in
set_option maxRecDepth 100000 in
theorem c_X11_undo (l : Launch) (D : va_G) (tA : Nat → ClassId) (a0 a1 a2 a3 a4 a5 a6 a7 a8 a9 a10 : Nat) (sz : Nat) (ms : Int → Int) (mbef : Int → Int) (msav : Int → Int) (misv : Int) (mpast : Int → Int) (mpm : Int) (mthr : Int) (mways : Int → Int) (mnds : Int → Int) (mtkp : Int → Int) (mline : Int → Int) (mlm : Int) (mtxt : Int → Int) (mlen : Int) (mat : Int) (mwr : Int) (merr : Int) (mfail : Int) (mcmd : Int → Int) (mcm : Int) (hpm : 0 ≤ mpm ∧ mpm ≤ 8) : zMi l yX11_undo wsX11_undo ({ frames := 1, cells := 0, slots := 0, locals := 40 }) D tA [.ref a0] (bModel tA a0 a1 a2 a3 a4 a5 a6 a7 a8 a9 a10 ms mbef msav misv mpast mpm mthr mways mnds mtkp mline mlm mtxt mlen mat mwr merr mfail mcmd mcm) sz (fun (z : Int) (u : Unit) => (mpm = 0 ∨ (0 < mpm ∧ z = mpm - 1))) (fun (u : Unit) => bModel tA a0 a1 a2 a3 a4 a5 a6 a7 a8 a9 a10 (undM mpm mpast ms) mbef msav misv mpast (if mpm = 0 then mpm else mpm - 1) (if mpm = 0 then 1 else 0) mways mnds mtkp mline mlm mtxt mlen mat mwr merr mfail mcmd mcm) 0 0 := by
  refine zMi_of (cc := cX11_undo) (maxL := 1) (by decide) rfl (fun z u h => rfl) (Nat.le_of_ble_eq_true rfl) ?_
  intro p e s m args below meth c A Q ls hx hb hml hts hown hK hP hD hA hret hl
  obtain ⟨H, hHe⟩ : ∃ H : Heap, H = s.heap := ⟨_, rfl⟩
  have hS : va_S A s.heap H [] := by rw [hHe]; exact va_S.rf
  rw [← hHe] at hP ⊢
  have hl : lv_has ls 1 [(0, .ref a0)] := hl
  have iX11 : ∀ v ∈ wsX110, v ∈ wsX11_undo := by decide +kernel
  have f_9 := hts (.fieldLink RX11 9 "HarborLightsModel" "s" "[I") (by decide +kernel)
  have f_19 := hts (.fieldLink RX11 19 "HarborLightsModel" "past" "[I") (by decide +kernel)
  have f_49 := hts (.fieldLink RX11 49 "HarborLightsModel" "thrown" "I") (by decide +kernel)
  have f_58 := hts (.fieldLink RX11 58 "HarborLightsModel" "pastMany" "I") (by decide +kernel)
  have l_52 := hts (.methodLink RX11 52 arraycopyName) (by decide +kernel)
  have ln_52 := hts (.native arraycopyName) (by decide +kernel)
  have ls_52 := hts (.static arraycopyName) (by decide +kernel)
  have li_52 := hts (.initialized "java/lang/System") (by decide +kernel)
  refine lv_aload_n hx hb dX11_undo_0 rfl (lv_at hl 0 rfl) ?_
  refine lv_aload_n hx hb dX11_undo_1 rfl (lv_at hl 0 rfl) ?_
  refine va_get (D := D) (ci := 13) (v := .int (iI mpm)) (C := RX11) (T := TX11) (N := 20) hx hb hts iX11 hown hK hP 0 rfl rfl 5 (by decide) f_58 (fun _ h9 => h9) rfl dX11_undo_2 ?_
  refine zz_if_ne (tgt := 12) hx hb dX11_undo_5 (by decide) (by omega) (fun c_5 => ?_) (fun c_5 => ?_)
  · refine zz_iconst hx hb dX11_undo_12 ?_
    refine va_put (D := D) (ci := 13) (v := .int (iI 0)) (ty := .int) (C := RX11) (T := TX11) (N := 20) hx hb hts iX11 tyX11 tyX11_ok nmX11 hown hK hP hD hS 0 rfl rfl 6 (by decide) f_49 (fun _ h9 => h9) rfl (by decide +kernel) rfl rfl (Nat.le_of_ble_eq_true rfl) dX11_undo_13 (fun H locs hP hD hS => ?_)
    have hP : va_P D vwCl (bModel tA a0 a1 a2 a3 a4 a5 a6 a7 a8 a9 a10 ms mbef msav misv mpast mpm 0 mways mnds mtkp mline mlm mtxt mlen mat mwr merr mfail mcmd mcm) H := hP
    have hD : va_D A (bModel tA a0 a1 a2 a3 a4 a5 a6 a7 a8 a9 a10 ms mbef msav misv mpast mpm 0 mways mnds mtkp mline mlm mtxt mlen mat mwr merr mfail mcmd mcm) := hD
    refine lv_aload_n hx hb dX11_undo_16 rfl (lv_at hl 0 rfl) ?_
    refine va_get (D := D) (ci := 13) (v := .int (iI 0)) (C := RX11) (T := TX11) (N := 20) hx hb hts iX11 hown hK hP 0 rfl rfl 6 (by decide) f_49 (fun _ h9 => h9) rfl dX11_undo_17 ?_
    refine zz_if_le (tgt := 25) hx hb dX11_undo_20 (by decide) (by decide) (fun c_20 => ?_) (fun c_20 => ?_)
    · refine lv_aload_n hx hb dX11_undo_25 rfl (lv_at hl 0 rfl) ?_
      refine lv_dup hx hb dX11_undo_26 rfl ?_
      refine va_get (D := D) (ci := 13) (v := .int (iI mpm)) (C := RX11) (T := TX11) (N := 20) hx hb hts iX11 hown hK hP 0 rfl rfl 5 (by decide) f_58 (fun _ h9 => h9) rfl dX11_undo_27 ?_
      refine zz_iconst hx hb dX11_undo_30 ?_
      refine zz_isub hx hb dX11_undo_31 ?_
      refine va_put (D := D) (ci := 13) (v := .int (iI (mpm - 1))) (ty := .int) (C := RX11) (T := TX11) (N := 20) hx hb hts iX11 tyX11 tyX11_ok nmX11 hown hK hP hD hS 0 rfl rfl 5 (by decide) f_58 (fun _ h9 => h9) rfl (by decide +kernel) rfl rfl (Nat.le_of_ble_eq_true rfl) dX11_undo_32 (fun H locs hP hD hS => ?_)
      have hP : va_P D vwCl (bModel tA a0 a1 a2 a3 a4 a5 a6 a7 a8 a9 a10 ms mbef msav misv mpast (mpm - 1) 0 mways mnds mtkp mline mlm mtxt mlen mat mwr merr mfail mcmd mcm) H := hP
      have hD : va_D A (bModel tA a0 a1 a2 a3 a4 a5 a6 a7 a8 a9 a10 ms mbef msav misv mpast (mpm - 1) 0 mways mnds mtkp mline mlm mtxt mlen mat mwr merr mfail mcmd mcm) := hD
      refine lv_aload_n hx hb dX11_undo_35 rfl (lv_at hl 0 rfl) ?_
      refine va_get (D := D) (ci := 13) (v := .ref a4) (C := RX11) (T := TX11) (N := 20) hx hb hts iX11 hown hK hP 0 rfl rfl 4 (by decide) f_19 (fun _ h9 => h9) rfl dX11_undo_36 ?_
      refine zz_sipush hx hb dX11_undo_39 (by decide) ?_
      refine lv_aload_n hx hb dX11_undo_42 rfl (lv_at hl 0 rfl) ?_
      refine va_get (D := D) (ci := 13) (v := .int (iI (mpm - 1))) (C := RX11) (T := TX11) (N := 20) hx hb hts iX11 hown hK hP 0 rfl rfl 5 (by decide) f_58 (fun _ h9 => h9) rfl dX11_undo_43 ?_
      refine zz_imul hx hb dX11_undo_46 ?_
      refine lv_aload_n hx hb dX11_undo_47 rfl (lv_at hl 0 rfl) ?_
      refine va_get (D := D) (ci := 13) (v := .ref a1) (C := RX11) (T := TX11) (N := 20) hx hb hts iX11 hown hK hP 0 rfl rfl 0 (by decide) f_9 (fun _ h9 => h9) rfl dX11_undo_48 ?_
      refine zz_iconst hx hb dX11_undo_51 ?_
      refine zz_sipush hx hb dX11_undo_52 (by decide) ?_
      refine zz_copyi hx hb (by rw [hml]; exact hl.1.symm) hown l_52 ln_52 ls_52 li_52 (Nat.le_of_ble_eq_true rfl) (Nat.le_of_ble_eq_true rfl) hK hP hD hS 4 1 rfl rfl (by decide) (by decide) (by omega) dX11_undo_55 (fun H locs hP hD hS => ?_)
      have hP : va_P D vwCl (bModel tA a0 a1 a2 a3 a4 a5 a6 a7 a8 a9 a10 (zCpy mpast ms (337 * (mpm - 1)) 0 337) mbef msav misv mpast (mpm - 1) 0 mways mnds mtkp mline mlm mtxt mlen mat mwr merr mfail mcmd mcm) H := hP
      have hD : va_D A (bModel tA a0 a1 a2 a3 a4 a5 a6 a7 a8 a9 a10 (zCpy mpast ms (337 * (mpm - 1)) 0 337) mbef msav misv mpast (mpm - 1) 0 mways mnds mtkp mline mlm mtxt mlen mat mwr merr mfail mcmd mcm) := hD
      refine lv_aload_n hx hb dX11_undo_58 rfl (lv_at hl 0 rfl) ?_
      refine va_get (D := D) (ci := 13) (v := .int (iI (mpm - 1))) (C := RX11) (T := TX11) (N := 20) hx hb hts iX11 hown hK hP 0 rfl rfl 5 (by decide) f_58 (fun _ h9 => h9) rfl dX11_undo_59 ?_
      have e_ms : ((zCpy mpast ms (337 * (mpm - 1)) 0 337) : Int → Int) = (undM mpm mpast ms) := by unfold undM; first | rw [if_pos (by omega)] | rw [if_neg (by omega)]
      rw [e_ms] at hP hD
      have e_mpm : ((mpm - 1) : Int) = (if mpm = 0 then mpm else mpm - 1) := by first | rw [if_pos (by omega)] | rw [if_neg (by omega)]
      rw [e_mpm] at hP hD
      have e_mthr : (0 : Int) = (if mpm = 0 then 1 else 0) := by first | rw [if_pos (by omega)] | rw [if_neg (by omega)]
      have hP : va_P D vwCl (bModel tA a0 a1 a2 a3 a4 a5 a6 a7 a8 a9 a10 (undM mpm mpast ms) mbef msav misv mpast (if mpm = 0 then mpm else mpm - 1) (if mpm = 0 then 1 else 0) mways mnds mtkp mline mlm mtxt mlen mat mwr merr mfail mcmd mcm) H := by rw [← e_mthr]; exact hP
      have hD : va_D A (bModel tA a0 a1 a2 a3 a4 a5 a6 a7 a8 a9 a10 (undM mpm mpast ms) mbef msav misv mpast (if mpm = 0 then mpm else mpm - 1) (if mpm = 0 then 1 else 0) mways mnds mtkp mline mlm mtxt mlen mat mwr merr mfail mcmd mcm) := by rw [← e_mthr]; exact hD
      exact hret (mpm - 1) () _ _ _ _ dX11_undo_62 (show mpm = 0 ∨ (0 < mpm ∧ (mpm - 1) = mpm - 1) from by omega) hP hD hS
    · exact absurd c_20 (by decide)
  · refine zz_iconst hx hb dX11_undo_8 ?_
    refine lv_goto (tgt := 13) hx hb dX11_undo_9 (by decide) ?_
    refine va_put (D := D) (ci := 13) (v := .int (iI 1)) (ty := .int) (C := RX11) (T := TX11) (N := 20) hx hb hts iX11 tyX11 tyX11_ok nmX11 hown hK hP hD hS 0 rfl rfl 6 (by decide) f_49 (fun _ h9 => h9) rfl (by decide +kernel) rfl rfl (Nat.le_of_ble_eq_true rfl) dX11_undo_13 (fun H locs hP hD hS => ?_)
    have hP : va_P D vwCl (bModel tA a0 a1 a2 a3 a4 a5 a6 a7 a8 a9 a10 ms mbef msav misv mpast mpm 1 mways mnds mtkp mline mlm mtxt mlen mat mwr merr mfail mcmd mcm) H := hP
    have hD : va_D A (bModel tA a0 a1 a2 a3 a4 a5 a6 a7 a8 a9 a10 ms mbef msav misv mpast mpm 1 mways mnds mtkp mline mlm mtxt mlen mat mwr merr mfail mcmd mcm) := hD
    refine lv_aload_n hx hb dX11_undo_16 rfl (lv_at hl 0 rfl) ?_
    refine va_get (D := D) (ci := 13) (v := .int (iI 1)) (C := RX11) (T := TX11) (N := 20) hx hb hts iX11 hown hK hP 0 rfl rfl 6 (by decide) f_49 (fun _ h9 => h9) rfl dX11_undo_17 ?_
    refine zz_if_le (tgt := 25) hx hb dX11_undo_20 (by decide) (by decide) (fun c_20 => ?_) (fun c_20 => ?_)
    · exact absurd c_20 (by decide)
    · refine zz_iconst hx hb dX11_undo_23 ?_
      have e_ms : (ms : Int → Int) = (undM mpm mpast ms) := by unfold undM; first | rw [if_pos (by omega)] | rw [if_neg (by omega)]
      have hP : va_P D vwCl (bModel tA a0 a1 a2 a3 a4 a5 a6 a7 a8 a9 a10 (undM mpm mpast ms) mbef msav misv mpast mpm 1 mways mnds mtkp mline mlm mtxt mlen mat mwr merr mfail mcmd mcm) H := by rw [← e_ms]; exact hP
      have hD : va_D A (bModel tA a0 a1 a2 a3 a4 a5 a6 a7 a8 a9 a10 (undM mpm mpast ms) mbef msav misv mpast mpm 1 mways mnds mtkp mline mlm mtxt mlen mat mwr merr mfail mcmd mcm) := by rw [← e_ms]; exact hD
      have e_mpm : (mpm : Int) = (if mpm = 0 then mpm else mpm - 1) := by first | rw [if_pos (by omega)] | rw [if_neg (by omega)]
      have hP : va_P D vwCl (bModel tA a0 a1 a2 a3 a4 a5 a6 a7 a8 a9 a10 (undM mpm mpast ms) mbef msav misv mpast (if mpm = 0 then mpm else mpm - 1) 1 mways mnds mtkp mline mlm mtxt mlen mat mwr merr mfail mcmd mcm) H := by rw [← e_mpm]; exact hP
      have hD : va_D A (bModel tA a0 a1 a2 a3 a4 a5 a6 a7 a8 a9 a10 (undM mpm mpast ms) mbef msav misv mpast (if mpm = 0 then mpm else mpm - 1) 1 mways mnds mtkp mline mlm mtxt mlen mat mwr merr mfail mcmd mcm) := by rw [← e_mpm]; exact hD
      have e_mthr : (1 : Int) = (if mpm = 0 then 1 else 0) := by first | rw [if_pos (by omega)] | rw [if_neg (by omega)]
      have hP : va_P D vwCl (bModel tA a0 a1 a2 a3 a4 a5 a6 a7 a8 a9 a10 (undM mpm mpast ms) mbef msav misv mpast (if mpm = 0 then mpm else mpm - 1) (if mpm = 0 then 1 else 0) mways mnds mtkp mline mlm mtxt mlen mat mwr merr mfail mcmd mcm) H := by rw [← e_mthr]; exact hP
      have hD : va_D A (bModel tA a0 a1 a2 a3 a4 a5 a6 a7 a8 a9 a10 (undM mpm mpast ms) mbef msav misv mpast (if mpm = 0 then mpm else mpm - 1) (if mpm = 0 then 1 else 0) mways mnds mtkp mline mlm mtxt mlen mat mwr merr mfail mcmd mcm) := by rw [← e_mthr]; exact hD
      exact hret 0 () _ _ _ _ dX11_undo_24 (show mpm = 0 ∨ (0 < mpm ∧ (0 : Int) = mpm - 1) from by omega) hP hD hS

set_option maxHeartbeats 4000000 in
set_option maxRecDepth 100000 in
theorem c_X11_save (l : Launch) (D : va_G) (tA : Nat → ClassId) (a0 a1 a2 a3 a4 a5 a6 a7 a8 a9 a10 : Nat) (sz : Nat) (ms : Int → Int) (mbef : Int → Int) (msav : Int → Int) (misv : Int) (mpast : Int → Int) (mpm : Int) (mthr : Int) (mways : Int → Int) (mnds : Int → Int) (mtkp : Int → Int) (mline : Int → Int) (mlm : Int) (mtxt : Int → Int) (mlen : Int) (mat : Int) (mwr : Int) (merr : Int) (mfail : Int) (mcmd : Int → Int) (mcm : Int) : zMi l yX11_save wsX11_save ({ frames := 1, cells := 0, slots := 0, locals := 40 }) D tA [.ref a0] (bModel tA a0 a1 a2 a3 a4 a5 a6 a7 a8 a9 a10 ms mbef msav misv mpast mpm mthr mways mnds mtkp mline mlm mtxt mlen mat mwr merr mfail mcmd mcm) sz (fun (z : Int) (u : Unit) => (z = ms 1)) (fun (u : Unit) => bModel tA a0 a1 a2 a3 a4 a5 a6 a7 a8 a9 a10 ms mbef ms 1 mpast mpm 0 mways mnds mtkp mline mlm mtxt mlen mat mwr merr mfail mcmd mcm) 0 0 := by
  refine zMi_of (cc := cX11_save) (maxL := 1) (by decide) rfl (fun z u h => rfl) (Nat.le_of_ble_eq_true rfl) ?_
  intro p e s m args below meth c A Q ls hx hb hml hts hown hK hP hD hA hret hl
  obtain ⟨H, hHe⟩ : ∃ H : Heap, H = s.heap := ⟨_, rfl⟩
  have hS : va_S A s.heap H [] := by rw [hHe]; exact va_S.rf
  rw [← hHe] at hP ⊢
  have hl : lv_has ls 1 [(0, .ref a0)] := hl
  have iX11 : ∀ v ∈ wsX110, v ∈ wsX11_save := by decide +kernel
  have f_9 := hts (.fieldLink RX11 9 "HarborLightsModel" "s" "[I") (by decide +kernel)
  have f_16 := hts (.fieldLink RX11 16 "HarborLightsModel" "saved" "[I") (by decide +kernel)
  have f_49 := hts (.fieldLink RX11 49 "HarborLightsModel" "thrown" "I") (by decide +kernel)
  have f_279 := hts (.fieldLink RX11 279 "HarborLightsModel" "isSaved" "Z") (by decide +kernel)
  have l_52 := hts (.methodLink RX11 52 arraycopyName) (by decide +kernel)
  have ln_52 := hts (.native arraycopyName) (by decide +kernel)
  have ls_52 := hts (.static arraycopyName) (by decide +kernel)
  have li_52 := hts (.initialized "java/lang/System") (by decide +kernel)
  refine lv_aload_n hx hb dX11_save_0 rfl (lv_at hl 0 rfl) ?_
  refine zz_iconst hx hb dX11_save_1 ?_
  refine va_put (D := D) (ci := 13) (v := .int (iI 0)) (ty := .int) (C := RX11) (T := TX11) (N := 20) hx hb hts iX11 tyX11 tyX11_ok nmX11 hown hK hP hD hS 0 rfl rfl 6 (by decide) f_49 (fun _ h9 => h9) rfl (by decide +kernel) rfl rfl (Nat.le_of_ble_eq_true rfl) dX11_save_2 (fun H locs hP hD hS => ?_)
  have hP : va_P D vwCl (bModel tA a0 a1 a2 a3 a4 a5 a6 a7 a8 a9 a10 ms mbef msav misv mpast mpm 0 mways mnds mtkp mline mlm mtxt mlen mat mwr merr mfail mcmd mcm) H := hP
  have hD : va_D A (bModel tA a0 a1 a2 a3 a4 a5 a6 a7 a8 a9 a10 ms mbef msav misv mpast mpm 0 mways mnds mtkp mline mlm mtxt mlen mat mwr merr mfail mcmd mcm) := hD
  refine lv_aload_n hx hb dX11_save_5 rfl (lv_at hl 0 rfl) ?_
  refine va_get (D := D) (ci := 13) (v := .ref a1) (C := RX11) (T := TX11) (N := 20) hx hb hts iX11 hown hK hP 0 rfl rfl 0 (by decide) f_9 (fun _ h9 => h9) rfl dX11_save_6 ?_
  refine zz_iconst hx hb dX11_save_9 ?_
  refine lv_aload_n hx hb dX11_save_10 rfl (lv_at hl 0 rfl) ?_
  refine va_get (D := D) (ci := 13) (v := .ref a3) (C := RX11) (T := TX11) (N := 20) hx hb hts iX11 hown hK hP 0 rfl rfl 2 (by decide) f_16 (fun _ h9 => h9) rfl dX11_save_11 ?_
  refine zz_iconst hx hb dX11_save_14 ?_
  refine zz_sipush hx hb dX11_save_15 (by decide) ?_
  refine zz_copyAll hx hb (by rw [hml]; exact hl.1.symm) hown l_52 ln_52 ls_52 li_52 (Nat.le_of_ble_eq_true rfl) (Nat.le_of_ble_eq_true rfl) hK hP hD hS 1 3 rfl rfl (by decide) rfl dX11_save_18 (fun H locs hP hD hS => ?_)
  have hP : va_P D vwCl (bModel tA a0 a1 a2 a3 a4 a5 a6 a7 a8 a9 a10 ms mbef ms misv mpast mpm 0 mways mnds mtkp mline mlm mtxt mlen mat mwr merr mfail mcmd mcm) H := hP
  have hD : va_D A (bModel tA a0 a1 a2 a3 a4 a5 a6 a7 a8 a9 a10 ms mbef ms misv mpast mpm 0 mways mnds mtkp mline mlm mtxt mlen mat mwr merr mfail mcmd mcm) := hD
  refine lv_aload_n hx hb dX11_save_21 rfl (lv_at hl 0 rfl) ?_
  refine zz_iconst hx hb dX11_save_22 ?_
  refine va_put (D := D) (ci := 13) (v := .int (iI 1)) (ty := .boolean) (C := RX11) (T := TX11) (N := 20) hx hb hts iX11 tyX11 tyX11_ok nmX11 hown hK hP hD hS 0 rfl rfl 3 (by decide) f_279 (fun _ h9 => h9) rfl (by decide +kernel) (zbool _ (by omega)) (zfitZ _ (by omega)) (Nat.le_of_ble_eq_true rfl) dX11_save_23 (fun H locs hP hD hS => ?_)
  have hP : va_P D vwCl (bModel tA a0 a1 a2 a3 a4 a5 a6 a7 a8 a9 a10 ms mbef ms 1 mpast mpm 0 mways mnds mtkp mline mlm mtxt mlen mat mwr merr mfail mcmd mcm) H := hP
  have hD : va_D A (bModel tA a0 a1 a2 a3 a4 a5 a6 a7 a8 a9 a10 ms mbef ms 1 mpast mpm 0 mways mnds mtkp mline mlm mtxt mlen mat mwr merr mfail mcmd mcm) := hD
  refine lv_aload_n hx hb dX11_save_26 rfl (lv_at hl 0 rfl) ?_
  refine va_get (D := D) (ci := 13) (v := .ref a1) (C := RX11) (T := TX11) (N := 20) hx hb hts iX11 hown hK hP 0 rfl rfl 0 (by decide) f_9 (fun _ h9 => h9) rfl dX11_save_27 ?_
  refine zz_iconst hx hb dX11_save_30 ?_
  refine zz_iald hx hb hK hP 1 rfl (by decide) (by omega) dX11_save_31 ?_
  exact hret (ms 1) () _ _ _ _ dX11_save_32 (show (ms 1) = ms 1 from by rfl) hP hD hS

set_option maxHeartbeats 4000000 in
set_option maxRecDepth 100000 in
theorem c_X11_restore (l : Launch) (D : va_G) (tA : Nat → ClassId) (a0 a1 a2 a3 a4 a5 a6 a7 a8 a9 a10 : Nat) (sz : Nat) (ms : Int → Int) (mbef : Int → Int) (msav : Int → Int) (misv : Int) (mpast : Int → Int) (mpm : Int) (mthr : Int) (mways : Int → Int) (mnds : Int → Int) (mtkp : Int → Int) (mline : Int → Int) (mlm : Int) (mtxt : Int → Int) (mlen : Int) (mat : Int) (mwr : Int) (merr : Int) (mfail : Int) (mcmd : Int → Int) (mcm : Int) (hiv : misv = 0 ∨ misv = 1) : zMi l yX11_restore wsX11_restore ({ frames := 1, cells := 0, slots := 0, locals := 40 }) D tA [.ref a0] (bModel tA a0 a1 a2 a3 a4 a5 a6 a7 a8 a9 a10 ms mbef msav misv mpast mpm mthr mways mnds mtkp mline mlm mtxt mlen mat mwr merr mfail mcmd mcm) sz (fun (z : Int) (u : Unit) => (misv = 0 ∨ (misv = 1 ∧ z = msav 1))) (fun (u : Unit) => bModel tA a0 a1 a2 a3 a4 a5 a6 a7 a8 a9 a10 (if misv = 0 then ms else msav) mbef msav misv mpast (if misv = 0 then mpm else 0) (if misv = 0 then 1 else 0) mways mnds mtkp mline mlm mtxt mlen mat mwr merr mfail mcmd mcm) 0 0 := by
  refine zMi_of (cc := cX11_restore) (maxL := 1) (by decide) rfl (fun z u h => rfl) (Nat.le_of_ble_eq_true rfl) ?_
  intro p e s m args below meth c A Q ls hx hb hml hts hown hK hP hD hA hret hl
  obtain ⟨H, hHe⟩ : ∃ H : Heap, H = s.heap := ⟨_, rfl⟩
  have hS : va_S A s.heap H [] := by rw [hHe]; exact va_S.rf
  rw [← hHe] at hP ⊢
  have hl : lv_has ls 1 [(0, .ref a0)] := hl
  have iX11 : ∀ v ∈ wsX110, v ∈ wsX11_restore := by decide +kernel
  have f_9 := hts (.fieldLink RX11 9 "HarborLightsModel" "s" "[I") (by decide +kernel)
  have f_16 := hts (.fieldLink RX11 16 "HarborLightsModel" "saved" "[I") (by decide +kernel)
  have f_49 := hts (.fieldLink RX11 49 "HarborLightsModel" "thrown" "I") (by decide +kernel)
  have f_58 := hts (.fieldLink RX11 58 "HarborLightsModel" "pastMany" "I") (by decide +kernel)
  have f_279 := hts (.fieldLink RX11 279 "HarborLightsModel" "isSaved" "Z") (by decide +kernel)
  have l_52 := hts (.methodLink RX11 52 arraycopyName) (by decide +kernel)
  have ln_52 := hts (.native arraycopyName) (by decide +kernel)
  have ls_52 := hts (.static arraycopyName) (by decide +kernel)
  have li_52 := hts (.initialized "java/lang/System") (by decide +kernel)
  refine lv_aload_n hx hb dX11_restore_0 rfl (lv_at hl 0 rfl) ?_
  refine lv_aload_n hx hb dX11_restore_1 rfl (lv_at hl 0 rfl) ?_
  refine va_get (D := D) (ci := 13) (v := .int (iI misv)) (C := RX11) (T := TX11) (N := 20) hx hb hts iX11 hown hK hP 0 rfl rfl 3 (by decide) f_279 (fun _ h9 => h9) rfl dX11_restore_2 ?_
  refine zz_if_eq (tgt := 12) hx hb dX11_restore_5 (by decide) (by omega) (fun c_5 => ?_) (fun c_5 => ?_)
  · refine zz_iconst hx hb dX11_restore_12 ?_
    refine va_put (D := D) (ci := 13) (v := .int (iI 1)) (ty := .int) (C := RX11) (T := TX11) (N := 20) hx hb hts iX11 tyX11 tyX11_ok nmX11 hown hK hP hD hS 0 rfl rfl 6 (by decide) f_49 (fun _ h9 => h9) rfl (by decide +kernel) rfl rfl (Nat.le_of_ble_eq_true rfl) dX11_restore_13 (fun H locs hP hD hS => ?_)
    have hP : va_P D vwCl (bModel tA a0 a1 a2 a3 a4 a5 a6 a7 a8 a9 a10 ms mbef msav misv mpast mpm 1 mways mnds mtkp mline mlm mtxt mlen mat mwr merr mfail mcmd mcm) H := hP
    have hD : va_D A (bModel tA a0 a1 a2 a3 a4 a5 a6 a7 a8 a9 a10 ms mbef msav misv mpast mpm 1 mways mnds mtkp mline mlm mtxt mlen mat mwr merr mfail mcmd mcm) := hD
    refine lv_aload_n hx hb dX11_restore_16 rfl (lv_at hl 0 rfl) ?_
    refine va_get (D := D) (ci := 13) (v := .int (iI 1)) (C := RX11) (T := TX11) (N := 20) hx hb hts iX11 hown hK hP 0 rfl rfl 6 (by decide) f_49 (fun _ h9 => h9) rfl dX11_restore_17 ?_
    refine zz_if_le (tgt := 25) hx hb dX11_restore_20 (by decide) (by decide) (fun c_20 => ?_) (fun c_20 => ?_)
    · exact absurd c_20 (by decide)
    · refine zz_iconst hx hb dX11_restore_23 ?_
      have e_ms : (ms : Int → Int) = (if misv = 0 then ms else msav) := by first | rw [if_pos (by omega)] | rw [if_neg (by omega)]
      have hP : va_P D vwCl (bModel tA a0 a1 a2 a3 a4 a5 a6 a7 a8 a9 a10 (if misv = 0 then ms else msav) mbef msav misv mpast mpm 1 mways mnds mtkp mline mlm mtxt mlen mat mwr merr mfail mcmd mcm) H := by rw [← e_ms]; exact hP
      have hD : va_D A (bModel tA a0 a1 a2 a3 a4 a5 a6 a7 a8 a9 a10 (if misv = 0 then ms else msav) mbef msav misv mpast mpm 1 mways mnds mtkp mline mlm mtxt mlen mat mwr merr mfail mcmd mcm) := by rw [← e_ms]; exact hD
      have e_mpm : (mpm : Int) = (if misv = 0 then mpm else 0) := by first | rw [if_pos (by omega)] | rw [if_neg (by omega)]
      have hP : va_P D vwCl (bModel tA a0 a1 a2 a3 a4 a5 a6 a7 a8 a9 a10 (if misv = 0 then ms else msav) mbef msav misv mpast (if misv = 0 then mpm else 0) 1 mways mnds mtkp mline mlm mtxt mlen mat mwr merr mfail mcmd mcm) H := by rw [← e_mpm]; exact hP
      have hD : va_D A (bModel tA a0 a1 a2 a3 a4 a5 a6 a7 a8 a9 a10 (if misv = 0 then ms else msav) mbef msav misv mpast (if misv = 0 then mpm else 0) 1 mways mnds mtkp mline mlm mtxt mlen mat mwr merr mfail mcmd mcm) := by rw [← e_mpm]; exact hD
      have e_mthr : (1 : Int) = (if misv = 0 then 1 else 0) := by first | rw [if_pos (by omega)] | rw [if_neg (by omega)]
      have hP : va_P D vwCl (bModel tA a0 a1 a2 a3 a4 a5 a6 a7 a8 a9 a10 (if misv = 0 then ms else msav) mbef msav misv mpast (if misv = 0 then mpm else 0) (if misv = 0 then 1 else 0) mways mnds mtkp mline mlm mtxt mlen mat mwr merr mfail mcmd mcm) H := by rw [← e_mthr]; exact hP
      have hD : va_D A (bModel tA a0 a1 a2 a3 a4 a5 a6 a7 a8 a9 a10 (if misv = 0 then ms else msav) mbef msav misv mpast (if misv = 0 then mpm else 0) (if misv = 0 then 1 else 0) mways mnds mtkp mline mlm mtxt mlen mat mwr merr mfail mcmd mcm) := by rw [← e_mthr]; exact hD
      exact hret 0 () _ _ _ _ dX11_restore_24 (show misv = 0 ∨ (misv = 1 ∧ (0 : Int) = msav 1) from by omega) hP hD hS
  · refine zz_iconst hx hb dX11_restore_8 ?_
    refine lv_goto (tgt := 13) hx hb dX11_restore_9 (by decide) ?_
    refine va_put (D := D) (ci := 13) (v := .int (iI 0)) (ty := .int) (C := RX11) (T := TX11) (N := 20) hx hb hts iX11 tyX11 tyX11_ok nmX11 hown hK hP hD hS 0 rfl rfl 6 (by decide) f_49 (fun _ h9 => h9) rfl (by decide +kernel) rfl rfl (Nat.le_of_ble_eq_true rfl) dX11_restore_13 (fun H locs hP hD hS => ?_)
    have hP : va_P D vwCl (bModel tA a0 a1 a2 a3 a4 a5 a6 a7 a8 a9 a10 ms mbef msav misv mpast mpm 0 mways mnds mtkp mline mlm mtxt mlen mat mwr merr mfail mcmd mcm) H := hP
    have hD : va_D A (bModel tA a0 a1 a2 a3 a4 a5 a6 a7 a8 a9 a10 ms mbef msav misv mpast mpm 0 mways mnds mtkp mline mlm mtxt mlen mat mwr merr mfail mcmd mcm) := hD
    refine lv_aload_n hx hb dX11_restore_16 rfl (lv_at hl 0 rfl) ?_
    refine va_get (D := D) (ci := 13) (v := .int (iI 0)) (C := RX11) (T := TX11) (N := 20) hx hb hts iX11 hown hK hP 0 rfl rfl 6 (by decide) f_49 (fun _ h9 => h9) rfl dX11_restore_17 ?_
    refine zz_if_le (tgt := 25) hx hb dX11_restore_20 (by decide) (by decide) (fun c_20 => ?_) (fun c_20 => ?_)
    · refine lv_aload_n hx hb dX11_restore_25 rfl (lv_at hl 0 rfl) ?_
      refine va_get (D := D) (ci := 13) (v := .ref a3) (C := RX11) (T := TX11) (N := 20) hx hb hts iX11 hown hK hP 0 rfl rfl 2 (by decide) f_16 (fun _ h9 => h9) rfl dX11_restore_26 ?_
      refine zz_iconst hx hb dX11_restore_29 ?_
      refine lv_aload_n hx hb dX11_restore_30 rfl (lv_at hl 0 rfl) ?_
      refine va_get (D := D) (ci := 13) (v := .ref a1) (C := RX11) (T := TX11) (N := 20) hx hb hts iX11 hown hK hP 0 rfl rfl 0 (by decide) f_9 (fun _ h9 => h9) rfl dX11_restore_31 ?_
      refine zz_iconst hx hb dX11_restore_34 ?_
      refine zz_sipush hx hb dX11_restore_35 (by decide) ?_
      refine zz_copyAll hx hb (by rw [hml]; exact hl.1.symm) hown l_52 ln_52 ls_52 li_52 (Nat.le_of_ble_eq_true rfl) (Nat.le_of_ble_eq_true rfl) hK hP hD hS 3 1 rfl rfl (by decide) rfl dX11_restore_38 (fun H locs hP hD hS => ?_)
      have hP : va_P D vwCl (bModel tA a0 a1 a2 a3 a4 a5 a6 a7 a8 a9 a10 msav mbef msav misv mpast mpm 0 mways mnds mtkp mline mlm mtxt mlen mat mwr merr mfail mcmd mcm) H := hP
      have hD : va_D A (bModel tA a0 a1 a2 a3 a4 a5 a6 a7 a8 a9 a10 msav mbef msav misv mpast mpm 0 mways mnds mtkp mline mlm mtxt mlen mat mwr merr mfail mcmd mcm) := hD
      refine lv_aload_n hx hb dX11_restore_41 rfl (lv_at hl 0 rfl) ?_
      refine zz_iconst hx hb dX11_restore_42 ?_
      refine va_put (D := D) (ci := 13) (v := .int (iI 0)) (ty := .int) (C := RX11) (T := TX11) (N := 20) hx hb hts iX11 tyX11 tyX11_ok nmX11 hown hK hP hD hS 0 rfl rfl 5 (by decide) f_58 (fun _ h9 => h9) rfl (by decide +kernel) rfl rfl (Nat.le_of_ble_eq_true rfl) dX11_restore_43 (fun H locs hP hD hS => ?_)
      have hP : va_P D vwCl (bModel tA a0 a1 a2 a3 a4 a5 a6 a7 a8 a9 a10 msav mbef msav misv mpast 0 0 mways mnds mtkp mline mlm mtxt mlen mat mwr merr mfail mcmd mcm) H := hP
      have hD : va_D A (bModel tA a0 a1 a2 a3 a4 a5 a6 a7 a8 a9 a10 msav mbef msav misv mpast 0 0 mways mnds mtkp mline mlm mtxt mlen mat mwr merr mfail mcmd mcm) := hD
      refine lv_aload_n hx hb dX11_restore_46 rfl (lv_at hl 0 rfl) ?_
      refine va_get (D := D) (ci := 13) (v := .ref a1) (C := RX11) (T := TX11) (N := 20) hx hb hts iX11 hown hK hP 0 rfl rfl 0 (by decide) f_9 (fun _ h9 => h9) rfl dX11_restore_47 ?_
      refine zz_iconst hx hb dX11_restore_50 ?_
      refine zz_iald hx hb hK hP 1 rfl (by decide) (by omega) dX11_restore_51 ?_
      have e_ms : (msav : Int → Int) = (if misv = 0 then ms else msav) := by first | rw [if_pos (by omega)] | rw [if_neg (by omega)]
      have hP : va_P D vwCl (bModel tA a0 a1 a2 a3 a4 a5 a6 a7 a8 a9 a10 (if misv = 0 then ms else msav) mbef msav misv mpast 0 0 mways mnds mtkp mline mlm mtxt mlen mat mwr merr mfail mcmd mcm) H := by rw [← e_ms]; exact hP
      have hD : va_D A (bModel tA a0 a1 a2 a3 a4 a5 a6 a7 a8 a9 a10 (if misv = 0 then ms else msav) mbef msav misv mpast 0 0 mways mnds mtkp mline mlm mtxt mlen mat mwr merr mfail mcmd mcm) := by rw [← e_ms]; exact hD
      have e_mpm : (0 : Int) = (if misv = 0 then mpm else 0) := by first | rw [if_pos (by omega)] | rw [if_neg (by omega)]
      have hP : va_P D vwCl (bModel tA a0 a1 a2 a3 a4 a5 a6 a7 a8 a9 a10 (if misv = 0 then ms else msav) mbef msav misv mpast (if misv = 0 then mpm else 0) 0 mways mnds mtkp mline mlm mtxt mlen mat mwr merr mfail mcmd mcm) H := by rw [← e_mpm]; exact hP
      have hD : va_D A (bModel tA a0 a1 a2 a3 a4 a5 a6 a7 a8 a9 a10 (if misv = 0 then ms else msav) mbef msav misv mpast (if misv = 0 then mpm else 0) 0 mways mnds mtkp mline mlm mtxt mlen mat mwr merr mfail mcmd mcm) := by rw [← e_mpm]; exact hD
      have e_mthr : (0 : Int) = (if misv = 0 then 1 else 0) := by first | rw [if_pos (by omega)] | rw [if_neg (by omega)]
      have hP : va_P D vwCl (bModel tA a0 a1 a2 a3 a4 a5 a6 a7 a8 a9 a10 (if misv = 0 then ms else msav) mbef msav misv mpast (if misv = 0 then mpm else 0) (if misv = 0 then 1 else 0) mways mnds mtkp mline mlm mtxt mlen mat mwr merr mfail mcmd mcm) H := by rw [← e_mthr]; exact hP
      have hD : va_D A (bModel tA a0 a1 a2 a3 a4 a5 a6 a7 a8 a9 a10 (if misv = 0 then ms else msav) mbef msav misv mpast (if misv = 0 then mpm else 0) (if misv = 0 then 1 else 0) mways mnds mtkp mline mlm mtxt mlen mat mwr merr mfail mcmd mcm) := by rw [← e_mthr]; exact hD
      exact hret (msav 1) () _ _ _ _ dX11_restore_52 (show misv = 0 ∨ (misv = 1 ∧ (msav 1) = msav 1) from by omega) hP hD hS
    · exact absurd c_20 (by decide)

set_option maxHeartbeats 4000000 in
set_option maxRecDepth 100000 in
theorem c_X11_subscriberByDark (l : Launch) (D : va_G) (tA : Nat → ClassId) (a0 a1 a2 a3 a4 a5 a6 a7 a8 a9 a10 : Nat) (sz : Nat) (ms : Int → Int) (mbef : Int → Int) (msav : Int → Int) (misv : Int) (mpast : Int → Int) (mpm : Int) (mthr : Int) (mways : Int → Int) (mnds : Int → Int) (mtkp : Int → Int) (mline : Int → Int) (mlm : Int) (mtxt : Int → Int) (mlen : Int) (mat : Int) (mwr : Int) (merr : Int) (mfail : Int) (mcmd : Int → Int) (mcm : Int) (rank : Int) (r_rank : -2147483648 ≤ rank ∧ rank ≤ 2147483647) (hm : MV ms) (hdk : ∀ k, 0 ≤ k → k < ms 1 → 0 ≤ suM ms k 4 ∧ suM ms k 4 ≤ 1000000000) : zMi l yX11_subscriberByDark wsX11_subscriberByDark ({ frames := 2, cells := 0, slots := 0, locals := 43 }) D tA [.ref a0, .int (iI rank)] (bModel tA a0 a1 a2 a3 a4 a5 a6 a7 a8 a9 a10 ms mbef msav misv mpast mpm mthr mways mnds mtkp mline mlm mtxt mlen mat mwr merr mfail mcmd mcm) sz (fun (z : Int) (u : (Int)) => ((u = 1 ∧ ¬ (0 ≤ rank ∧ rank < ms 1)) ∨ (u = 0 ∧ (0 ≤ rank ∧ rank < ms 1) ∧ FdK (ms 1) (fun j => suM ms j 4) rank (ms 1) z))) (fun (u : (Int)) => bModel tA a0 a1 a2 a3 a4 a5 a6 a7 a8 a9 a10 ms mbef msav misv mpast mpm u mways mnds mtkp mline mlm mtxt mlen mat mwr merr mfail mcmd mcm) 0 0 := by
  refine zMi_of (cc := cX11_subscriberByDark) (maxL := 8) (by decide) rfl (fun z u h => rfl) (Nat.le_of_ble_eq_true rfl) ?_
  intro p e s m args below meth c A Q ls hx hb hml hts hown hK hP hD hA hret hl
  obtain ⟨H, hHe⟩ : ∃ H : Heap, H = s.heap := ⟨_, rfl⟩
  have hS : va_S A s.heap H [] := by rw [hHe]; exact va_S.rf
  rw [← hHe] at hP ⊢
  have hl : lv_has ls 8 [(0, .ref a0), (1, .int (iI rank))] := hl
  have iX11 : ∀ v ∈ wsX110, v ∈ wsX11_subscriberByDark := by decide +kernel
  have f_9 := hts (.fieldLink RX11 9 "HarborLightsModel" "s" "[I") (by decide +kernel)
  obtain ⟨⟨mp0, mp1, mc0, mc1, mf0, mf1, mr0, mr1⟩, hlr, mL, mS⟩ := id hm
  refine zz_iconst hx hb dX11_subscriberByDark_0 ?_
  refine lv_istore_n (lv' := [(2, .int (iI 0)), (0, .ref a0), (1, .int (iI rank))]) hx hb dX11_subscriberByDark_1 rfl hl (by decide) rfl (fun ls hl => ?_)
  refine lv_aload_n hx hb dX11_subscriberByDark_2 rfl (lv_at hl 1 rfl) ?_
  refine lv_aload_n hx hb dX11_subscriberByDark_3 rfl (lv_at hl 1 rfl) ?_
  refine lv_iload_n hx hb dX11_subscriberByDark_4 rfl (lv_at hl 2 rfl) ?_
  refine zz_callVi (As := [.int (iI rank)]) (rest := [.ref a0]) (wf := fun u => bModel tA a0 a1 a2 a3 a4 a5 a6 a7 a8 a9 a10 ms mbef msav misv mpast mpm mthr mways mnds mtkp mline mlm mtxt mlen mat mwr merr mfail mcmd mcm) ⟨hx, hb, hml, hown, hts⟩ (c_X11_isSubscriber l D tA a0 a1 a2 a3 a4 a5 a6 a7 a8 a9 a10 H.size ms mbef msav misv mpast mpm mthr mways mnds mtkp mline mlm mtxt mlen mat mwr merr mfail mcmd mcm rank (by first | assumption | omega) (by first | assumption | omega)) (cwV 1 hts gX11_subscriberByDark_X11_isSubscriber rfl rfl rfl (by decide +kernel) ⟨Nat.le_of_ble_eq_true rfl, Nat.le_of_ble_eq_true rfl⟩) hK hP hD hS hA [0, 1, 2, 3, 4, 5, 6, 7, 8, 9, 10] [] [0, 1, 2, 3, 4, 5, 6, 7, 8, 9, 10] rfl rfl (by decide) (by decide) (by decide) (by decide) (fun _ => rfl) (ci := 13) (q0 := 0) rfl rfl rfl rfl rfl hl.1 (Nat.le_of_ble_eq_true rfl) dX11_subscriberByDark_5 ⟨Nat.le_of_ble_eq_true rfl, Nat.le_of_ble_eq_true rfl⟩ ?_
  intro z5_1 u H locs p5_2 hP hD hS
  have hP : va_P D vwCl (bModel tA a0 a1 a2 a3 a4 a5 a6 a7 a8 a9 a10 ms mbef msav misv mpast mpm mthr mways mnds mtkp mline mlm mtxt mlen mat mwr merr mfail mcmd mcm) H := hP
  have hD : va_D A (bModel tA a0 a1 a2 a3 a4 a5 a6 a7 a8 a9 a10 ms mbef msav misv mpast mpm mthr mways mnds mtkp mline mlm mtxt mlen mat mwr merr mfail mcmd mcm) := hD
  have q_5 : (z5_1 = 1 ∧ 0 ≤ rank ∧ rank < ms 1) ∨ (z5_1 = 0 ∧ ¬ (0 ≤ rank ∧ rank < ms 1)) := p5_2
  have hz5 : z5_1 = 0 ∨ z5_1 = 1 := by omega
  refine zz_callVi (As := [.int (iI z5_1)]) (rest := []) (wf := fun u => bModel tA a0 a1 a2 a3 a4 a5 a6 a7 a8 a9 a10 ms mbef msav misv mpast mpm (1 - z5_1) mways mnds mtkp mline mlm mtxt mlen mat mwr merr mfail mcmd mcm) ⟨hx, hb, hml, hown, hts⟩ (c_X11_isThere l D tA a0 a1 a2 a3 a4 a5 a6 a7 a8 a9 a10 H.size ms mbef msav misv mpast mpm mthr mways mnds mtkp mline mlm mtxt mlen mat mwr merr mfail mcmd mcm z5_1 (by first | assumption | omega)) (cwV 1 hts gX11_subscriberByDark_X11_isThere rfl rfl rfl (by decide +kernel) ⟨Nat.le_of_ble_eq_true rfl, Nat.le_of_ble_eq_true rfl⟩) hK hP hD hS hA [0, 1, 2, 3, 4, 5, 6, 7, 8, 9, 10] [] [0, 1, 2, 3, 4, 5, 6, 7, 8, 9, 10] rfl rfl (by decide) (by decide) (by decide) (by decide) (fun _ => rfl) (ci := 13) (q0 := 0) rfl rfl rfl rfl rfl hl.1 (Nat.le_of_ble_eq_true rfl) dX11_subscriberByDark_8 ⟨Nat.le_of_ble_eq_true rfl, Nat.le_of_ble_eq_true rfl⟩ ?_
  intro z8_3 u H locs p8_4 hP hD hS
  have hP : va_P D vwCl (bModel tA a0 a1 a2 a3 a4 a5 a6 a7 a8 a9 a10 ms mbef msav misv mpast mpm (1 - z5_1) mways mnds mtkp mline mlm mtxt mlen mat mwr merr mfail mcmd mcm) H := hP
  have hD : va_D A (bModel tA a0 a1 a2 a3 a4 a5 a6 a7 a8 a9 a10 ms mbef msav misv mpast mpm (1 - z5_1) mways mnds mtkp mline mlm mtxt mlen mat mwr merr mfail mcmd mcm) := hD
  have q_8 : z8_3 = z5_1 := p8_4
  refine lv_istore_n (lv' := [(3, .int (iI z8_3)), (2, .int (iI 0)), (0, .ref a0), (1, .int (iI rank))]) hx hb dX11_subscriberByDark_11 rfl hl (by decide) rfl (fun ls hl => ?_)
  refine zz_iconst hx hb dX11_subscriberByDark_12 ?_
  refine lv_istore (lv' := [(4, .int (iI 0)), (3, .int (iI z8_3)), (2, .int (iI 0)), (0, .ref a0), (1, .int (iI rank))]) hx hb dX11_subscriberByDark_13 hl (by decide) rfl (fun ls hl => ?_)
  have L15 : ∀ (n : Nat) (o : Int) (fd : Int) (H : Heap) (locs : List Loc) (ls : Array Slot), (0 ≤ o ∧ o ≤ ms 1) → (FdK (ms 1) (fun j => suM ms j 4) rank o fd) → (ms 1 - o).toNat < n → va_P D vwCl (bModel tA a0 a1 a2 a3 a4 a5 a6 a7 a8 a9 a10 ms mbef msav misv mpast mpm (1 - z5_1) mways mnds mtkp mline mlm mtxt mlen mat mwr merr mfail mcmd mcm) H → va_D A (bModel tA a0 a1 a2 a3 a4 a5 a6 a7 a8 a9 a10 ms mbef msav misv mpast mpm (1 - z5_1) mways mnds mtkp mline mlm mtxt mlen mat mwr merr mfail mcmd mcm) → va_S A s.heap H locs → lv_has ls 8 [(4, .int (iI o)), (3, .int (iI z8_3)), (2, .int (iI fd)), (0, .ref a0), (1, .int (iI rank))] → W p l e (headSpec wsX11_subscriberByDark ({ frames := 2, cells := 0, slots := 0, locals := 43 })).room s m args below meth c H locs 0 0 Q (F0 m 15 ls []) := by
    intro n
    induction n with
    | zero => intro o fd H locs ls i0 i1 hmz; exact absurd hmz (Nat.not_lt_zero _)
    | succ n ih15 =>
      intro o fd H locs ls i0 i1 hmz hP hD hS hl
      refine lv_iload hx hb dX11_subscriberByDark_15 (lv_at hl 0 rfl) ?_
      refine lv_aload_n hx hb dX11_subscriberByDark_17 rfl (lv_at hl 3 rfl) ?_
      refine va_get (D := D) (ci := 13) (v := .ref a1) (C := RX11) (T := TX11) (N := 20) hx hb hts iX11 hown hK hP 0 rfl rfl 0 (by decide) f_9 (fun _ h9 => h9) rfl dX11_subscriberByDark_18 ?_
      refine zz_iconst hx hb dX11_subscriberByDark_21 ?_
      refine zz_iald hx hb hK hP 1 rfl (by decide) (by omega) dX11_subscriberByDark_22 ?_
      refine zz_icmp_ge (tgt := 116) hx hb dX11_subscriberByDark_23 (by decide) (by omega) (by omega) (fun c_23 => ?_) (fun c_23 => ?_)
      · refine lv_iload_n hx hb dX11_subscriberByDark_116 rfl (lv_at hl 2 rfl) ?_
        exact hret fd (1 - z5_1) _ _ _ _ dX11_subscriberByDark_117 (show ((1 - z5_1) = 1 ∧ ¬ (0 ≤ rank ∧ rank < ms 1)) ∨ ((1 - z5_1) = 0 ∧ (0 ≤ rank ∧ rank < ms 1) ∧ FdK (ms 1) (fun j => suM ms j 4) rank (ms 1) fd) from by rcases hz5 with h5 | h5 <;> first | exact Or.inl ⟨by omega, by omega⟩ | exact Or.inr ⟨by omega, by omega, by rw [show o = ms 1 by omega] at i1; exact i1⟩) hP hD hS
      · refine lv_iload_n hx hb dX11_subscriberByDark_26 rfl (lv_at hl 1 rfl) ?_
        refine zz_if_eq (tgt := 116) hx hb dX11_subscriberByDark_27 (by decide) (by omega) (fun c_27 => ?_) (fun c_27 => ?_)
        · refine lv_iload_n hx hb dX11_subscriberByDark_116 rfl (lv_at hl 2 rfl) ?_
          exact hret fd (1 - z5_1) _ _ _ _ dX11_subscriberByDark_117 (show ((1 - z5_1) = 1 ∧ ¬ (0 ≤ rank ∧ rank < ms 1)) ∨ ((1 - z5_1) = 0 ∧ (0 ≤ rank ∧ rank < ms 1) ∧ FdK (ms 1) (fun j => suM ms j 4) rank (ms 1) fd) from by rcases hz5 with h5 | h5 <;> first | exact Or.inl ⟨by omega, by omega⟩ | exact Or.inr ⟨by omega, by omega, by rw [show o = ms 1 by omega] at i1; exact i1⟩) hP hD hS
        · refine zz_iconst hx hb dX11_subscriberByDark_30 ?_
          refine lv_istore (lv' := [(5, .int (iI 0)), (4, .int (iI o)), (3, .int (iI z8_3)), (2, .int (iI fd)), (0, .ref a0), (1, .int (iI rank))]) hx hb dX11_subscriberByDark_31 hl (by decide) rfl (fun ls hl => ?_)
          refine zz_iconst hx hb dX11_subscriberByDark_33 ?_
          refine lv_istore (lv' := [(6, .int (iI 0)), (5, .int (iI 0)), (4, .int (iI o)), (3, .int (iI z8_3)), (2, .int (iI fd)), (0, .ref a0), (1, .int (iI rank))]) hx hb dX11_subscriberByDark_34 hl (by decide) rfl (fun ls hl => ?_)
          have L36 : ∀ (n : Nat) (q : Int) (ah : Int) (H : Heap) (locs : List Loc) (ls : Array Slot), (0 ≤ q ∧ q ≤ ms 1) → (ah = dkC (fun j => suM ms j 4) o q) → (0 ≤ ah ∧ ah ≤ q) → (ms 1 - q).toNat < n → va_P D vwCl (bModel tA a0 a1 a2 a3 a4 a5 a6 a7 a8 a9 a10 ms mbef msav misv mpast mpm (1 - z5_1) mways mnds mtkp mline mlm mtxt mlen mat mwr merr mfail mcmd mcm) H → va_D A (bModel tA a0 a1 a2 a3 a4 a5 a6 a7 a8 a9 a10 ms mbef msav misv mpast mpm (1 - z5_1) mways mnds mtkp mline mlm mtxt mlen mat mwr merr mfail mcmd mcm) → va_S A s.heap H locs → lv_has ls 8 [(6, .int (iI q)), (5, .int (iI ah)), (4, .int (iI o)), (3, .int (iI z8_3)), (2, .int (iI fd)), (0, .ref a0), (1, .int (iI rank))] → W p l e (headSpec wsX11_subscriberByDark ({ frames := 2, cells := 0, slots := 0, locals := 43 })).room s m args below meth c H locs 0 0 Q (F0 m 36 ls []) := by
            intro n
            induction n with
            | zero => intro q ah H locs ls j0 j1 j2 hmz; exact absurd hmz (Nat.not_lt_zero _)
            | succ n ih36 =>
              intro q ah H locs ls j0 j1 j2 hmz hP hD hS hl
              refine lv_iload hx hb dX11_subscriberByDark_36 (lv_at hl 0 rfl) ?_
              refine lv_aload_n hx hb dX11_subscriberByDark_38 rfl (lv_at hl 5 rfl) ?_
              refine va_get (D := D) (ci := 13) (v := .ref a1) (C := RX11) (T := TX11) (N := 20) hx hb hts iX11 hown hK hP 0 rfl rfl 0 (by decide) f_9 (fun _ h9 => h9) rfl dX11_subscriberByDark_39 ?_
              refine zz_iconst hx hb dX11_subscriberByDark_42 ?_
              refine zz_iald hx hb hK hP 1 rfl (by decide) (by omega) dX11_subscriberByDark_43 ?_
              refine zz_icmp_ge (tgt := 97) hx hb dX11_subscriberByDark_44 (by decide) (by omega) (by omega) (fun c_44 => ?_) (fun c_44 => ?_)
              · have hah : ah = dkR (ms 1) (fun j => suM ms j 4) o := by rw [j1, show q = ms 1 by omega]; rfl
                refine lv_iload hx hb dX11_subscriberByDark_97 (lv_at hl 1 rfl) ?_
                refine lv_iload_n hx hb dX11_subscriberByDark_99 rfl (lv_at hl 6 rfl) ?_
                refine zz_icmp_ne (tgt := 108) hx hb dX11_subscriberByDark_100 (by decide) (by omega) (by omega) (fun c_100 => ?_) (fun c_100 => ?_)
                · refine lv_iload_n hx hb dX11_subscriberByDark_108 rfl (lv_at hl 4 rfl) ?_
                  refine lv_istore_n (lv' := [(2, .int (iI fd)), (6, .int (iI q)), (5, .int (iI ah)), (4, .int (iI o)), (3, .int (iI z8_3)), (0, .ref a0), (1, .int (iI rank))]) hx hb dX11_subscriberByDark_109 rfl hl (by decide) rfl (fun ls hl => ?_)
                  refine zz_iinc (lv' := [(4, .int (iI (o + 1))), (2, .int (iI fd)), (6, .int (iI q)), (5, .int (iI ah)), (3, .int (iI z8_3)), (0, .ref a0), (1, .int (iI rank))]) hx hb dX11_subscriberByDark_110 hl (k := 3) rfl (by decide) rfl (fun ls hl => ?_)
                  refine lv_goto (tgt := 15) hx hb dX11_subscriberByDark_113 (by decide) ?_
                  exact ih15 (o + 1) fd _ _ _ (by omega) (by first | exact FdK_yes (by omega) i1 (by rw [← hah]; omega) | exact FdK_no i1 (by rw [← hah]; omega)) (by omega) hP hD hS (lv_sub hl [0, 4, 1, 5, 6] rfl)
                · refine lv_iload hx hb dX11_subscriberByDark_103 (lv_at hl 2 rfl) ?_
                  refine lv_goto (tgt := 109) hx hb dX11_subscriberByDark_105 (by decide) ?_
                  refine lv_istore_n (lv' := [(2, .int (iI o)), (6, .int (iI q)), (5, .int (iI ah)), (4, .int (iI o)), (3, .int (iI z8_3)), (0, .ref a0), (1, .int (iI rank))]) hx hb dX11_subscriberByDark_109 rfl hl (by decide) rfl (fun ls hl => ?_)
                  refine zz_iinc (lv' := [(4, .int (iI (o + 1))), (2, .int (iI o)), (6, .int (iI q)), (5, .int (iI ah)), (3, .int (iI z8_3)), (0, .ref a0), (1, .int (iI rank))]) hx hb dX11_subscriberByDark_110 hl (k := 3) rfl (by decide) rfl (fun ls hl => ?_)
                  refine lv_goto (tgt := 15) hx hb dX11_subscriberByDark_113 (by decide) ?_
                  exact ih15 (o + 1) o _ _ _ (by omega) (by first | exact FdK_yes (by omega) i1 (by rw [← hah]; omega) | exact FdK_no i1 (by rw [← hah]; omega)) (by omega) hP hD hS (lv_sub hl [0, 4, 1, 5, 6] rfl)
              · refine lv_aload_n hx hb dX11_subscriberByDark_47 rfl (lv_at hl 5 rfl) ?_
                refine lv_iload hx hb dX11_subscriberByDark_48 (lv_at hl 0 rfl) ?_
                refine zz_iconst hx hb dX11_subscriberByDark_50 ?_
                refine zz_callVi (As := [.int (iI q), .int (iI 4)]) (rest := []) (wf := fun u => bModel tA a0 a1 a2 a3 a4 a5 a6 a7 a8 a9 a10 ms mbef msav misv mpast mpm (1 - z5_1) mways mnds mtkp mline mlm mtxt mlen mat mwr merr mfail mcmd mcm) ⟨hx, hb, hml, hown, hts⟩ (c_X11_of l D tA a0 a1 a2 a3 a4 a5 a6 a7 a8 a9 a10 H.size ms mbef msav misv mpast mpm (1 - z5_1) mways mnds mtkp mline mlm mtxt mlen mat mwr merr mfail mcmd mcm q 4 (by first | assumption | omega) (by first | assumption | omega) (by first | assumption | omega) (by first | assumption | omega)) (cwV 2 hts gX11_subscriberByDark_X11_of rfl rfl rfl (by decide +kernel) ⟨Nat.le_of_ble_eq_true rfl, Nat.le_of_ble_eq_true rfl⟩) hK hP hD hS hA [0, 1, 2, 3, 4, 5, 6, 7, 8, 9, 10] [] [0, 1, 2, 3, 4, 5, 6, 7, 8, 9, 10] rfl rfl (by decide) (by decide) (by decide) (by decide) (fun _ => rfl) (ci := 13) (q0 := 0) rfl rfl rfl rfl rfl hl.1 (Nat.le_of_ble_eq_true rfl) dX11_subscriberByDark_51 ⟨Nat.le_of_ble_eq_true rfl, Nat.le_of_ble_eq_true rfl⟩ ?_
                intro z51_5 u H locs p51_6 hP hD hS
                have hP : va_P D vwCl (bModel tA a0 a1 a2 a3 a4 a5 a6 a7 a8 a9 a10 ms mbef msav misv mpast mpm (1 - z5_1) mways mnds mtkp mline mlm mtxt mlen mat mwr merr mfail mcmd mcm) H := hP
                have hD : va_D A (bModel tA a0 a1 a2 a3 a4 a5 a6 a7 a8 a9 a10 ms mbef msav misv mpast mpm (1 - z5_1) mways mnds mtkp mline mlm mtxt mlen mat mwr merr mfail mcmd mcm) := hD
                have q_51 : z51_5 = suM ms q 4 := p51_6
                have hd1 := hdk q (by omega) (by omega)
                refine lv_aload_n hx hb dX11_subscriberByDark_54 rfl (lv_at hl 5 rfl) ?_
                refine lv_iload hx hb dX11_subscriberByDark_55 (lv_at hl 2 rfl) ?_
                refine zz_iconst hx hb dX11_subscriberByDark_57 ?_
                refine zz_callVi (As := [.int (iI o), .int (iI 4)]) (rest := [.int (iI z51_5)]) (wf := fun u => bModel tA a0 a1 a2 a3 a4 a5 a6 a7 a8 a9 a10 ms mbef msav misv mpast mpm (1 - z5_1) mways mnds mtkp mline mlm mtxt mlen mat mwr merr mfail mcmd mcm) ⟨hx, hb, hml, hown, hts⟩ (c_X11_of l D tA a0 a1 a2 a3 a4 a5 a6 a7 a8 a9 a10 H.size ms mbef msav misv mpast mpm (1 - z5_1) mways mnds mtkp mline mlm mtxt mlen mat mwr merr mfail mcmd mcm o 4 (by first | assumption | omega) (by first | assumption | omega) (by first | assumption | omega) (by first | assumption | omega)) (cwV 2 hts gX11_subscriberByDark_X11_of rfl rfl rfl (by decide +kernel) ⟨Nat.le_of_ble_eq_true rfl, Nat.le_of_ble_eq_true rfl⟩) hK hP hD hS hA [0, 1, 2, 3, 4, 5, 6, 7, 8, 9, 10] [] [0, 1, 2, 3, 4, 5, 6, 7, 8, 9, 10] rfl rfl (by decide) (by decide) (by decide) (by decide) (fun _ => rfl) (ci := 13) (q0 := 0) rfl rfl rfl rfl rfl hl.1 (Nat.le_of_ble_eq_true rfl) dX11_subscriberByDark_58 ⟨Nat.le_of_ble_eq_true rfl, Nat.le_of_ble_eq_true rfl⟩ ?_
                intro z58_7 u H locs p58_8 hP hD hS
                have hP : va_P D vwCl (bModel tA a0 a1 a2 a3 a4 a5 a6 a7 a8 a9 a10 ms mbef msav misv mpast mpm (1 - z5_1) mways mnds mtkp mline mlm mtxt mlen mat mwr merr mfail mcmd mcm) H := hP
                have hD : va_D A (bModel tA a0 a1 a2 a3 a4 a5 a6 a7 a8 a9 a10 ms mbef msav misv mpast mpm (1 - z5_1) mways mnds mtkp mline mlm mtxt mlen mat mwr merr mfail mcmd mcm) := hD
                have q_58 : z58_7 = suM ms o 4 := p58_8
                have hd2 := hdk o (by omega) (by omega)
                refine zz_isub hx hb dX11_subscriberByDark_61 ?_
                refine lv_istore (lv' := [(7, .int (iI (z51_5 - z58_7))), (6, .int (iI q)), (5, .int (iI ah)), (4, .int (iI o)), (3, .int (iI z8_3)), (2, .int (iI fd)), (0, .ref a0), (1, .int (iI rank))]) hx hb dX11_subscriberByDark_62 hl (by decide) rfl (fun ls hl => ?_)
                refine lv_iload hx hb dX11_subscriberByDark_64 (lv_at hl 2 rfl) ?_
                refine lv_iload hx hb dX11_subscriberByDark_66 (lv_at hl 0 rfl) ?_
                refine zz_if_gt (tgt := 83) hx hb dX11_subscriberByDark_68 (by decide) (by omega) (fun c_68 => ?_) (fun c_68 => ?_)
                · refine zz_iconst hx hb dX11_subscriberByDark_83 ?_
                  refine lv_goto (tgt := 88) hx hb dX11_subscriberByDark_84 (by decide) ?_
                  refine zz_iadd hx hb dX11_subscriberByDark_88 ?_
                  refine lv_istore (lv' := [(5, .int (iI (ah + 1))), (7, .int (iI (z51_5 - z58_7))), (6, .int (iI q)), (4, .int (iI o)), (3, .int (iI z8_3)), (2, .int (iI fd)), (0, .ref a0), (1, .int (iI rank))]) hx hb dX11_subscriberByDark_89 hl (by decide) rfl (fun ls hl => ?_)
                  refine zz_iinc (lv' := [(6, .int (iI (q + 1))), (5, .int (iI (ah + 1))), (7, .int (iI (z51_5 - z58_7))), (4, .int (iI o)), (3, .int (iI z8_3)), (2, .int (iI fd)), (0, .ref a0), (1, .int (iI rank))]) hx hb dX11_subscriberByDark_91 hl (k := 2) rfl (by decide) rfl (fun ls hl => ?_)
                  refine lv_goto (tgt := 36) hx hb dX11_subscriberByDark_94 (by decide) ?_
                  exact ih36 (q + 1) (ah + 1) _ _ _ (by omega) (by rw [j1]; first | exact dkC_s1 (by omega) (show suM ms o 4 < suM ms q 4 ∨ (suM ms q 4 = suM ms o 4 ∧ q < o) by omega) | (rw [Int.add_zero]; exact dkC_s0 (by omega) (show ¬ (suM ms o 4 < suM ms q 4 ∨ (suM ms q 4 = suM ms o 4 ∧ q < o)) by omega))) (by omega) (by omega) hP hD hS (lv_sub hl [0, 1, 3, 4, 5, 6, 7] rfl)
                · refine lv_iload hx hb dX11_subscriberByDark_71 (lv_at hl 0 rfl) ?_
                  refine zz_if_ne (tgt := 87) hx hb dX11_subscriberByDark_73 (by decide) (by omega) (fun c_73 => ?_) (fun c_73 => ?_)
                  · refine zz_iconst hx hb dX11_subscriberByDark_87 ?_
                    refine zz_iadd hx hb dX11_subscriberByDark_88 ?_
                    refine lv_istore (lv' := [(5, .int (iI (ah + 0))), (7, .int (iI (z51_5 - z58_7))), (6, .int (iI q)), (4, .int (iI o)), (3, .int (iI z8_3)), (2, .int (iI fd)), (0, .ref a0), (1, .int (iI rank))]) hx hb dX11_subscriberByDark_89 hl (by decide) rfl (fun ls hl => ?_)
                    refine zz_iinc (lv' := [(6, .int (iI (q + 1))), (5, .int (iI (ah + 0))), (7, .int (iI (z51_5 - z58_7))), (4, .int (iI o)), (3, .int (iI z8_3)), (2, .int (iI fd)), (0, .ref a0), (1, .int (iI rank))]) hx hb dX11_subscriberByDark_91 hl (k := 2) rfl (by decide) rfl (fun ls hl => ?_)
                    refine lv_goto (tgt := 36) hx hb dX11_subscriberByDark_94 (by decide) ?_
                    exact ih36 (q + 1) (ah + 0) _ _ _ (by omega) (by rw [j1]; first | exact dkC_s1 (by omega) (show suM ms o 4 < suM ms q 4 ∨ (suM ms q 4 = suM ms o 4 ∧ q < o) by omega) | (rw [Int.add_zero]; exact dkC_s0 (by omega) (show ¬ (suM ms o 4 < suM ms q 4 ∨ (suM ms q 4 = suM ms o 4 ∧ q < o)) by omega))) (by omega) (by omega) hP hD hS (lv_sub hl [0, 1, 3, 4, 5, 6, 7] rfl)
                  · refine lv_iload hx hb dX11_subscriberByDark_76 (lv_at hl 1 rfl) ?_
                    refine lv_iload hx hb dX11_subscriberByDark_78 (lv_at hl 3 rfl) ?_
                    refine zz_icmp_ge (tgt := 87) hx hb dX11_subscriberByDark_80 (by decide) (by omega) (by omega) (fun c_80 => ?_) (fun c_80 => ?_)
                    · refine zz_iconst hx hb dX11_subscriberByDark_87 ?_
                      refine zz_iadd hx hb dX11_subscriberByDark_88 ?_
                      refine lv_istore (lv' := [(5, .int (iI (ah + 0))), (7, .int (iI (z51_5 - z58_7))), (6, .int (iI q)), (4, .int (iI o)), (3, .int (iI z8_3)), (2, .int (iI fd)), (0, .ref a0), (1, .int (iI rank))]) hx hb dX11_subscriberByDark_89 hl (by decide) rfl (fun ls hl => ?_)
                      refine zz_iinc (lv' := [(6, .int (iI (q + 1))), (5, .int (iI (ah + 0))), (7, .int (iI (z51_5 - z58_7))), (4, .int (iI o)), (3, .int (iI z8_3)), (2, .int (iI fd)), (0, .ref a0), (1, .int (iI rank))]) hx hb dX11_subscriberByDark_91 hl (k := 2) rfl (by decide) rfl (fun ls hl => ?_)
                      refine lv_goto (tgt := 36) hx hb dX11_subscriberByDark_94 (by decide) ?_
                      exact ih36 (q + 1) (ah + 0) _ _ _ (by omega) (by rw [j1]; first | exact dkC_s1 (by omega) (show suM ms o 4 < suM ms q 4 ∨ (suM ms q 4 = suM ms o 4 ∧ q < o) by omega) | (rw [Int.add_zero]; exact dkC_s0 (by omega) (show ¬ (suM ms o 4 < suM ms q 4 ∨ (suM ms q 4 = suM ms o 4 ∧ q < o)) by omega))) (by omega) (by omega) hP hD hS (lv_sub hl [0, 1, 3, 4, 5, 6, 7] rfl)
                    · refine zz_iconst hx hb dX11_subscriberByDark_83 ?_
                      refine lv_goto (tgt := 88) hx hb dX11_subscriberByDark_84 (by decide) ?_
                      refine zz_iadd hx hb dX11_subscriberByDark_88 ?_
                      refine lv_istore (lv' := [(5, .int (iI (ah + 1))), (7, .int (iI (z51_5 - z58_7))), (6, .int (iI q)), (4, .int (iI o)), (3, .int (iI z8_3)), (2, .int (iI fd)), (0, .ref a0), (1, .int (iI rank))]) hx hb dX11_subscriberByDark_89 hl (by decide) rfl (fun ls hl => ?_)
                      refine zz_iinc (lv' := [(6, .int (iI (q + 1))), (5, .int (iI (ah + 1))), (7, .int (iI (z51_5 - z58_7))), (4, .int (iI o)), (3, .int (iI z8_3)), (2, .int (iI fd)), (0, .ref a0), (1, .int (iI rank))]) hx hb dX11_subscriberByDark_91 hl (k := 2) rfl (by decide) rfl (fun ls hl => ?_)
                      refine lv_goto (tgt := 36) hx hb dX11_subscriberByDark_94 (by decide) ?_
                      exact ih36 (q + 1) (ah + 1) _ _ _ (by omega) (by rw [j1]; first | exact dkC_s1 (by omega) (show suM ms o 4 < suM ms q 4 ∨ (suM ms q 4 = suM ms o 4 ∧ q < o) by omega) | (rw [Int.add_zero]; exact dkC_s0 (by omega) (show ¬ (suM ms o 4 < suM ms q 4 ∨ (suM ms q 4 = suM ms o 4 ∧ q < o)) by omega))) (by omega) (by omega) hP hD hS (lv_sub hl [0, 1, 3, 4, 5, 6, 7] rfl)
          exact L36 _ 0 0 _ _ _ (by omega) (by rfl) (by omega) (Nat.lt_succ_self _) hP hD hS (lv_sub hl [0, 1, 2, 3, 4, 5, 6] rfl)
  exact L15 _ 0 0 _ _ _ (by omega) (by exact FdK_0) (Nat.lt_succ_self _) hP hD hS (lv_sub hl [0, 1, 2, 3, 4] rfl)
