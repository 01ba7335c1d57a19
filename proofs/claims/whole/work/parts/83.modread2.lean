/-! ===== HarborLightsModel: a command's word and numbers ===== -/
theorem dg4 {di : Nat} (h : 8 ≤ di) (h2 : di < 14) : sLn di ≤ 4 := by
  have hall : ∀ s, s < 14 → 8 ≤ s → sLn s ≤ 4 := by decide
  exact hall di h2 h
theorem dgc {di : Nat} (h : 8 ≤ di) (h2 : di < 14) (k : Nat) (hk : k < sLn di) : 49 ≤ sCh di (k : Int) ∧ sCh di (k : Int) ≤ 52 := by
  have hall : ∀ s, s < 14 → 8 ≤ s → ∀ k, k < sLn s → 49 ≤ (sTx.getD s []).getD k 0 ∧ (sTx.getD s []).getD k 0 ≤ 52 := by decide
  exact hall di h2 h k hk
def rnF (txt : Int → Int) (len p w most : Int) : Int × Int × Int := if w = 1 then (0, p, 1) else if p < len ∧ txt p = 32 then (if ctD txt len most.toNat (p + 1) = 0 then (0, p + 1, 1) else (nvD txt (p + 1) (ctD txt len most.toNat (p + 1)).toNat, p + 1 + ctD txt len most.toNat (p + 1), 0)) else (0, p, 1)
theorem rnP_F {txt : Int → Int} {len p w most z p' w' : Int} (h : rnP txt len p w most z p' w') : rnF txt len p w most = (z, p', w') := by
  unfold rnF
  rcases h with ⟨a, rfl, rfl, rfl⟩ | ⟨a, b, rfl, rfl, rfl⟩ | ⟨a, b, c, rfl, rfl, rfl⟩ | ⟨a, b, c, rfl, rfl, rfl⟩
  · rw [if_pos a]
  · rw [if_neg (by omega), if_neg b]
  · rw [if_neg (by omega), if_pos b, if_pos c]
  · rw [if_neg (by omega), if_pos b, if_neg c]
def rdF (txt : Int → Int) (len : Int) : List Int → Int → Int → List Int × Int × Int
  | [], p, w => ([], p, w)
  | d :: ds, p, w => ((rnF txt len p w (d - 48)).1 :: (rdF txt len ds (rnF txt len p w (d - 48)).2.1 (rnF txt len p w (d - 48)).2.2).1, (rdF txt len ds (rnF txt len p w (d - 48)).2.1 (rnF txt len p w (d - 48)).2.2).2)
def rdI (txt : Int → Int) (len : Int) (ds : List Int) (p w : Int) (f : Int → Int) (b k p9 w9 : Int) (c9 : Int → Int) : Prop := ∃ pre : List Int, (pre.length : Int) = k ∧ (rdF txt len ds p w).1 = pre ++ (rdF txt len (ds.drop k.toNat) p9 w9).1 ∧ (rdF txt len ds p w).2 = (rdF txt len (ds.drop k.toNat) p9 w9).2 ∧ c9 = wrL f b pre
theorem rdI_0 {txt : Int → Int} {len : Int} {ds : List Int} {p w b : Int} {f : Int → Int} : rdI txt len ds p w f b 0 p w f := ⟨[], rfl, rfl, rfl, (wrL_nil f b).symm⟩
theorem rdI_s {txt : Int → Int} {len : Int} {ds : List Int} {p w b k p9 w9 z p1 w1 d at9 : Int} {f c9 : Int → Int} (h : rdI txt len ds p w f b k p9 w9 c9) (k0 : 0 ≤ k) (hk : k < (ds.length : Nat)) (hr : rnP txt len p9 w9 (d - 48) z p1 w1) (hd : d = ds.getD k.toNat 0) (ha : at9 = b + k) : rdI txt len ds p w f b (k + 1) p1 w1 (zU c9 at9 z) := by
  obtain ⟨pre, h1, h2, h3, h4⟩ := h
  have e : ds.drop k.toNat = ds.getD k.toNat 0 :: ds.drop (k + 1).toNat := by
    rw [drop_at (by omega), show (k + 1).toNat = k.toNat + 1 by omega]
  have r := rnP_F hr
  rw [hd] at r
  have e2 : rdF txt len (ds.drop k.toNat) p9 w9 = (z :: (rdF txt len (ds.drop (k + 1).toNat) p1 w1).1, (rdF txt len (ds.drop (k + 1).toNat) p1 w1).2) := by
    rw [e]
    show ((rnF txt len p9 w9 (ds.getD k.toNat 0 - 48)).1 :: (rdF txt len (ds.drop (k + 1).toNat) (rnF txt len p9 w9 (ds.getD k.toNat 0 - 48)).2.1 (rnF txt len p9 w9 (ds.getD k.toNat 0 - 48)).2.2).1, (rdF txt len (ds.drop (k + 1).toNat) (rnF txt len p9 w9 (ds.getD k.toNat 0 - 48)).2.1 (rnF txt len p9 w9 (ds.getD k.toNat 0 - 48)).2.2).2) = _
    rw [r]
  rw [e2] at h2 h3
  refine ⟨pre ++ [z], ?_, ?_, h3, ?_⟩
  · rw [List.length_append]
    show ((pre.length + 1 : Nat) : Int) = k + 1
    omega
  · rw [h2, List.append_assoc]
    rfl
  · rw [wrL_app, h4, ha, h1]
theorem rdI_e {txt : Int → Int} {len : Int} {ds : List Int} {p w b k p9 w9 : Int} {f c9 : Int → Int} (h : rdI txt len ds p w f b k p9 w9 c9) (hk : k = (ds.length : Nat)) : c9 = wrL f b (rdF txt len ds p w).1 ∧ p9 = (rdF txt len ds p w).2.1 ∧ w9 = (rdF txt len ds p w).2.2 := by
  obtain ⟨pre, h1, h2, h3, h4⟩ := h
  have e : ds.drop k.toNat = [] := List.drop_eq_nil_of_le (by omega)
  rw [e] at h2 h3
  have h2 : (rdF txt len ds p w).1 = pre ++ [] := h2
  rw [List.append_nil] at h2
  refine ⟨by rw [h2]; exact h4, ?_, ?_⟩
  · rw [h3]; rfl
  · rw [h3]; rfl
def rdP (txt : Int → Int) (len p w : Int) (wi di : Nat) (f : Int → Int) (b p' w' : Int) (c' : Int → Int) : Prop := ∃ p1 w1, skP txt len p wi w p1 w1 ∧ c' = wrL f b (rdF txt len (sTx.getD di []) p1 w1).1 ∧ p' = (rdF txt len (sTx.getD di []) p1 w1).2.1 ∧ w' = (rdF txt len (sTx.getD di []) p1 w1).2.2
set_option maxHeartbeats 4000000 in
set_option maxRecDepth 100000 in
theorem c_X11_reads (l : Launch) (K : Nat → Nat) (D : va_G) (tA : Nat → ClassId) (a0 a1 a2 a3 a4 a5 a6 a7 a8 a9 a10 : Nat) (sz : Nat) (ms : Int → Int) (mbef : Int → Int) (msav : Int → Int) (misv : Int) (mpast : Int → Int) (mpm : Int) (mthr : Int) (mways : Int → Int) (mnds : Int → Int) (mtkp : Int → Int) (mline : Int → Int) (mlm : Int) (mtxt : Int → Int) (mlen : Int) (mat : Int) (mwr : Int) (merr : Int) (mfail : Int) (mcmd : Int → Int) (mcm : Int) (wi : Nat) (di : Nat) (kd : Int) (r_kd : -2147483648 ≤ kd ∧ kd ≤ 2147483647) (hwi : wi < 15) (hdi : 8 ≤ di ∧ di < 14) (hln : 0 ≤ mlen ∧ mlen ≤ 60) (htx : ∀ j, 0 ≤ j → j < mlen → 0 ≤ mtxt j ∧ mtxt j ≤ 65535) (hat : 0 ≤ mat ∧ mat ≤ mlen) (hw : mwr = 0 ∨ mwr = 1) (hcm : 0 ≤ mcm ∧ mcm < 60) : zCv l yX11_reads wsX11_reads ({ frames := 6, cells := 0, slots := 0, locals := 130 }) K D tA [.ref a0, .int (iI kd), .ref (K (100 + wi)), .ref (K (100 + di))] (bModel tA a0 a1 a2 a3 a4 a5 a6 a7 a8 a9 a10 ms mbef msav misv mpast mpm mthr mways mnds mtkp mline mlm mtxt mlen mat mwr merr mfail mcmd mcm) sz (fun (u : (Int → Int) × (Int) × (Int)) => (rdP mtxt mlen mat mwr wi di (zU mcmd (5 * mcm) kd) (5 * mcm + 1) u.2.1 u.2.2 u.1) ∧ (0 ≤ u.2.1 ∧ u.2.1 ≤ mlen ∧ (u.2.2 = 0 ∨ u.2.2 = 1))) (fun (u : (Int → Int) × (Int) × (Int)) => bModel tA a0 a1 a2 a3 a4 a5 a6 a7 a8 a9 a10 ms mbef msav misv mpast mpm mthr mways mnds mtkp mline mlm mtxt mlen u.2.1 u.2.2 merr mfail u.1 (mcm + 1)) 0 0 := by
  refine zCv_of (cc := cX11_reads) (maxL := 6) (by decide) rfl (Nat.le_of_ble_eq_true rfl) ?_
  intro p e s m args below meth c A Q ls hx hb hml hts hown hK hP hD hA hCn hret hl
  obtain ⟨H, hHe⟩ : ∃ H : Heap, H = s.heap := ⟨_, rfl⟩
  have hS : va_S A s.heap H [] := by rw [hHe]; exact va_S.rf
  rw [← hHe] at hP ⊢
  have hl : lv_has ls 6 [(0, .ref a0), (1, .int (iI kd)), (2, .ref (K (100 + wi))), (3, .ref (K (100 + di)))] := hl
  have iX11 : ∀ v ∈ wsX110, v ∈ wsX11_reads := by decide +kernel
  have f_46 := hts (.fieldLink RX11 46 "HarborLightsModel" "commands" "[I") (by decide +kernel)
  have f_236 := hts (.fieldLink RX11 236 "HarborLightsModel" "commandMany" "I") (by decide +kernel)
  have hd4 := dg4 hdi.1 hdi.2
  have hdi2 : di < 15 := by omega
  refine zz_iconst hx hb dX11_reads_0 ?_
  refine lv_aload_n hx hb dX11_reads_1 rfl (lv_at hl 0 rfl) ?_
  refine va_get (D := D) (ci := 13) (v := .int (iI mcm)) (C := RX11) (T := TX11) (N := 20) hx hb hts iX11 hown hK hP 0 rfl rfl 19 (by decide) f_236 (fun _ h9 => h9) rfl dX11_reads_2 ?_
  refine zz_imul hx hb dX11_reads_5 ?_
  refine lv_istore (lv' := [(4, .int (iI (5 * mcm))), (0, .ref a0), (1, .int (iI kd)), (2, .ref (K (100 + wi))), (3, .ref (K (100 + di)))]) hx hb dX11_reads_6 hl (by decide) rfl (fun ls hl => ?_)
  refine lv_aload_n hx hb dX11_reads_8 rfl (lv_at hl 1 rfl) ?_
  refine va_get (D := D) (ci := 13) (v := .ref a10) (C := RX11) (T := TX11) (N := 20) hx hb hts iX11 hown hK hP 0 rfl rfl 18 (by decide) f_46 (fun _ h9 => h9) rfl dX11_reads_9 ?_
  refine lv_iload hx hb dX11_reads_12 (lv_at hl 0 rfl) ?_
  refine lv_iload_n hx hb dX11_reads_14 rfl (lv_at hl 2 rfl) ?_
  refine zz_iast hx hb hK hP hD hS 10 rfl (by decide) (by omega) dX11_reads_15 (fun H locs hP hD hS => ?_)
  have hP : va_P D vwCl (bModel tA a0 a1 a2 a3 a4 a5 a6 a7 a8 a9 a10 ms mbef msav misv mpast mpm mthr mways mnds mtkp mline mlm mtxt mlen mat mwr merr mfail (zU mcmd (5 * mcm) kd) mcm) H := hP
  have hD : va_D A (bModel tA a0 a1 a2 a3 a4 a5 a6 a7 a8 a9 a10 ms mbef msav misv mpast mpm mthr mways mnds mtkp mline mlm mtxt mlen mat mwr merr mfail (zU mcmd (5 * mcm) kd) mcm) := hD
  refine lv_aload_n hx hb dX11_reads_16 rfl (lv_at hl 1 rfl) ?_
  refine lv_dup hx hb dX11_reads_17 rfl ?_
  refine va_get (D := D) (ci := 13) (v := .int (iI mcm)) (C := RX11) (T := TX11) (N := 20) hx hb hts iX11 hown hK hP 0 rfl rfl 19 (by decide) f_236 (fun _ h9 => h9) rfl dX11_reads_18 ?_
  refine zz_iconst hx hb dX11_reads_21 ?_
  refine zz_iadd hx hb dX11_reads_22 ?_
  refine va_put (D := D) (ci := 13) (v := .int (iI (mcm + 1))) (ty := .int) (C := RX11) (T := TX11) (N := 20) hx hb hts iX11 tyX11 tyX11_ok nmX11 hown hK hP hD hS 0 rfl rfl 19 (by decide) f_236 (fun _ h9 => h9) rfl (by decide +kernel) rfl rfl (Nat.le_of_ble_eq_true rfl) dX11_reads_23 (fun H locs hP hD hS => ?_)
  have hP : va_P D vwCl (bModel tA a0 a1 a2 a3 a4 a5 a6 a7 a8 a9 a10 ms mbef msav misv mpast mpm mthr mways mnds mtkp mline mlm mtxt mlen mat mwr merr mfail (zU mcmd (5 * mcm) kd) (mcm + 1)) H := hP
  have hD : va_D A (bModel tA a0 a1 a2 a3 a4 a5 a6 a7 a8 a9 a10 ms mbef msav misv mpast mpm mthr mways mnds mtkp mline mlm mtxt mlen mat mwr merr mfail (zU mcmd (5 * mcm) kd) (mcm + 1)) := hD
  refine lv_aload_n hx hb dX11_reads_26 rfl (lv_at hl 1 rfl) ?_
  refine lv_aload_n hx hb dX11_reads_27 rfl (lv_at hl 3 rfl) ?_
  refine zc_callVv (As := [.ref (K (100 + wi))]) (rest := []) (wf := fun u => bModel tA a0 a1 a2 a3 a4 a5 a6 a7 a8 a9 a10 ms mbef msav misv mpast mpm mthr mways mnds mtkp mline mlm mtxt mlen u.1 u.2 merr mfail (zU mcmd (5 * mcm) kd) (mcm + 1)) ⟨hx, hb, hml, hown, hts⟩ (c_X11_skip l K D tA a0 a1 a2 a3 a4 a5 a6 a7 a8 a9 a10 H.size ms mbef msav misv mpast mpm mthr mways mnds mtkp mline mlm mtxt mlen mat mwr merr mfail (zU mcmd (5 * mcm) kd) (mcm + 1) wi (by first | assumption | omega) (by first | assumption | omega) (by first | assumption | omega) (by first | assumption | omega) (by first | assumption | omega)) (cwV 1 hts gX11_reads_X11_skip rfl rfl rfl (by decide +kernel) ⟨Nat.le_of_ble_eq_true rfl, Nat.le_of_ble_eq_true rfl⟩) hK hP hD hS hA hCn [0, 1, 2, 3, 4, 5, 6, 7, 8, 9, 10] [] [0, 1, 2, 3, 4, 5, 6, 7, 8, 9, 10] rfl rfl (by decide) (by decide) (by decide) (by decide) (fun _ => rfl) (ci := 13) (q0 := 0) rfl rfl rfl rfl rfl hl.1 (Nat.le_of_ble_eq_true rfl) dX11_reads_28 ⟨Nat.le_of_ble_eq_true rfl, Nat.le_of_ble_eq_true rfl⟩ ?_
  intro u H locs p28_3 hP hD hS
  obtain ⟨mat_1, mwr_2⟩ := u
  have hP : va_P D vwCl (bModel tA a0 a1 a2 a3 a4 a5 a6 a7 a8 a9 a10 ms mbef msav misv mpast mpm mthr mways mnds mtkp mline mlm mtxt mlen mat_1 mwr_2 merr mfail (zU mcmd (5 * mcm) kd) (mcm + 1)) H := hP
  have hD : va_D A (bModel tA a0 a1 a2 a3 a4 a5 a6 a7 a8 a9 a10 ms mbef msav misv mpast mpm mthr mways mnds mtkp mline mlm mtxt mlen mat_1 mwr_2 merr mfail (zU mcmd (5 * mcm) kd) (mcm + 1)) := hD
  have q_28 : skP mtxt mlen mat wi mwr mat_1 mwr_2 := p28_3.1
  have q2_28 : 0 ≤ mat_1 ∧ mat_1 ≤ mlen ∧ (mwr_2 = 0 ∨ mwr_2 = 1) := p28_3.2
  refine zz_iconst hx hb dX11_reads_31 ?_
  refine lv_istore (lv' := [(5, .int (iI 0)), (4, .int (iI (5 * mcm))), (0, .ref a0), (1, .int (iI kd)), (2, .ref (K (100 + wi))), (3, .ref (K (100 + di)))]) hx hb dX11_reads_32 hl (by decide) rfl (fun ls hl => ?_)
  have L34 : ∀ (n : Nat) (k : Int) (c9 : Int → Int) (p9 : Int) (w9 : Int) (H : Heap) (locs : List Loc) (ls : Array Slot), (0 ≤ k ∧ k ≤ ((sLn di : Nat) : Int)) → (rdI mtxt mlen (sTx.getD di []) mat_1 mwr_2 (zU mcmd (5 * mcm) kd) (5 * mcm + 1) k p9 w9 c9) → (0 ≤ p9 ∧ p9 ≤ mlen ∧ (w9 = 0 ∨ w9 = 1)) → (((sLn di : Nat) : Int) - k).toNat < n → va_P D vwCl (bModel tA a0 a1 a2 a3 a4 a5 a6 a7 a8 a9 a10 ms mbef msav misv mpast mpm mthr mways mnds mtkp mline mlm mtxt mlen p9 w9 merr mfail c9 (mcm + 1)) H → va_D A (bModel tA a0 a1 a2 a3 a4 a5 a6 a7 a8 a9 a10 ms mbef msav misv mpast mpm mthr mways mnds mtkp mline mlm mtxt mlen p9 w9 merr mfail c9 (mcm + 1)) → va_S A s.heap H locs → lv_has ls 6 [(5, .int (iI k)), (4, .int (iI (5 * mcm))), (0, .ref a0), (1, .int (iI kd)), (2, .ref (K (100 + wi))), (3, .ref (K (100 + di)))] → W p l e (headSpec wsX11_reads ({ frames := 6, cells := 0, slots := 0, locals := 130 })).room s m args below meth c H locs 0 0 Q (F0 m 34 ls []) := by
    intro n
    induction n with
    | zero => intro k c9 p9 w9 H locs ls i0 i1 i2 hmz; exact absurd hmz (Nat.not_lt_zero _)
    | succ n ih34 =>
      intro k c9 p9 w9 H locs ls i0 i1 i2 hmz hP hD hS hl
      refine lv_iload hx hb dX11_reads_34 (lv_at hl 0 rfl) ?_
      refine lv_aload_n hx hb dX11_reads_36 rfl (lv_at hl 5 rfl) ?_
      refine zc_callOi (As := []) (rest := [.int (iI k)]) (wf := fun u => bModel tA a0 a1 a2 a3 a4 a5 a6 a7 a8 a9 a10 ms mbef msav misv mpast mpm mthr mways mnds mtkp mline mlm mtxt mlen p9 w9 merr mfail c9 (mcm + 1)) ⟨hx, hb, hml, hown, hts⟩ (c_J0_length_8abf5 l K D tA  H.size di (by first | assumption | omega)) (cwV 0 hts gX11_reads_J0_length_8abf5 rfl rfl rfl (by decide +kernel) ⟨Nat.le_of_ble_eq_true rfl, Nat.le_of_ble_eq_true rfl⟩) hK hP hD hS hA hCn [] [0, 1, 2, 3, 4, 5, 6, 7, 8, 9, 10] [0, 1, 2, 3, 4, 5, 6, 7, 8, 9, 10] rfl rfl (by decide) (by decide) (by decide) (by decide) (fun _ => rfl) (hCn.1.2.2 di (by omega)).1 rfl rfl hl.1 (Nat.le_of_ble_eq_true rfl) dX11_reads_37 ⟨Nat.le_of_ble_eq_true rfl, Nat.le_of_ble_eq_true rfl⟩ ?_
      intro z37_4 u H locs p37_5 hP hD hS
      have hP : va_P D vwCl (bModel tA a0 a1 a2 a3 a4 a5 a6 a7 a8 a9 a10 ms mbef msav misv mpast mpm mthr mways mnds mtkp mline mlm mtxt mlen p9 w9 merr mfail c9 (mcm + 1)) H := hP
      have hD : va_D A (bModel tA a0 a1 a2 a3 a4 a5 a6 a7 a8 a9 a10 ms mbef msav misv mpast mpm mthr mways mnds mtkp mline mlm mtxt mlen p9 w9 merr mfail c9 (mcm + 1)) := hD
      have q_37 : z37_4 = ((sLn di : Nat) : Int) := p37_5
      refine zz_icmp_ge (tgt := 74) hx hb dX11_reads_40 (by decide) (by omega) (by omega) (fun c_40 => ?_) (fun c_40 => ?_)
      · exact hret (c9, p9, w9) _ _ _ _ dX11_reads_74 ⟨(show rdP mtxt mlen mat mwr wi di (zU mcmd (5 * mcm) kd) (5 * mcm + 1) p9 w9 c9 from by exact ⟨_, _, q_28, rdI_e i1 (show k = ((sTx.getD di []).length : Nat) by have h9 : ((sLn di : Nat) : Int) = ((sTx.getD di []).length : Nat) := rfl; omega)⟩), (show 0 ≤ p9 ∧ p9 ≤ mlen ∧ (w9 = 0 ∨ w9 = 1) from by exact i2)⟩ hP hD hS
      · refine lv_aload_n hx hb dX11_reads_43 rfl (lv_at hl 2 rfl) ?_
        refine va_get (D := D) (ci := 13) (v := .ref a10) (C := RX11) (T := TX11) (N := 20) hx hb hts iX11 hown hK hP 0 rfl rfl 18 (by decide) f_46 (fun _ h9 => h9) rfl dX11_reads_44 ?_
        refine lv_iload hx hb dX11_reads_47 (lv_at hl 1 rfl) ?_
        refine zz_iconst hx hb dX11_reads_49 ?_
        refine zz_iadd hx hb dX11_reads_50 ?_
        refine lv_iload hx hb dX11_reads_51 (lv_at hl 0 rfl) ?_
        refine zz_iadd hx hb dX11_reads_53 ?_
        refine lv_aload_n hx hb dX11_reads_54 rfl (lv_at hl 2 rfl) ?_
        refine lv_aload_n hx hb dX11_reads_55 rfl (lv_at hl 5 rfl) ?_
        refine lv_iload hx hb dX11_reads_56 (lv_at hl 0 rfl) ?_
        refine zc_callOi (As := [.int (iI k)]) (rest := [.ref a0, .int (iI (((5 * mcm) + 1) + k)), .ref a10]) (wf := fun u => bModel tA a0 a1 a2 a3 a4 a5 a6 a7 a8 a9 a10 ms mbef msav misv mpast mpm mthr mways mnds mtkp mline mlm mtxt mlen p9 w9 merr mfail c9 (mcm + 1)) ⟨hx, hb, hml, hown, hts⟩ (c_J0_charAt_5068e l K D tA  H.size di k (by first | assumption | omega) (by first | assumption | omega) (by first | assumption | omega)) (cwV 1 hts gX11_reads_J0_charAt_5068e rfl rfl rfl (by decide +kernel) ⟨Nat.le_of_ble_eq_true rfl, Nat.le_of_ble_eq_true rfl⟩) hK hP hD hS hA hCn [] [0, 1, 2, 3, 4, 5, 6, 7, 8, 9, 10] [0, 1, 2, 3, 4, 5, 6, 7, 8, 9, 10] rfl rfl (by decide) (by decide) (by decide) (by decide) (fun _ => rfl) (hCn.1.2.2 di (by omega)).1 rfl rfl hl.1 (Nat.le_of_ble_eq_true rfl) dX11_reads_58 ⟨Nat.le_of_ble_eq_true rfl, Nat.le_of_ble_eq_true rfl⟩ ?_
        intro z58_6 u H locs p58_7 hP hD hS
        have hP : va_P D vwCl (bModel tA a0 a1 a2 a3 a4 a5 a6 a7 a8 a9 a10 ms mbef msav misv mpast mpm mthr mways mnds mtkp mline mlm mtxt mlen p9 w9 merr mfail c9 (mcm + 1)) H := hP
        have hD : va_D A (bModel tA a0 a1 a2 a3 a4 a5 a6 a7 a8 a9 a10 ms mbef msav misv mpast mpm mthr mways mnds mtkp mline mlm mtxt mlen p9 w9 merr mfail c9 (mcm + 1)) := hD
        have q_58 : z58_6 = sCh di k := p58_7.1
        have q2_58 : 0 ≤ z58_6 ∧ z58_6 ≤ 126 := p58_7.2
        have hdc := dgc hdi.1 hdi.2 k.toNat (by omega)
        rw [show (((k.toNat : Nat) : Int)) = k by omega, ← q_58] at hdc
        refine zz_bipush hx hb dX11_reads_61 (by decide) ?_
        refine zz_isub hx hb dX11_reads_63 ?_
        refine zc_callVi (As := [.int (iI (z58_6 - 48))]) (rest := [.int (iI (((5 * mcm) + 1) + k)), .ref a10]) (wf := fun u => bModel tA a0 a1 a2 a3 a4 a5 a6 a7 a8 a9 a10 ms mbef msav misv mpast mpm mthr mways mnds mtkp mline mlm mtxt mlen u.1 u.2 merr mfail c9 (mcm + 1)) ⟨hx, hb, hml, hown, hts⟩ (c_X11_readNumber l K D tA a0 a1 a2 a3 a4 a5 a6 a7 a8 a9 a10 H.size ms mbef msav misv mpast mpm mthr mways mnds mtkp mline mlm mtxt mlen p9 w9 merr mfail c9 (mcm + 1) (z58_6 - 48) (by first | assumption | omega) (by first | assumption | omega) (by first | assumption | omega) (by first | assumption | omega) (by first | assumption | omega) (by first | assumption | omega)) (cwV 1 hts gX11_reads_X11_readNumber rfl rfl rfl (by decide +kernel) ⟨Nat.le_of_ble_eq_true rfl, Nat.le_of_ble_eq_true rfl⟩) hK hP hD hS hA hCn [0, 1, 2, 3, 4, 5, 6, 7, 8, 9, 10] [] [0, 1, 2, 3, 4, 5, 6, 7, 8, 9, 10] rfl rfl (by decide) (by decide) (by decide) (by decide) (fun _ => rfl) (ci := 13) (q0 := 0) rfl rfl rfl rfl rfl hl.1 (Nat.le_of_ble_eq_true rfl) dX11_reads_64 ⟨Nat.le_of_ble_eq_true rfl, Nat.le_of_ble_eq_true rfl⟩ ?_
        intro z64_10 u H locs p64_11 hP hD hS
        obtain ⟨mat_8, mwr_9⟩ := u
        have hP : va_P D vwCl (bModel tA a0 a1 a2 a3 a4 a5 a6 a7 a8 a9 a10 ms mbef msav misv mpast mpm mthr mways mnds mtkp mline mlm mtxt mlen mat_8 mwr_9 merr mfail c9 (mcm + 1)) H := hP
        have hD : va_D A (bModel tA a0 a1 a2 a3 a4 a5 a6 a7 a8 a9 a10 ms mbef msav misv mpast mpm mthr mways mnds mtkp mline mlm mtxt mlen mat_8 mwr_9 merr mfail c9 (mcm + 1)) := hD
        have q_64 : rnP mtxt mlen p9 w9 (z58_6 - 48) z64_10 mat_8 mwr_9 := p64_11.1
        have q2_64 : 0 ≤ mat_8 ∧ mat_8 ≤ mlen ∧ (mwr_9 = 0 ∨ mwr_9 = 1) := p64_11.2
        refine zz_iast hx hb hK hP hD hS 10 rfl (by decide) (by omega) dX11_reads_67 (fun H locs hP hD hS => ?_)
        have hP : va_P D vwCl (bModel tA a0 a1 a2 a3 a4 a5 a6 a7 a8 a9 a10 ms mbef msav misv mpast mpm mthr mways mnds mtkp mline mlm mtxt mlen mat_8 mwr_9 merr mfail (zU c9 (((5 * mcm) + 1) + k) z64_10) (mcm + 1)) H := hP
        have hD : va_D A (bModel tA a0 a1 a2 a3 a4 a5 a6 a7 a8 a9 a10 ms mbef msav misv mpast mpm mthr mways mnds mtkp mline mlm mtxt mlen mat_8 mwr_9 merr mfail (zU c9 (((5 * mcm) + 1) + k) z64_10) (mcm + 1)) := hD
        refine zz_iinc (lv' := [(5, .int (iI (k + 1))), (4, .int (iI (5 * mcm))), (0, .ref a0), (1, .int (iI kd)), (2, .ref (K (100 + wi))), (3, .ref (K (100 + di)))]) hx hb dX11_reads_68 hl (k := 0) rfl (by decide) rfl (fun ls hl => ?_)
        refine lv_goto (tgt := 34) hx hb dX11_reads_71 (by decide) ?_
        exact ih34 (k + 1) (zU c9 (((5 * mcm) + 1) + k) z64_10) mat_8 mwr_9 _ _ _ (by omega) (by exact rdI_s i1 (by omega) (by have h9 : ((sLn di : Nat) : Int) = ((sTx.getD di []).length : Nat) := rfl; omega) q_64 (by rw [q_58]; rfl) (by omega)) (by exact q2_64) (by omega) hP hD hS (lv_sub hl [0, 1, 2, 3, 4, 5] rfl)
  exact L34 _ 0 (zU mcmd (5 * mcm) kd) mat_1 mwr_2 _ _ _ (by omega) (by exact rdI_0) (by exact q2_28) (Nat.lt_succ_self _) hP hD hS (lv_sub hl [0, 1, 2, 3, 4, 5] rfl)
