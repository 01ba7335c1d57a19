/-! ===== HarborLightsModel, 3 ===== -/
set_option maxHeartbeats 4000000 in
set_option maxRecDepth 100000 in
theorem c_X11_cost (l : Launch) (D : va_G) (tA : Nat → ClassId) (sz : Nat) (r : Int) (r_r : -2147483648 ≤ r ∧ r ≤ 2147483647) : zMi l yX11_cost wsX11_cost ({ frames := 0, cells := 0, slots := 0, locals := 0 }) D tA [.int (iI r)] ([]) sz (fun (z : Int) (u : Unit) => (z = 60 * r * r)) (fun (u : Unit) => []) 0 0 := by
  refine zMi_of (cc := cX11_cost) (maxL := 1) (by decide) rfl (fun z u h => rfl) (Nat.le_of_ble_eq_true rfl) ?_
  intro p e s m args below meth c A Q ls hx hb hml hts hown hK hP hD hA hret hl
  obtain ⟨H, hHe⟩ : ∃ H : Heap, H = s.heap := ⟨_, rfl⟩
  have hS : va_S A s.heap H [] := by rw [hHe]; exact va_S.rf
  rw [← hHe] at hP ⊢
  have hl : lv_has ls 1 [(0, .int (iI r))] := hl
  refine zz_bipush hx hb dX11_cost_0 (by decide) ?_
  refine lv_iload_n hx hb dX11_cost_2 rfl (lv_at hl 0 rfl) ?_
  refine zz_imul hx hb dX11_cost_3 ?_
  refine lv_iload_n hx hb dX11_cost_4 rfl (lv_at hl 0 rfl) ?_
  refine zz_imul hx hb dX11_cost_5 ?_
  exact hret ((60 * r) * r) () _ _ _ _ dX11_cost_6 (show ((60 * r) * r) = 60 * r * r from by rfl) hP hD hS

set_option maxHeartbeats 4000000 in
set_option maxRecDepth 100000 in
theorem c_X11_findsNeeds (l : Launch) (D : va_G) (tA : Nat → ClassId) (a0 a1 a2 a3 a4 a5 a6 a7 a8 a9 a10 : Nat) (sz : Nat) (ms : Int → Int) (mbef : Int → Int) (msav : Int → Int) (misv : Int) (mpast : Int → Int) (mpm : Int) (mthr : Int) (mways : Int → Int) (mnds : Int → Int) (mtkp : Int → Int) (mline : Int → Int) (mlm : Int) (mtxt : Int → Int) (mlen : Int) (mat : Int) (mwr : Int) (merr : Int) (mfail : Int) (mcmd : Int → Int) (mcm : Int) (hm : MV ms) : zMv l yX11_findsNeeds wsX11_findsNeeds ({ frames := 2, cells := 0, slots := 0, locals := 46 }) D tA [.ref a0] (bModel tA a0 a1 a2 a3 a4 a5 a6 a7 a8 a9 a10 ms mbef msav misv mpast mpm mthr mways mnds mtkp mline mlm mtxt mlen mat mwr merr mfail mcmd mcm) sz (fun (u : (Int → Int) × (Int → Int) × (Int → Int)) => (gatM ms u.2.2 u.2.1)) (fun (u : (Int → Int) × (Int → Int) × (Int → Int)) => bModel tA a0 a1 a2 a3 a4 a5 a6 a7 a8 a9 a10 ms mbef msav misv mpast mpm mthr u.1 u.2.1 u.2.2 mline mlm mtxt mlen mat mwr merr mfail mcmd mcm) 0 0 := by
  refine zMv_of (cc := cX11_findsNeeds) (maxL := 2) (by decide) rfl (Nat.le_of_ble_eq_true rfl) ?_
  intro p e s m args below meth c A Q ls hx hb hml hts hown hK hP hD hA hret hl
  obtain ⟨H, hHe⟩ : ∃ H : Heap, H = s.heap := ⟨_, rfl⟩
  have hS : va_S A s.heap H [] := by rw [hHe]; exact va_S.rf
  rw [← hHe] at hP ⊢
  have hl : lv_has ls 2 [(0, .ref a0)] := hl
  have iX11 : ∀ v ∈ wsX110, v ∈ wsX11_findsNeeds := by decide +kernel
  have f_9 := hts (.fieldLink RX11 9 "HarborLightsModel" "s" "[I") (by decide +kernel)
  have f_22 := hts (.fieldLink RX11 22 "HarborLightsModel" "ways" "[I") (by decide +kernel)
  have f_25 := hts (.fieldLink RX11 25 "HarborLightsModel" "needs" "[I") (by decide +kernel)
  have f_28 := hts (.fieldLink RX11 28 "HarborLightsModel" "takesPart" "[Z") (by decide +kernel)
  obtain ⟨⟨mp0, mp1, mc0, mc1, mf0, mf1, mr0, mr1⟩, hlr, mL, mS⟩ := id hm
  refine lv_aload_n hx hb dX11_findsNeeds_0 rfl (lv_at hl 0 rfl) ?_
  refine zz_callVv (As := []) (rest := []) (wf := fun u => bModel tA a0 a1 a2 a3 a4 a5 a6 a7 a8 a9 a10 ms mbef msav misv mpast mpm mthr u mnds mtkp mline mlm mtxt mlen mat mwr merr mfail mcmd mcm) ⟨hx, hb, hml, hown, hts⟩ (c_X11_findsRanges l D tA a0 a1 a2 a3 a4 a5 a6 a7 a8 a9 a10 H.size ms mbef msav misv mpast mpm mthr mways mnds mtkp mline mlm mtxt mlen mat mwr merr mfail mcmd mcm (by first | assumption | omega)) (cwV 0 hts gX11_findsNeeds_X11_findsRanges rfl rfl rfl (by decide +kernel) ⟨Nat.le_of_ble_eq_true rfl, Nat.le_of_ble_eq_true rfl⟩) hK hP hD hS hA [0, 1, 2, 3, 4, 5, 6, 7, 8, 9, 10] [] [0, 1, 2, 3, 4, 5, 6, 7, 8, 9, 10] rfl rfl (by decide) (by decide) (by decide) (by decide) (fun _ => rfl) (ci := 13) (q0 := 0) rfl rfl rfl rfl rfl hl.1 (Nat.le_of_ble_eq_true rfl) dX11_findsNeeds_1 ⟨Nat.le_of_ble_eq_true rfl, Nat.le_of_ble_eq_true rfl⟩ ?_
  intro u H locs p1_2 hP hD hS
  obtain ⟨mways_1, rfl⟩ : ∃ q, q = u := ⟨_, rfl⟩
  have hP : va_P D vwCl (bModel tA a0 a1 a2 a3 a4 a5 a6 a7 a8 a9 a10 ms mbef msav misv mpast mpm mthr mways_1 mnds mtkp mline mlm mtxt mlen mat mwr merr mfail mcmd mcm) H := hP
  have hD : va_D A (bModel tA a0 a1 a2 a3 a4 a5 a6 a7 a8 a9 a10 ms mbef msav misv mpast mpm mthr mways_1 mnds mtkp mline mlm mtxt mlen mat mwr merr mfail mcmd mcm) := hD
  have q_1 : ∀ a b, 0 ≤ a → a < 10 → 0 ≤ b → b < 10 → a ≠ b → rngP (egM ms) a b (mways_1 (10 * a + b)) := p1_2
  refine zz_iconst hx hb dX11_findsNeeds_4 ?_
  refine lv_istore_n (lv' := [(1, .int (iI 0)), (0, .ref a0)]) hx hb dX11_findsNeeds_5 rfl hl (by decide) rfl (fun ls hl => ?_)
  have L6 : ∀ (n : Nat) (k : Int) (n9 : Int → Int) (t9 : Int → Int) (H : Heap) (locs : List Loc) (ls : Array Slot), (0 ≤ k ∧ k ≤ ms 1) → (∀ j, 0 ≤ j → j < k → rngP (egM ms) (suM ms j 0) (suM ms j 1) (n9 j) ∧ t9 j = if n9 j < 100000 then 1 else 0) → (ms 1 - k).toNat < n → va_P D vwCl (bModel tA a0 a1 a2 a3 a4 a5 a6 a7 a8 a9 a10 ms mbef msav misv mpast mpm mthr mways_1 n9 t9 mline mlm mtxt mlen mat mwr merr mfail mcmd mcm) H → va_D A (bModel tA a0 a1 a2 a3 a4 a5 a6 a7 a8 a9 a10 ms mbef msav misv mpast mpm mthr mways_1 n9 t9 mline mlm mtxt mlen mat mwr merr mfail mcmd mcm) → va_S A s.heap H locs → lv_has ls 2 [(1, .int (iI k)), (0, .ref a0)] → W p l e (headSpec wsX11_findsNeeds ({ frames := 2, cells := 0, slots := 0, locals := 46 })).room s m args below meth c H locs 0 0 Q (F0 m 6 ls []) := by
    intro n
    induction n with
    | zero => intro k n9 t9 H locs ls i0 i1 hmz; exact absurd hmz (Nat.not_lt_zero _)
    | succ n ih6 =>
      intro k n9 t9 H locs ls i0 i1 hmz hP hD hS hl
      refine lv_iload_n hx hb dX11_findsNeeds_6 rfl (lv_at hl 0 rfl) ?_
      refine lv_aload_n hx hb dX11_findsNeeds_7 rfl (lv_at hl 1 rfl) ?_
      refine va_get (D := D) (ci := 13) (v := .ref a1) (C := RX11) (T := TX11) (N := 20) hx hb hts iX11 hown hK hP 0 rfl rfl 0 (by decide) f_9 (fun _ h9 => h9) rfl dX11_findsNeeds_8 ?_
      refine zz_iconst hx hb dX11_findsNeeds_11 ?_
      refine zz_iald hx hb hK hP 1 rfl (by decide) (by omega) dX11_findsNeeds_12 ?_
      refine zz_icmp_ge (tgt := 71) hx hb dX11_findsNeeds_13 (by decide) (by omega) (by omega) (fun c_13 => ?_) (fun c_13 => ?_)
      · exact hret (mways_1, n9, t9) _ _ _ _ dX11_findsNeeds_71 (show gatM ms t9 n9 from by exact fun j j0 j1 => i1 j j0 (by omega)) hP hD hS
      · refine lv_aload_n hx hb dX11_findsNeeds_16 rfl (lv_at hl 1 rfl) ?_
        refine va_get (D := D) (ci := 13) (v := .ref a6) (C := RX11) (T := TX11) (N := 20) hx hb hts iX11 hown hK hP 0 rfl rfl 8 (by decide) f_25 (fun _ h9 => h9) rfl dX11_findsNeeds_17 ?_
        refine lv_iload_n hx hb dX11_findsNeeds_20 rfl (lv_at hl 0 rfl) ?_
        refine lv_aload_n hx hb dX11_findsNeeds_21 rfl (lv_at hl 1 rfl) ?_
        refine va_get (D := D) (ci := 13) (v := .ref a5) (C := RX11) (T := TX11) (N := 20) hx hb hts iX11 hown hK hP 0 rfl rfl 7 (by decide) f_22 (fun _ h9 => h9) rfl dX11_findsNeeds_22 ?_
        refine zz_bipush hx hb dX11_findsNeeds_25 (by decide) ?_
        refine lv_aload_n hx hb dX11_findsNeeds_27 rfl (lv_at hl 1 rfl) ?_
        have hsx := mS k (by omega) (by omega)
        refine lv_iload_n hx hb dX11_findsNeeds_28 rfl (lv_at hl 0 rfl) ?_
        refine zz_iconst hx hb dX11_findsNeeds_29 ?_
        refine zz_callVi (As := [.int (iI k), .int (iI 0)]) (rest := [.int (iI 10), .ref a5, .int (iI k), .ref a6]) (wf := fun u => bModel tA a0 a1 a2 a3 a4 a5 a6 a7 a8 a9 a10 ms mbef msav misv mpast mpm mthr mways_1 n9 t9 mline mlm mtxt mlen mat mwr merr mfail mcmd mcm) ⟨hx, hb, hml, hown, hts⟩ (c_X11_of l D tA a0 a1 a2 a3 a4 a5 a6 a7 a8 a9 a10 H.size ms mbef msav misv mpast mpm mthr mways_1 n9 t9 mline mlm mtxt mlen mat mwr merr mfail mcmd mcm k 0 (by first | assumption | omega) (by first | assumption | omega) (by first | assumption | omega) (by first | assumption | omega)) (cwV 2 hts gX11_findsNeeds_X11_of rfl rfl rfl (by decide +kernel) ⟨Nat.le_of_ble_eq_true rfl, Nat.le_of_ble_eq_true rfl⟩) hK hP hD hS hA [0, 1, 2, 3, 4, 5, 6, 7, 8, 9, 10] [] [0, 1, 2, 3, 4, 5, 6, 7, 8, 9, 10] rfl rfl (by decide) (by decide) (by decide) (by decide) (fun _ => rfl) (ci := 13) (q0 := 0) rfl rfl rfl rfl rfl hl.1 (Nat.le_of_ble_eq_true rfl) dX11_findsNeeds_30 ⟨Nat.le_of_ble_eq_true rfl, Nat.le_of_ble_eq_true rfl⟩ ?_
        intro z30_3 u H locs p30_4 hP hD hS
        have hP : va_P D vwCl (bModel tA a0 a1 a2 a3 a4 a5 a6 a7 a8 a9 a10 ms mbef msav misv mpast mpm mthr mways_1 n9 t9 mline mlm mtxt mlen mat mwr merr mfail mcmd mcm) H := hP
        have hD : va_D A (bModel tA a0 a1 a2 a3 a4 a5 a6 a7 a8 a9 a10 ms mbef msav misv mpast mpm mthr mways_1 n9 t9 mline mlm mtxt mlen mat mwr merr mfail mcmd mcm) := hD
        have q_30 : z30_3 = suM ms k 0 := p30_4
        refine zz_imul hx hb dX11_findsNeeds_33 ?_
        refine lv_aload_n hx hb dX11_findsNeeds_34 rfl (lv_at hl 1 rfl) ?_
        refine lv_iload_n hx hb dX11_findsNeeds_35 rfl (lv_at hl 0 rfl) ?_
        refine zz_iconst hx hb dX11_findsNeeds_36 ?_
        refine zz_callVi (As := [.int (iI k), .int (iI 1)]) (rest := [.int (iI (10 * z30_3)), .ref a5, .int (iI k), .ref a6]) (wf := fun u => bModel tA a0 a1 a2 a3 a4 a5 a6 a7 a8 a9 a10 ms mbef msav misv mpast mpm mthr mways_1 n9 t9 mline mlm mtxt mlen mat mwr merr mfail mcmd mcm) ⟨hx, hb, hml, hown, hts⟩ (c_X11_of l D tA a0 a1 a2 a3 a4 a5 a6 a7 a8 a9 a10 H.size ms mbef msav misv mpast mpm mthr mways_1 n9 t9 mline mlm mtxt mlen mat mwr merr mfail mcmd mcm k 1 (by first | assumption | omega) (by first | assumption | omega) (by first | assumption | omega) (by first | assumption | omega)) (cwV 2 hts gX11_findsNeeds_X11_of rfl rfl rfl (by decide +kernel) ⟨Nat.le_of_ble_eq_true rfl, Nat.le_of_ble_eq_true rfl⟩) hK hP hD hS hA [0, 1, 2, 3, 4, 5, 6, 7, 8, 9, 10] [] [0, 1, 2, 3, 4, 5, 6, 7, 8, 9, 10] rfl rfl (by decide) (by decide) (by decide) (by decide) (fun _ => rfl) (ci := 13) (q0 := 0) rfl rfl rfl rfl rfl hl.1 (Nat.le_of_ble_eq_true rfl) dX11_findsNeeds_37 ⟨Nat.le_of_ble_eq_true rfl, Nat.le_of_ble_eq_true rfl⟩ ?_
        intro z37_5 u H locs p37_6 hP hD hS
        have hP : va_P D vwCl (bModel tA a0 a1 a2 a3 a4 a5 a6 a7 a8 a9 a10 ms mbef msav misv mpast mpm mthr mways_1 n9 t9 mline mlm mtxt mlen mat mwr merr mfail mcmd mcm) H := hP
        have hD : va_D A (bModel tA a0 a1 a2 a3 a4 a5 a6 a7 a8 a9 a10 ms mbef msav misv mpast mpm mthr mways_1 n9 t9 mline mlm mtxt mlen mat mwr merr mfail mcmd mcm) := hD
        have q_37 : z37_5 = suM ms k 1 := p37_6
        have hrg : rngP (egM ms) (suM ms k 0) (suM ms k 1) (mways_1 (10 * z30_3 + z37_5)) := by rw [q_30, q_37]; exact q_1 (suM ms k 0) (suM ms k 1) (by omega) (by omega) (by omega) (by omega) (by omega)
        have hrn := rngP_in hrg
        refine zz_iadd hx hb dX11_findsNeeds_40 ?_
        refine zz_iald hx hb hK hP 5 rfl (by decide) (by omega) dX11_findsNeeds_41 ?_
        refine zz_iast hx hb hK hP hD hS 6 rfl (by decide) (by omega) dX11_findsNeeds_42 (fun H locs hP hD hS => ?_)
        have hP : va_P D vwCl (bModel tA a0 a1 a2 a3 a4 a5 a6 a7 a8 a9 a10 ms mbef msav misv mpast mpm mthr mways_1 (zU n9 k (mways_1 ((10 * z30_3) + z37_5))) t9 mline mlm mtxt mlen mat mwr merr mfail mcmd mcm) H := hP
        have hD : va_D A (bModel tA a0 a1 a2 a3 a4 a5 a6 a7 a8 a9 a10 ms mbef msav misv mpast mpm mthr mways_1 (zU n9 k (mways_1 ((10 * z30_3) + z37_5))) t9 mline mlm mtxt mlen mat mwr merr mfail mcmd mcm) := hD
        refine lv_aload_n hx hb dX11_findsNeeds_43 rfl (lv_at hl 1 rfl) ?_
        refine va_get (D := D) (ci := 13) (v := .ref a7) (C := RX11) (T := TX11) (N := 20) hx hb hts iX11 hown hK hP 0 rfl rfl 9 (by decide) f_28 (fun _ h9 => h9) rfl dX11_findsNeeds_44 ?_
        refine lv_iload_n hx hb dX11_findsNeeds_47 rfl (lv_at hl 0 rfl) ?_
        refine lv_aload_n hx hb dX11_findsNeeds_48 rfl (lv_at hl 1 rfl) ?_
        refine va_get (D := D) (ci := 13) (v := .ref a6) (C := RX11) (T := TX11) (N := 20) hx hb hts iX11 hown hK hP 0 rfl rfl 8 (by decide) f_25 (fun _ h9 => h9) rfl dX11_findsNeeds_49 ?_
        refine lv_iload_n hx hb dX11_findsNeeds_52 rfl (lv_at hl 0 rfl) ?_
        refine zz_iald hx hb hK hP 6 rfl (by decide) (by omega) dX11_findsNeeds_53 ?_
        have hnv := zU_same n9 k (mways_1 (10 * z30_3 + z37_5))
        refine zz_ldc hx hb hown (hts (.constant RX11 118 (100000)) (by decide +kernel)) (n := 100000) (by decide +kernel) dX11_findsNeeds_54 ?_
        refine zz_icmp_ge (tgt := 63) hx hb dX11_findsNeeds_56 (by decide) (by omega) (by decide) (fun c_56 => ?_) (fun c_56 => ?_)
        · refine zz_iconst hx hb dX11_findsNeeds_63 ?_
          refine zz_zast hx hb hK hP hD hS 7 rfl (by decide) (by omega) (by omega) dX11_findsNeeds_64 (fun H locs hP hD hS => ?_)
          have hP : va_P D vwCl (bModel tA a0 a1 a2 a3 a4 a5 a6 a7 a8 a9 a10 ms mbef msav misv mpast mpm mthr mways_1 (zU n9 k (mways_1 ((10 * z30_3) + z37_5))) (zU t9 k 0) mline mlm mtxt mlen mat mwr merr mfail mcmd mcm) H := hP
          have hD : va_D A (bModel tA a0 a1 a2 a3 a4 a5 a6 a7 a8 a9 a10 ms mbef msav misv mpast mpm mthr mways_1 (zU n9 k (mways_1 ((10 * z30_3) + z37_5))) (zU t9 k 0) mline mlm mtxt mlen mat mwr merr mfail mcmd mcm) := hD
          refine zz_iinc (lv' := [(1, .int (iI (k + 1))), (0, .ref a0)]) hx hb dX11_findsNeeds_65 hl (k := 0) rfl (by decide) rfl (fun ls hl => ?_)
          refine lv_goto (tgt := 6) hx hb dX11_findsNeeds_68 (by decide) ?_
          exact ih6 (k + 1) (zU n9 k (mways_1 ((10 * z30_3) + z37_5))) (zU t9 k 0) _ _ _ (by omega) (by intro j j0 j1; by_cases e : j = k; (subst e; rw [zU_same, zU_same]; first | exact ⟨hrg, (if_pos (by omega)).symm⟩ | exact ⟨hrg, (if_neg (by omega)).symm⟩); (rw [zU_ne e, zU_ne e]; exact i1 j j0 (by omega))) (by omega) hP hD hS (lv_sub hl [0, 1] rfl)
        · refine zz_iconst hx hb dX11_findsNeeds_59 ?_
          refine lv_goto (tgt := 64) hx hb dX11_findsNeeds_60 (by decide) ?_
          refine zz_zast hx hb hK hP hD hS 7 rfl (by decide) (by omega) (by omega) dX11_findsNeeds_64 (fun H locs hP hD hS => ?_)
          have hP : va_P D vwCl (bModel tA a0 a1 a2 a3 a4 a5 a6 a7 a8 a9 a10 ms mbef msav misv mpast mpm mthr mways_1 (zU n9 k (mways_1 ((10 * z30_3) + z37_5))) (zU t9 k 1) mline mlm mtxt mlen mat mwr merr mfail mcmd mcm) H := hP
          have hD : va_D A (bModel tA a0 a1 a2 a3 a4 a5 a6 a7 a8 a9 a10 ms mbef msav misv mpast mpm mthr mways_1 (zU n9 k (mways_1 ((10 * z30_3) + z37_5))) (zU t9 k 1) mline mlm mtxt mlen mat mwr merr mfail mcmd mcm) := hD
          refine zz_iinc (lv' := [(1, .int (iI (k + 1))), (0, .ref a0)]) hx hb dX11_findsNeeds_65 hl (k := 0) rfl (by decide) rfl (fun ls hl => ?_)
          refine lv_goto (tgt := 6) hx hb dX11_findsNeeds_68 (by decide) ?_
          exact ih6 (k + 1) (zU n9 k (mways_1 ((10 * z30_3) + z37_5))) (zU t9 k 1) _ _ _ (by omega) (by intro j j0 j1; by_cases e : j = k; (subst e; rw [zU_same, zU_same]; first | exact ⟨hrg, (if_pos (by omega)).symm⟩ | exact ⟨hrg, (if_neg (by omega)).symm⟩); (rw [zU_ne e, zU_ne e]; exact i1 j j0 (by omega))) (by omega) hP hD hS (lv_sub hl [0, 1] rfl)
  exact L6 _ 0 mnds mtkp _ _ _ (by omega) (by exact nothing_yet) (Nat.lt_succ_self _) hP hD hS (lv_sub hl [0, 1] rfl)

set_option maxHeartbeats 4000000 in
set_option maxRecDepth 100000 in
theorem c_X11_share (l : Launch) (D : va_G) (tA : Nat → ClassId) (a0 a1 a2 a3 a4 a5 a6 a7 a8 a9 a10 : Nat) (sz : Nat) (ms : Int → Int) (mbef : Int → Int) (msav : Int → Int) (misv : Int) (mpast : Int → Int) (mpm : Int) (mthr : Int) (mways : Int → Int) (mnds : Int → Int) (mtkp : Int → Int) (mline : Int → Int) (mlm : Int) (mtxt : Int → Int) (mlen : Int) (mat : Int) (mwr : Int) (merr : Int) (mfail : Int) (mcmd : Int → Int) (mcm : Int) (sb : Int) (r_sb : -2147483648 ≤ sb ∧ sb ≤ 2147483647) (hc : 0 ≤ ms 1 ∧ ms 1 ≤ 6) (hv : TpV (mkT (ms 1) mtkp) mnds) (hu : 0 ≤ sb ∧ sb < ms 1) (ht : mtkp sb = 1) : zMi l yX11_share wsX11_share ({ frames := 1, cells := 0, slots := 0, locals := 20 }) D tA [.ref a0, .int (iI sb)] (bModel tA a0 a1 a2 a3 a4 a5 a6 a7 a8 a9 a10 ms mbef msav misv mpast mpm mthr mways mnds mtkp mline mlm mtxt mlen mat mwr merr mfail mcmd mcm) sz (fun (z : Int) (u : Unit) => (z = shR (mkT (ms 1) mtkp) mnds (mnds sb).toNat) ∧ (0 ≤ z ∧ z ≤ 46800)) (fun (u : Unit) => bModel tA a0 a1 a2 a3 a4 a5 a6 a7 a8 a9 a10 ms mbef msav misv mpast mpm mthr mways mnds mtkp mline mlm mtxt mlen mat mwr merr mfail mcmd mcm) 0 0 := by
  refine zMi_of (cc := cX11_share) (maxL := 6) (by decide) rfl (fun z u h => rfl) (Nat.le_of_ble_eq_true rfl) ?_
  intro p e s m args below meth c A Q ls hx hb hml hts hown hK hP hD hA hret hl
  obtain ⟨H, hHe⟩ : ∃ H : Heap, H = s.heap := ⟨_, rfl⟩
  have hS : va_S A s.heap H [] := by rw [hHe]; exact va_S.rf
  rw [← hHe] at hP ⊢
  have hl : lv_has ls 6 [(0, .ref a0), (1, .int (iI sb))] := hl
  have iX11 : ∀ v ∈ wsX110, v ∈ wsX11_share := by decide +kernel
  have f_9 := hts (.fieldLink RX11 9 "HarborLightsModel" "s" "[I") (by decide +kernel)
  have f_25 := hts (.fieldLink RX11 25 "HarborLightsModel" "needs" "[I") (by decide +kernel)
  have f_28 := hts (.fieldLink RX11 28 "HarborLightsModel" "takesPart" "[Z") (by decide +kernel)
  have hnu := (mkT_01 hv hc.2 hu.1 hu.2).2 ht
  refine zz_iconst hx hb dX11_share_0 ?_
  refine lv_istore_n (lv' := [(2, .int (iI 0)), (0, .ref a0), (1, .int (iI sb))]) hx hb dX11_share_1 rfl hl (by decide) rfl (fun ls hl => ?_)
  refine zz_iconst hx hb dX11_share_2 ?_
  refine lv_istore_n (lv' := [(3, .int (iI 1)), (2, .int (iI 0)), (0, .ref a0), (1, .int (iI sb))]) hx hb dX11_share_3 rfl hl (by decide) rfl (fun ls hl => ?_)
  have L4 : ∀ (n : Nat) (rg : Int) (su : Int) (H : Heap) (locs : List Loc) (ls : Array Slot), (1 ≤ rg ∧ rg ≤ 21) → (su = shR (mkT (ms 1) mtkp) mnds (rg - 1).toNat) → (rg ≤ mnds sb + 1) → (mnds sb - rg + 1).toNat < n → va_P D vwCl (bModel tA a0 a1 a2 a3 a4 a5 a6 a7 a8 a9 a10 ms mbef msav misv mpast mpm mthr mways mnds mtkp mline mlm mtxt mlen mat mwr merr mfail mcmd mcm) H → va_D A (bModel tA a0 a1 a2 a3 a4 a5 a6 a7 a8 a9 a10 ms mbef msav misv mpast mpm mthr mways mnds mtkp mline mlm mtxt mlen mat mwr merr mfail mcmd mcm) → va_S A s.heap H locs → lv_has ls 6 [(3, .int (iI rg)), (2, .int (iI su)), (0, .ref a0), (1, .int (iI sb))] → W p l e (headSpec wsX11_share ({ frames := 1, cells := 0, slots := 0, locals := 20 })).room s m args below meth c H locs 0 0 Q (F0 m 4 ls []) := by
    intro n
    induction n with
    | zero => intro rg su H locs ls i0 i1 i2 hmz; exact absurd hmz (Nat.not_lt_zero _)
    | succ n ih4 =>
      intro rg su H locs ls i0 i1 i2 hmz hP hD hS hl
      refine lv_iload_n hx hb dX11_share_4 rfl (lv_at hl 0 rfl) ?_
      refine lv_aload_n hx hb dX11_share_5 rfl (lv_at hl 2 rfl) ?_
      refine va_get (D := D) (ci := 13) (v := .ref a6) (C := RX11) (T := TX11) (N := 20) hx hb hts iX11 hown hK hP 0 rfl rfl 8 (by decide) f_25 (fun _ h9 => h9) rfl dX11_share_6 ?_
      refine lv_iload_n hx hb dX11_share_9 rfl (lv_at hl 3 rfl) ?_
      refine zz_iald hx hb hK hP 6 rfl (by decide) (by omega) dX11_share_10 ?_
      refine zz_icmp_gt (tgt := 91) hx hb dX11_share_11 (by decide) (by omega) (by omega) (fun c_11 => ?_) (fun c_11 => ?_)
      · refine lv_iload_n hx hb dX11_share_91 rfl (lv_at hl 1 rfl) ?_
        exact hret su () _ _ _ _ dX11_share_92 ⟨(show su = shR (mkT (ms 1) mtkp) mnds (mnds sb).toNat from by rw [i1, show rg - 1 = mnds sb by omega]), (show 0 ≤ su ∧ su ≤ 46800 from by have := shR_in (mkT (ms 1) mtkp) mnds (rg - 1).toNat (by omega); omega)⟩ hP hD hS
      · refine zz_iconst hx hb dX11_share_14 ?_
        refine lv_istore (lv' := [(4, .int (iI 0)), (3, .int (iI rg)), (2, .int (iI su)), (0, .ref a0), (1, .int (iI sb))]) hx hb dX11_share_15 hl (by decide) rfl (fun ls hl => ?_)
        refine zz_iconst hx hb dX11_share_17 ?_
        refine lv_istore (lv' := [(5, .int (iI 0)), (4, .int (iI 0)), (3, .int (iI rg)), (2, .int (iI su)), (0, .ref a0), (1, .int (iI sb))]) hx hb dX11_share_18 hl (by decide) rfl (fun ls hl => ?_)
        have L20 : ∀ (n : Nat) (k : Int) (many : Int) (H : Heap) (locs : List Loc) (ls : Array Slot), (0 ≤ k ∧ k ≤ ms 1) → (many = cntC mtkp mnds rg k) → (0 ≤ many ∧ many ≤ k) → (ms 1 - k).toNat < n → va_P D vwCl (bModel tA a0 a1 a2 a3 a4 a5 a6 a7 a8 a9 a10 ms mbef msav misv mpast mpm mthr mways mnds mtkp mline mlm mtxt mlen mat mwr merr mfail mcmd mcm) H → va_D A (bModel tA a0 a1 a2 a3 a4 a5 a6 a7 a8 a9 a10 ms mbef msav misv mpast mpm mthr mways mnds mtkp mline mlm mtxt mlen mat mwr merr mfail mcmd mcm) → va_S A s.heap H locs → lv_has ls 6 [(5, .int (iI k)), (4, .int (iI many)), (3, .int (iI rg)), (2, .int (iI su)), (0, .ref a0), (1, .int (iI sb))] → W p l e (headSpec wsX11_share ({ frames := 1, cells := 0, slots := 0, locals := 20 })).room s m args below meth c H locs 0 0 Q (F0 m 20 ls []) := by
          intro n
          induction n with
          | zero => intro k many H locs ls j0 j1 j2 hmz; exact absurd hmz (Nat.not_lt_zero _)
          | succ n ih20 =>
            intro k many H locs ls j0 j1 j2 hmz hP hD hS hl
            refine lv_iload hx hb dX11_share_20 (lv_at hl 0 rfl) ?_
            refine lv_aload_n hx hb dX11_share_22 rfl (lv_at hl 4 rfl) ?_
            refine va_get (D := D) (ci := 13) (v := .ref a1) (C := RX11) (T := TX11) (N := 20) hx hb hts iX11 hown hK hP 0 rfl rfl 0 (by decide) f_9 (fun _ h9 => h9) rfl dX11_share_23 ?_
            refine zz_iconst hx hb dX11_share_26 ?_
            refine zz_iald hx hb hK hP 1 rfl (by decide) (by omega) dX11_share_27 ?_
            refine zz_icmp_ge (tgt := 68) hx hb dX11_share_28 (by decide) (by omega) (by omega) (fun c_28 => ?_) (fun c_28 => ?_)
            · have hmn : many = cntN (mkT (ms 1) mtkp) mnds rg := by rw [j1, show k = ms 1 by omega]; exact cntC_end hc
              have hmp : 1 ≤ many := by rw [hmn]; exact cntN_pos (j := sb) hu.1 (by omega) (by rw [mkT_at hu]; exact ht) (by omega)
              refine lv_iload_n hx hb dX11_share_68 rfl (lv_at hl 3 rfl) ?_
              refine lv_iload_n hx hb dX11_share_69 rfl (lv_at hl 2 rfl) ?_
              refine zz_callSi (As := [.int (iI rg)]) (rest := [.int (iI su)]) (wf := fun u => bModel tA a0 a1 a2 a3 a4 a5 a6 a7 a8 a9 a10 ms mbef msav misv mpast mpm mthr mways mnds mtkp mline mlm mtxt mlen mat mwr merr mfail mcmd mcm) ⟨hx, hb, hml, hown, hts⟩ (c_X11_cost l D tA  H.size rg (by first | assumption | omega)) (va_cwS 1 hts gX11_share_X11_cost rfl rfl rfl (by decide +kernel) ⟨Nat.le_of_ble_eq_true rfl, Nat.le_of_ble_eq_true rfl⟩) hK hP hD hS hA [] [0, 1, 2, 3, 4, 5, 6, 7, 8, 9, 10] [0, 1, 2, 3, 4, 5, 6, 7, 8, 9, 10] rfl rfl (by decide) (by decide) (by decide) (by decide) (fun _ => rfl) rfl rfl hl.1 (Nat.le_of_ble_eq_true rfl) dX11_share_70 ⟨Nat.le_of_ble_eq_true rfl, Nat.le_of_ble_eq_true rfl⟩ ?_
              intro z70_1 u H locs p70_2 hP hD hS
              have hP : va_P D vwCl (bModel tA a0 a1 a2 a3 a4 a5 a6 a7 a8 a9 a10 ms mbef msav misv mpast mpm mthr mways mnds mtkp mline mlm mtxt mlen mat mwr merr mfail mcmd mcm) H := hP
              have hD : va_D A (bModel tA a0 a1 a2 a3 a4 a5 a6 a7 a8 a9 a10 ms mbef msav misv mpast mpm mthr mways mnds mtkp mline mlm mtxt mlen mat mwr merr mfail mcmd mcm) := hD
              have q_70 : z70_1 = 60 * rg * rg := p70_2
              refine lv_iload_n hx hb dX11_share_73 rfl (lv_at hl 2 rfl) ?_
              refine zz_iconst hx hb dX11_share_74 ?_
              refine zz_isub hx hb dX11_share_75 ?_
              refine zz_callSi (As := [.int (iI (rg - 1))]) (rest := [.int (iI z70_1), .int (iI su)]) (wf := fun u => bModel tA a0 a1 a2 a3 a4 a5 a6 a7 a8 a9 a10 ms mbef msav misv mpast mpm mthr mways mnds mtkp mline mlm mtxt mlen mat mwr merr mfail mcmd mcm) ⟨hx, hb, hml, hown, hts⟩ (c_X11_cost l D tA  H.size (rg - 1) (by first | assumption | omega)) (va_cwS 1 hts gX11_share_X11_cost rfl rfl rfl (by decide +kernel) ⟨Nat.le_of_ble_eq_true rfl, Nat.le_of_ble_eq_true rfl⟩) hK hP hD hS hA [] [0, 1, 2, 3, 4, 5, 6, 7, 8, 9, 10] [0, 1, 2, 3, 4, 5, 6, 7, 8, 9, 10] rfl rfl (by decide) (by decide) (by decide) (by decide) (fun _ => rfl) rfl rfl hl.1 (Nat.le_of_ble_eq_true rfl) dX11_share_76 ⟨Nat.le_of_ble_eq_true rfl, Nat.le_of_ble_eq_true rfl⟩ ?_
              intro z76_3 u H locs p76_4 hP hD hS
              have hP : va_P D vwCl (bModel tA a0 a1 a2 a3 a4 a5 a6 a7 a8 a9 a10 ms mbef msav misv mpast mpm mthr mways mnds mtkp mline mlm mtxt mlen mat mwr merr mfail mcmd mcm) H := hP
              have hD : va_D A (bModel tA a0 a1 a2 a3 a4 a5 a6 a7 a8 a9 a10 ms mbef msav misv mpast mpm mthr mways mnds mtkp mline mlm mtxt mlen mat mwr merr mfail mcmd mcm) := hD
              have q_76 : z76_3 = 60 * (rg - 1) * (rg - 1) := p76_4
              have hdc := dC_in (rg := rg) (by omega)
              refine zz_isub hx hb dX11_share_79 ?_
              refine lv_iload hx hb dX11_share_80 (lv_at hl 1 rfl) ?_
              refine zz_idiv hx hb dX11_share_82 (by rw [q_70, q_76]; omega) (by omega) ?_
              refine zz_iadd hx hb dX11_share_83 ?_
              refine lv_istore_n (lv' := [(2, .int (iI (su + ((z70_1 - z76_3) / many)))), (5, .int (iI k)), (4, .int (iI many)), (3, .int (iI rg)), (0, .ref a0), (1, .int (iI sb))]) hx hb dX11_share_84 rfl hl (by decide) rfl (fun ls hl => ?_)
              refine zz_iinc (lv' := [(3, .int (iI (rg + 1))), (2, .int (iI (su + ((z70_1 - z76_3) / many)))), (5, .int (iI k)), (4, .int (iI many)), (0, .ref a0), (1, .int (iI sb))]) hx hb dX11_share_85 hl (k := 3) rfl (by decide) rfl (fun ls hl => ?_)
              refine lv_goto (tgt := 4) hx hb dX11_share_88 (by decide) ?_
              exact ih4 (rg + 1) (su + ((z70_1 - z76_3) / many)) _ _ _ (by omega) (by rw [show rg + 1 - 1 = rg by omega, i1, q_70, q_76]; exact shR_next (by omega) hmn) (by omega) (by omega) hP hD hS (lv_sub hl [0, 1, 4, 5] rfl)
            · refine lv_iload hx hb dX11_share_31 (lv_at hl 1 rfl) ?_
              refine lv_aload_n hx hb dX11_share_33 rfl (lv_at hl 4 rfl) ?_
              refine va_get (D := D) (ci := 13) (v := .ref a7) (C := RX11) (T := TX11) (N := 20) hx hb hts iX11 hown hK hP 0 rfl rfl 9 (by decide) f_28 (fun _ h9 => h9) rfl dX11_share_34 ?_
              refine lv_iload hx hb dX11_share_37 (lv_at hl 0 rfl) ?_
              refine zz_zald hx hb hK hP 7 rfl (by decide) (by omega) dX11_share_39 ?_
              have r_39 := mkT_01 hv hc.2 (show 0 ≤ k by omega) (show k < ms 1 by omega)
              refine zz_if_eq (tgt := 58) hx hb dX11_share_40 (by decide) (by omega) (fun c_40 => ?_) (fun c_40 => ?_)
              · refine zz_iconst hx hb dX11_share_58 ?_
                refine zz_iadd hx hb dX11_share_59 ?_
                refine lv_istore (lv' := [(4, .int (iI (many + 0))), (5, .int (iI k)), (3, .int (iI rg)), (2, .int (iI su)), (0, .ref a0), (1, .int (iI sb))]) hx hb dX11_share_60 hl (by decide) rfl (fun ls hl => ?_)
                refine zz_iinc (lv' := [(5, .int (iI (k + 1))), (4, .int (iI (many + 0))), (3, .int (iI rg)), (2, .int (iI su)), (0, .ref a0), (1, .int (iI sb))]) hx hb dX11_share_62 hl (k := 1) rfl (by decide) rfl (fun ls hl => ?_)
                refine lv_goto (tgt := 20) hx hb dX11_share_65 (by decide) ?_
                exact ih20 (k + 1) (many + 0) _ _ _ (by omega) (by rw [j1]; first | exact (cntC_s1 (by omega) (by omega)).symm | (rw [Int.add_zero]; exact (cntC_s0 (by omega) (by omega)).symm)) (by omega) (by omega) hP hD hS (lv_sub hl [0, 1, 2, 3, 4, 5] rfl)
              · refine lv_aload_n hx hb dX11_share_43 rfl (lv_at hl 4 rfl) ?_
                refine va_get (D := D) (ci := 13) (v := .ref a6) (C := RX11) (T := TX11) (N := 20) hx hb hts iX11 hown hK hP 0 rfl rfl 8 (by decide) f_25 (fun _ h9 => h9) rfl dX11_share_44 ?_
                refine lv_iload hx hb dX11_share_47 (lv_at hl 0 rfl) ?_
                refine zz_iald hx hb hK hP 6 rfl (by decide) (by omega) dX11_share_49 ?_
                refine lv_iload_n hx hb dX11_share_50 rfl (lv_at hl 2 rfl) ?_
                refine zz_icmp_lt (tgt := 58) hx hb dX11_share_51 (by decide) (by omega) (by omega) (fun c_51 => ?_) (fun c_51 => ?_)
                · refine zz_iconst hx hb dX11_share_58 ?_
                  refine zz_iadd hx hb dX11_share_59 ?_
                  refine lv_istore (lv' := [(4, .int (iI (many + 0))), (5, .int (iI k)), (3, .int (iI rg)), (2, .int (iI su)), (0, .ref a0), (1, .int (iI sb))]) hx hb dX11_share_60 hl (by decide) rfl (fun ls hl => ?_)
                  refine zz_iinc (lv' := [(5, .int (iI (k + 1))), (4, .int (iI (many + 0))), (3, .int (iI rg)), (2, .int (iI su)), (0, .ref a0), (1, .int (iI sb))]) hx hb dX11_share_62 hl (k := 1) rfl (by decide) rfl (fun ls hl => ?_)
                  refine lv_goto (tgt := 20) hx hb dX11_share_65 (by decide) ?_
                  exact ih20 (k + 1) (many + 0) _ _ _ (by omega) (by rw [j1]; first | exact (cntC_s1 (by omega) (by omega)).symm | (rw [Int.add_zero]; exact (cntC_s0 (by omega) (by omega)).symm)) (by omega) (by omega) hP hD hS (lv_sub hl [0, 1, 2, 3, 4, 5] rfl)
                · refine zz_iconst hx hb dX11_share_54 ?_
                  refine lv_goto (tgt := 59) hx hb dX11_share_55 (by decide) ?_
                  refine zz_iadd hx hb dX11_share_59 ?_
                  refine lv_istore (lv' := [(4, .int (iI (many + 1))), (5, .int (iI k)), (3, .int (iI rg)), (2, .int (iI su)), (0, .ref a0), (1, .int (iI sb))]) hx hb dX11_share_60 hl (by decide) rfl (fun ls hl => ?_)
                  refine zz_iinc (lv' := [(5, .int (iI (k + 1))), (4, .int (iI (many + 1))), (3, .int (iI rg)), (2, .int (iI su)), (0, .ref a0), (1, .int (iI sb))]) hx hb dX11_share_62 hl (k := 1) rfl (by decide) rfl (fun ls hl => ?_)
                  refine lv_goto (tgt := 20) hx hb dX11_share_65 (by decide) ?_
                  exact ih20 (k + 1) (many + 1) _ _ _ (by omega) (by rw [j1]; first | exact (cntC_s1 (by omega) (by omega)).symm | (rw [Int.add_zero]; exact (cntC_s0 (by omega) (by omega)).symm)) (by omega) (by omega) hP hD hS (lv_sub hl [0, 1, 2, 3, 4, 5] rfl)
        exact L20 _ 0 0 _ _ _ (by omega) (by rfl) (by omega) (Nat.lt_succ_self _) hP hD hS (lv_sub hl [0, 1, 2, 3, 4, 5] rfl)
  exact L4 _ 1 0 _ _ _ (by omega) (by rfl) (by omega) (Nat.lt_succ_self _) hP hD hS (lv_sub hl [0, 1, 2, 3] rfl)

set_option maxHeartbeats 4000000 in
set_option maxRecDepth 100000 in
theorem c_X11_findsNight (l : Launch) (D : va_G) (tA : Nat → ClassId) (a0 a1 a2 a3 a4 a5 a6 a7 a8 a9 a10 : Nat) (sz : Nat) (ms : Int → Int) (mbef : Int → Int) (msav : Int → Int) (misv : Int) (mpast : Int → Int) (mpm : Int) (mthr : Int) (mways : Int → Int) (mnds : Int → Int) (mtkp : Int → Int) (mline : Int → Int) (mlm : Int) (mtxt : Int → Int) (mlen : Int) (mat : Int) (mwr : Int) (merr : Int) (mfail : Int) (mcmd : Int → Int) (mcm : Int) (hm : MV ms) : zMv l yX11_findsNight wsX11_findsNight ({ frames := 3, cells := 0, slots := 0, locals := 67 }) D tA [.ref a0] (bModel tA a0 a1 a2 a3 a4 a5 a6 a7 a8 a9 a10 ms mbef msav misv mpast mpm mthr mways mnds mtkp mline mlm mtxt mlen mat mwr merr mfail mcmd mcm) sz (fun (u : (Int → Int) × (Int → Int) × (Int → Int)) => (plnM ms u.2.2 u.2.1)) (fun (u : (Int → Int) × (Int → Int) × (Int → Int)) => bModel tA a0 a1 a2 a3 a4 a5 a6 a7 a8 a9 a10 ms mbef msav misv mpast mpm mthr u.1 u.2.1 u.2.2 mline mlm mtxt mlen mat mwr merr mfail mcmd mcm) 0 0 := by
  refine zMv_of (cc := cX11_findsNight) (maxL := 4) (by decide) rfl (Nat.le_of_ble_eq_true rfl) ?_
  intro p e s m args below meth c A Q ls hx hb hml hts hown hK hP hD hA hret hl
  obtain ⟨H, hHe⟩ : ∃ H : Heap, H = s.heap := ⟨_, rfl⟩
  have hS : va_S A s.heap H [] := by rw [hHe]; exact va_S.rf
  rw [← hHe] at hP ⊢
  have hl : lv_has ls 4 [(0, .ref a0)] := hl
  have iX11 : ∀ v ∈ wsX110, v ∈ wsX11_findsNight := by decide +kernel
  have f_9 := hts (.fieldLink RX11 9 "HarborLightsModel" "s" "[I") (by decide +kernel)
  have f_28 := hts (.fieldLink RX11 28 "HarborLightsModel" "takesPart" "[Z") (by decide +kernel)
  obtain ⟨⟨mp0, mp1, mc0, mc1, mf0, mf1, mr0, mr1⟩, hlr, mL, mS⟩ := id hm
  refine lv_aload_n hx hb dX11_findsNight_0 rfl (lv_at hl 0 rfl) ?_
  refine zz_callVv (As := []) (rest := []) (wf := fun u => bModel tA a0 a1 a2 a3 a4 a5 a6 a7 a8 a9 a10 ms mbef msav misv mpast mpm mthr u.1 u.2.1 u.2.2 mline mlm mtxt mlen mat mwr merr mfail mcmd mcm) ⟨hx, hb, hml, hown, hts⟩ (c_X11_findsNeeds l D tA a0 a1 a2 a3 a4 a5 a6 a7 a8 a9 a10 H.size ms mbef msav misv mpast mpm mthr mways mnds mtkp mline mlm mtxt mlen mat mwr merr mfail mcmd mcm (by first | assumption | omega)) (cwV 0 hts gX11_findsNight_X11_findsNeeds rfl rfl rfl (by decide +kernel) ⟨Nat.le_of_ble_eq_true rfl, Nat.le_of_ble_eq_true rfl⟩) hK hP hD hS hA [0, 1, 2, 3, 4, 5, 6, 7, 8, 9, 10] [] [0, 1, 2, 3, 4, 5, 6, 7, 8, 9, 10] rfl rfl (by decide) (by decide) (by decide) (by decide) (fun _ => rfl) (ci := 13) (q0 := 0) rfl rfl rfl rfl rfl hl.1 (Nat.le_of_ble_eq_true rfl) dX11_findsNight_1 ⟨Nat.le_of_ble_eq_true rfl, Nat.le_of_ble_eq_true rfl⟩ ?_
  intro u H locs p1_4 hP hD hS
  obtain ⟨mways_1, mnds_2, mtkp_3⟩ := u
  have hP : va_P D vwCl (bModel tA a0 a1 a2 a3 a4 a5 a6 a7 a8 a9 a10 ms mbef msav misv mpast mpm mthr mways_1 mnds_2 mtkp_3 mline mlm mtxt mlen mat mwr merr mfail mcmd mcm) H := hP
  have hD : va_D A (bModel tA a0 a1 a2 a3 a4 a5 a6 a7 a8 a9 a10 ms mbef msav misv mpast mpm mthr mways_1 mnds_2 mtkp_3 mline mlm mtxt mlen mat mwr merr mfail mcmd mcm) := hD
  have q_1 : gatM ms mtkp_3 mnds_2 := p1_4
  have hgv := gatM_V q_1
  refine zz_iconst hx hb dX11_findsNight_4 ?_
  refine lv_istore_n (lv' := [(1, .int (iI 1)), (0, .ref a0)]) hx hb dX11_findsNight_5 rfl hl (by decide) rfl (fun ls hl => ?_)
  have L6 : ∀ (n : Nat) (fl : Int) (t9 : Int → Int) (H : Heap) (locs : List Loc) (ls : Array Slot), (fl = 0 ∨ fl = 1) → (∃ m : Nat, ∀ k t', isLeft mnds_2 (fun j => suM ms j 2) (ms 1) k (mkT (ms 1) t9) t' → isLeft mnds_2 (fun j => suM ms j 2) (ms 1) (k + m) (mkT (ms 1) mtkp_3) t') → (TpV (mkT (ms 1) t9) mnds_2) → (fl = 0 → isPoor (mkT (ms 1) t9) mnds_2 (fun j => suM ms j 2) (ms 1) (-1)) → (fl + sm (mkT (ms 1) t9) 6).toNat < n → va_P D vwCl (bModel tA a0 a1 a2 a3 a4 a5 a6 a7 a8 a9 a10 ms mbef msav misv mpast mpm mthr mways_1 mnds_2 t9 mline mlm mtxt mlen mat mwr merr mfail mcmd mcm) H → va_D A (bModel tA a0 a1 a2 a3 a4 a5 a6 a7 a8 a9 a10 ms mbef msav misv mpast mpm mthr mways_1 mnds_2 t9 mline mlm mtxt mlen mat mwr merr mfail mcmd mcm) → va_S A s.heap H locs → lv_has ls 4 [(1, .int (iI fl)), (0, .ref a0)] → W p l e (headSpec wsX11_findsNight ({ frames := 3, cells := 0, slots := 0, locals := 67 })).room s m args below meth c H locs 0 0 Q (F0 m 6 ls []) := by
    intro n
    induction n with
    | zero => intro fl t9 H locs ls i0 i1 i2 i3 hmz; exact absurd hmz (Nat.not_lt_zero _)
    | succ n ih6 =>
      intro fl t9 H locs ls i0 i1 i2 i3 hmz hP hD hS hl
      have hs0 := sm_in (f := mkT (ms 1) t9) (n := 6) (fun j j0 j1 => by rcases i2.1 j j0 j1 with g | g <;> omega)
      refine lv_iload_n hx hb dX11_findsNight_6 rfl (lv_at hl 0 rfl) ?_
      refine zz_if_eq (tgt := 84) hx hb dX11_findsNight_7 (by decide) (by omega) (fun c_7 => ?_) (fun c_7 => ?_)
      · exact hret (mways_1, mnds_2, t9) _ _ _ _ dX11_findsNight_84 (show plnM ms t9 mnds_2 from by obtain ⟨m, hm'⟩ := i1; exact ⟨⟨mtkp_3, 0 + m, q_1, hm' 0 _ ⟨i3 (by omega), fun _ _ _ => rfl⟩⟩, i2⟩) hP hD hS
      · refine zz_iconst hx hb dX11_findsNight_10 ?_
        refine lv_istore_n (lv' := [(2, .int (iI (-1))), (1, .int (iI fl)), (0, .ref a0)]) hx hb dX11_findsNight_11 rfl hl (by decide) rfl (fun ls hl => ?_)
        refine lv_aload_n hx hb dX11_findsNight_12 rfl (lv_at hl 2 rfl) ?_
        refine va_get (D := D) (ci := 13) (v := .ref a1) (C := RX11) (T := TX11) (N := 20) hx hb hts iX11 hown hK hP 0 rfl rfl 0 (by decide) f_9 (fun _ h9 => h9) rfl dX11_findsNight_13 ?_
        refine zz_iconst hx hb dX11_findsNight_16 ?_
        refine zz_iald hx hb hK hP 1 rfl (by decide) (by omega) dX11_findsNight_17 ?_
        refine zz_iconst hx hb dX11_findsNight_18 ?_
        refine zz_isub hx hb dX11_findsNight_19 ?_
        refine lv_istore_n (lv' := [(3, .int (iI ((ms 1) - 1))), (2, .int (iI (-1))), (1, .int (iI fl)), (0, .ref a0)]) hx hb dX11_findsNight_20 rfl hl (by decide) rfl (fun ls hl => ?_)
        have L21 : ∀ (n : Nat) (k : Int) (poor : Int) (H : Heap) (locs : List Loc) (ls : Array Slot), (-1 ≤ k ∧ k ≤ ms 1 - 1) → (PoK (mkT (ms 1) t9) mnds_2 (fun j => suM ms j 2) (ms 1) k poor) → (-1 ≤ poor ∧ poor < ms 1) → (k + 1).toNat < n → va_P D vwCl (bModel tA a0 a1 a2 a3 a4 a5 a6 a7 a8 a9 a10 ms mbef msav misv mpast mpm mthr mways_1 mnds_2 t9 mline mlm mtxt mlen mat mwr merr mfail mcmd mcm) H → va_D A (bModel tA a0 a1 a2 a3 a4 a5 a6 a7 a8 a9 a10 ms mbef msav misv mpast mpm mthr mways_1 mnds_2 t9 mline mlm mtxt mlen mat mwr merr mfail mcmd mcm) → va_S A s.heap H locs → lv_has ls 4 [(3, .int (iI k)), (2, .int (iI poor)), (1, .int (iI fl)), (0, .ref a0)] → W p l e (headSpec wsX11_findsNight ({ frames := 3, cells := 0, slots := 0, locals := 67 })).room s m args below meth c H locs 0 0 Q (F0 m 21 ls []) := by
          intro n
          induction n with
          | zero => intro k poor H locs ls j0 j1 j2 hmz; exact absurd hmz (Nat.not_lt_zero _)
          | succ n ih21 =>
            intro k poor H locs ls j0 j1 j2 hmz hP hD hS hl
            refine lv_iload_n hx hb dX11_findsNight_21 rfl (lv_at hl 0 rfl) ?_
            refine zz_if_lt (tgt := 60) hx hb dX11_findsNight_22 (by decide) (by omega) (fun c_22 => ?_) (fun c_22 => ?_)
            · have hpo := PoK_end (by omega) j1
              refine lv_iload_n hx hb dX11_findsNight_60 rfl (lv_at hl 1 rfl) ?_
              refine zz_if_lt (tgt := 68) hx hb dX11_findsNight_61 (by decide) (by omega) (fun c_61 => ?_) (fun c_61 => ?_)
              · refine zz_iconst hx hb dX11_findsNight_68 ?_
                refine lv_istore_n (lv' := [(1, .int (iI 0)), (3, .int (iI k)), (2, .int (iI poor)), (0, .ref a0)]) hx hb dX11_findsNight_69 rfl hl (by decide) rfl (fun ls hl => ?_)
                refine lv_iload_n hx hb dX11_findsNight_70 rfl (lv_at hl 0 rfl) ?_
                refine zz_if_eq (tgt := 81) hx hb dX11_findsNight_71 (by decide) (by decide) (fun c_71 => ?_) (fun c_71 => ?_)
                · refine lv_goto (tgt := 6) hx hb dX11_findsNight_81 (by decide) ?_
                  exact ih6 0 t9 _ _ _ (by omega) (by first | exact i1 | (obtain ⟨m, hm'⟩ := i1; exact ⟨m + 1, fun k t' h => by rw [mkT_U (by omega)] at h; rw [show k + (m + 1) = (k + 1) + m by omega]; exact hm' (k + 1) t' ⟨poor, by omega, hpo, h⟩⟩)) (by first | exact i2 | (rw [mkT_U (by omega)]; exact TpV_drop i2)) (by first | exact fun h => absurd h (by decide) | exact fun _ => (by rw [show (-1 : Int) = poor by omega]; exact hpo)) (by first | omega | (rw [mkT_U (by omega), drop_cnt (by omega) (by omega) (hpo.elim (fun g => absurd g.1 (by omega)) (fun g => g.2.2.1))]; omega)) hP hD hS (lv_sub hl [0, 3] rfl)
                · exact absurd c_71 (by decide)
              · refine zz_iconst hx hb dX11_findsNight_64 ?_
                refine lv_goto (tgt := 69) hx hb dX11_findsNight_65 (by decide) ?_
                refine lv_istore_n (lv' := [(1, .int (iI 1)), (3, .int (iI k)), (2, .int (iI poor)), (0, .ref a0)]) hx hb dX11_findsNight_69 rfl hl (by decide) rfl (fun ls hl => ?_)
                refine lv_iload_n hx hb dX11_findsNight_70 rfl (lv_at hl 0 rfl) ?_
                refine zz_if_eq (tgt := 81) hx hb dX11_findsNight_71 (by decide) (by decide) (fun c_71 => ?_) (fun c_71 => ?_)
                · exact absurd c_71 (by decide)
                · refine lv_aload_n hx hb dX11_findsNight_74 rfl (lv_at hl 3 rfl) ?_
                  refine va_get (D := D) (ci := 13) (v := .ref a7) (C := RX11) (T := TX11) (N := 20) hx hb hts iX11 hown hK hP 0 rfl rfl 9 (by decide) f_28 (fun _ h9 => h9) rfl dX11_findsNight_75 ?_
                  refine lv_iload_n hx hb dX11_findsNight_78 rfl (lv_at hl 2 rfl) ?_
                  refine zz_iconst hx hb dX11_findsNight_79 ?_
                  refine zz_zast hx hb hK hP hD hS 7 rfl (by decide) (by omega) (by omega) dX11_findsNight_80 (fun H locs hP hD hS => ?_)
                  have hP : va_P D vwCl (bModel tA a0 a1 a2 a3 a4 a5 a6 a7 a8 a9 a10 ms mbef msav misv mpast mpm mthr mways_1 mnds_2 (zU t9 poor 0) mline mlm mtxt mlen mat mwr merr mfail mcmd mcm) H := hP
                  have hD : va_D A (bModel tA a0 a1 a2 a3 a4 a5 a6 a7 a8 a9 a10 ms mbef msav misv mpast mpm mthr mways_1 mnds_2 (zU t9 poor 0) mline mlm mtxt mlen mat mwr merr mfail mcmd mcm) := hD
                  refine lv_goto (tgt := 6) hx hb dX11_findsNight_81 (by decide) ?_
                  exact ih6 1 (zU t9 poor 0) _ _ _ (by omega) (by first | exact i1 | (obtain ⟨m, hm'⟩ := i1; exact ⟨m + 1, fun k t' h => by rw [mkT_U (by omega)] at h; rw [show k + (m + 1) = (k + 1) + m by omega]; exact hm' (k + 1) t' ⟨poor, by omega, hpo, h⟩⟩)) (by first | exact i2 | (rw [mkT_U (by omega)]; exact TpV_drop i2)) (by first | exact fun h => absurd h (by decide) | exact fun _ => (by rw [show (-1 : Int) = poor by omega]; exact hpo)) (by first | omega | (rw [mkT_U (by omega), drop_cnt (by omega) (by omega) (hpo.elim (fun g => absurd g.1 (by omega)) (fun g => g.2.2.1))]; omega)) hP hD hS (lv_sub hl [0, 3] rfl)
            · refine lv_aload_n hx hb dX11_findsNight_25 rfl (lv_at hl 3 rfl) ?_
              refine va_get (D := D) (ci := 13) (v := .ref a7) (C := RX11) (T := TX11) (N := 20) hx hb hts iX11 hown hK hP 0 rfl rfl 9 (by decide) f_28 (fun _ h9 => h9) rfl dX11_findsNight_26 ?_
              refine lv_iload_n hx hb dX11_findsNight_29 rfl (lv_at hl 0 rfl) ?_
              refine zz_zald hx hb hK hP 7 rfl (by decide) (by omega) dX11_findsNight_30 ?_
              have r_30 := mkT_01 i2 mc1 (show 0 ≤ k by omega) (show k < ms 1 by omega)
              refine zz_if_eq (tgt := 52) hx hb dX11_findsNight_31 (by decide) (by omega) (fun c_31 => ?_) (fun c_31 => ?_)
              · refine lv_iload_n hx hb dX11_findsNight_52 rfl (lv_at hl 1 rfl) ?_
                refine lv_istore_n (lv' := [(2, .int (iI poor)), (3, .int (iI k)), (1, .int (iI fl)), (0, .ref a0)]) hx hb dX11_findsNight_53 rfl hl (by decide) rfl (fun ls hl => ?_)
                refine zz_iinc (lv' := [(3, .int (iI (k + (-1)))), (2, .int (iI poor)), (1, .int (iI fl)), (0, .ref a0)]) hx hb dX11_findsNight_54 hl (k := 1) rfl (by decide) rfl (fun ls hl => ?_)
                refine lv_goto (tgt := 21) hx hb dX11_findsNight_57 (by decide) ?_
                exact ih21 (k + (-1)) poor _ _ _ (by omega) (by first | exact PoK_take (by omega) j1 ⟨by rw [mkT_at (by omega)]; omega, show suM ms k 2 < shR (mkT (ms 1) t9) mnds_2 (mnds_2 k).toNat by omega⟩ | exact PoK_keep j1 (fun h => absurd (show suM ms k 2 < shR (mkT (ms 1) t9) mnds_2 (mnds_2 k).toNat from h.2) (by omega)) | exact PoK_keep j1 (fun h => by have h1 := h.1; rw [mkT_at (by omega)] at h1; omega)) (by omega) (by omega) hP hD hS (lv_sub hl [0, 1, 2, 3] rfl)
              · refine lv_aload_n hx hb dX11_findsNight_34 rfl (lv_at hl 3 rfl) ?_
                refine lv_iload_n hx hb dX11_findsNight_35 rfl (lv_at hl 0 rfl) ?_
                refine zz_iconst hx hb dX11_findsNight_36 ?_
                refine zz_callVi (As := [.int (iI k), .int (iI 2)]) (rest := []) (wf := fun u => bModel tA a0 a1 a2 a3 a4 a5 a6 a7 a8 a9 a10 ms mbef msav misv mpast mpm mthr mways_1 mnds_2 t9 mline mlm mtxt mlen mat mwr merr mfail mcmd mcm) ⟨hx, hb, hml, hown, hts⟩ (c_X11_of l D tA a0 a1 a2 a3 a4 a5 a6 a7 a8 a9 a10 H.size ms mbef msav misv mpast mpm mthr mways_1 mnds_2 t9 mline mlm mtxt mlen mat mwr merr mfail mcmd mcm k 2 (by first | assumption | omega) (by first | assumption | omega) (by first | assumption | omega) (by first | assumption | omega)) (cwV 2 hts gX11_findsNight_X11_of rfl rfl rfl (by decide +kernel) ⟨Nat.le_of_ble_eq_true rfl, Nat.le_of_ble_eq_true rfl⟩) hK hP hD hS hA [0, 1, 2, 3, 4, 5, 6, 7, 8, 9, 10] [] [0, 1, 2, 3, 4, 5, 6, 7, 8, 9, 10] rfl rfl (by decide) (by decide) (by decide) (by decide) (fun _ => rfl) (ci := 13) (q0 := 0) rfl rfl rfl rfl rfl hl.1 (Nat.le_of_ble_eq_true rfl) dX11_findsNight_37 ⟨Nat.le_of_ble_eq_true rfl, Nat.le_of_ble_eq_true rfl⟩ ?_
                intro z37_5 u H locs p37_6 hP hD hS
                have hP : va_P D vwCl (bModel tA a0 a1 a2 a3 a4 a5 a6 a7 a8 a9 a10 ms mbef msav misv mpast mpm mthr mways_1 mnds_2 t9 mline mlm mtxt mlen mat mwr merr mfail mcmd mcm) H := hP
                have hD : va_D A (bModel tA a0 a1 a2 a3 a4 a5 a6 a7 a8 a9 a10 ms mbef msav misv mpast mpm mthr mways_1 mnds_2 t9 mline mlm mtxt mlen mat mwr merr mfail mcmd mcm) := hD
                have q_37 : z37_5 = suM ms k 2 := p37_6
                have hmo := mS k (by omega) (by omega)
                refine lv_aload_n hx hb dX11_findsNight_40 rfl (lv_at hl 3 rfl) ?_
                refine lv_iload_n hx hb dX11_findsNight_41 rfl (lv_at hl 0 rfl) ?_
                refine zz_callVi (As := [.int (iI k)]) (rest := [.int (iI z37_5)]) (wf := fun u => bModel tA a0 a1 a2 a3 a4 a5 a6 a7 a8 a9 a10 ms mbef msav misv mpast mpm mthr mways_1 mnds_2 t9 mline mlm mtxt mlen mat mwr merr mfail mcmd mcm) ⟨hx, hb, hml, hown, hts⟩ (c_X11_share l D tA a0 a1 a2 a3 a4 a5 a6 a7 a8 a9 a10 H.size ms mbef msav misv mpast mpm mthr mways_1 mnds_2 t9 mline mlm mtxt mlen mat mwr merr mfail mcmd mcm k (by first | assumption | omega) (by first | assumption | omega) i2 (by first | assumption | omega) (by first | assumption | omega)) (cwV 1 hts gX11_findsNight_X11_share rfl rfl rfl (by decide +kernel) ⟨Nat.le_of_ble_eq_true rfl, Nat.le_of_ble_eq_true rfl⟩) hK hP hD hS hA [0, 1, 2, 3, 4, 5, 6, 7, 8, 9, 10] [] [0, 1, 2, 3, 4, 5, 6, 7, 8, 9, 10] rfl rfl (by decide) (by decide) (by decide) (by decide) (fun _ => rfl) (ci := 13) (q0 := 0) rfl rfl rfl rfl rfl hl.1 (Nat.le_of_ble_eq_true rfl) dX11_findsNight_42 ⟨Nat.le_of_ble_eq_true rfl, Nat.le_of_ble_eq_true rfl⟩ ?_
                intro z42_7 u H locs p42_8 hP hD hS
                have hP : va_P D vwCl (bModel tA a0 a1 a2 a3 a4 a5 a6 a7 a8 a9 a10 ms mbef msav misv mpast mpm mthr mways_1 mnds_2 t9 mline mlm mtxt mlen mat mwr merr mfail mcmd mcm) H := hP
                have hD : va_D A (bModel tA a0 a1 a2 a3 a4 a5 a6 a7 a8 a9 a10 ms mbef msav misv mpast mpm mthr mways_1 mnds_2 t9 mline mlm mtxt mlen mat mwr merr mfail mcmd mcm) := hD
                have q_42 : z42_7 = shR (mkT (ms 1) t9) mnds_2 (mnds_2 k).toNat := p42_8.1
                have q2_42 : 0 ≤ z42_7 ∧ z42_7 ≤ 46800 := p42_8.2
                have hsh := q_42
                refine zz_icmp_ge (tgt := 52) hx hb dX11_findsNight_45 (by decide) (by omega) (by omega) (fun c_45 => ?_) (fun c_45 => ?_)
                · refine lv_iload_n hx hb dX11_findsNight_52 rfl (lv_at hl 1 rfl) ?_
                  refine lv_istore_n (lv' := [(2, .int (iI poor)), (3, .int (iI k)), (1, .int (iI fl)), (0, .ref a0)]) hx hb dX11_findsNight_53 rfl hl (by decide) rfl (fun ls hl => ?_)
                  refine zz_iinc (lv' := [(3, .int (iI (k + (-1)))), (2, .int (iI poor)), (1, .int (iI fl)), (0, .ref a0)]) hx hb dX11_findsNight_54 hl (k := 1) rfl (by decide) rfl (fun ls hl => ?_)
                  refine lv_goto (tgt := 21) hx hb dX11_findsNight_57 (by decide) ?_
                  exact ih21 (k + (-1)) poor _ _ _ (by omega) (by first | exact PoK_take (by omega) j1 ⟨by rw [mkT_at (by omega)]; omega, show suM ms k 2 < shR (mkT (ms 1) t9) mnds_2 (mnds_2 k).toNat by omega⟩ | exact PoK_keep j1 (fun h => absurd (show suM ms k 2 < shR (mkT (ms 1) t9) mnds_2 (mnds_2 k).toNat from h.2) (by omega)) | exact PoK_keep j1 (fun h => by have h1 := h.1; rw [mkT_at (by omega)] at h1; omega)) (by omega) (by omega) hP hD hS (lv_sub hl [0, 1, 2, 3] rfl)
                · refine lv_iload_n hx hb dX11_findsNight_48 rfl (lv_at hl 0 rfl) ?_
                  refine lv_goto (tgt := 53) hx hb dX11_findsNight_49 (by decide) ?_
                  refine lv_istore_n (lv' := [(2, .int (iI k)), (3, .int (iI k)), (1, .int (iI fl)), (0, .ref a0)]) hx hb dX11_findsNight_53 rfl hl (by decide) rfl (fun ls hl => ?_)
                  refine zz_iinc (lv' := [(3, .int (iI (k + (-1)))), (2, .int (iI k)), (1, .int (iI fl)), (0, .ref a0)]) hx hb dX11_findsNight_54 hl (k := 1) rfl (by decide) rfl (fun ls hl => ?_)
                  refine lv_goto (tgt := 21) hx hb dX11_findsNight_57 (by decide) ?_
                  exact ih21 (k + (-1)) k _ _ _ (by omega) (by first | exact PoK_take (by omega) j1 ⟨by rw [mkT_at (by omega)]; omega, show suM ms k 2 < shR (mkT (ms 1) t9) mnds_2 (mnds_2 k).toNat by omega⟩ | exact PoK_keep j1 (fun h => absurd (show suM ms k 2 < shR (mkT (ms 1) t9) mnds_2 (mnds_2 k).toNat from h.2) (by omega)) | exact PoK_keep j1 (fun h => by have h1 := h.1; rw [mkT_at (by omega)] at h1; omega)) (by omega) (by omega) hP hD hS (lv_sub hl [0, 1, 2, 3] rfl)
        exact L21 _ ((ms 1) - 1) (-1) _ _ _ (by omega) (by exact PoK_0) (by omega) (Nat.lt_succ_self _) hP hD hS (lv_sub hl [0, 1, 2, 3] rfl)
  exact L6 _ 1 mtkp_3 _ _ _ (by omega) (by exact ⟨0, fun k t' h => h⟩) (by exact hgv) (by exact fun h => absurd h (by decide)) (Nat.lt_succ_self _) hP hD hS (lv_sub hl [0, 1] rfl)

set_option maxHeartbeats 4000000 in
set_option maxRecDepth 100000 in
theorem c_X11_greatestNeed (l : Launch) (D : va_G) (tA : Nat → ClassId) (a0 a1 a2 a3 a4 a5 a6 a7 a8 a9 a10 : Nat) (sz : Nat) (ms : Int → Int) (mbef : Int → Int) (msav : Int → Int) (misv : Int) (mpast : Int → Int) (mpm : Int) (mthr : Int) (mways : Int → Int) (mnds : Int → Int) (mtkp : Int → Int) (mline : Int → Int) (mlm : Int) (mtxt : Int → Int) (mlen : Int) (mat : Int) (mwr : Int) (merr : Int) (mfail : Int) (mcmd : Int → Int) (mcm : Int) (hc : 0 ≤ ms 1 ∧ ms 1 ≤ 6) (hv : TpV (mkT (ms 1) mtkp) mnds) : zMi l yX11_greatestNeed wsX11_greatestNeed ({ frames := 1, cells := 0, slots := 0, locals := 19 }) D tA [.ref a0] (bModel tA a0 a1 a2 a3 a4 a5 a6 a7 a8 a9 a10 ms mbef msav misv mpast mpm mthr mways mnds mtkp mline mlm mtxt mlen mat mwr merr mfail mcmd mcm) sz (fun (z : Int) (u : Unit) => (isGr (mkT (ms 1) mtkp) mnds z)) (fun (u : Unit) => bModel tA a0 a1 a2 a3 a4 a5 a6 a7 a8 a9 a10 ms mbef msav misv mpast mpm mthr mways mnds mtkp mline mlm mtxt mlen mat mwr merr mfail mcmd mcm) 0 0 := by
  refine zMi_of (cc := cX11_greatestNeed) (maxL := 3) (by decide) rfl (fun z u h => rfl) (Nat.le_of_ble_eq_true rfl) ?_
  intro p e s m args below meth c A Q ls hx hb hml hts hown hK hP hD hA hret hl
  obtain ⟨H, hHe⟩ : ∃ H : Heap, H = s.heap := ⟨_, rfl⟩
  have hS : va_S A s.heap H [] := by rw [hHe]; exact va_S.rf
  rw [← hHe] at hP ⊢
  have hl : lv_has ls 3 [(0, .ref a0)] := hl
  have iX11 : ∀ v ∈ wsX110, v ∈ wsX11_greatestNeed := by decide +kernel
  have f_9 := hts (.fieldLink RX11 9 "HarborLightsModel" "s" "[I") (by decide +kernel)
  have f_25 := hts (.fieldLink RX11 25 "HarborLightsModel" "needs" "[I") (by decide +kernel)
  have f_28 := hts (.fieldLink RX11 28 "HarborLightsModel" "takesPart" "[Z") (by decide +kernel)
  have l_124 := hts (.methodLink RX11 124 Lib.Math.max.name) (by decide +kernel)
  have ls_124 := hts (.static Lib.Math.max.name) (by decide +kernel)
  have lc_124 := hts (.code Lib.Math.max.name Lib.Math.max.code 2 (some .int)) (by decide +kernel)
  have li_124 := hts (.initialized "java/lang/Math") (by decide +kernel)
  refine zz_iconst hx hb dX11_greatestNeed_0 ?_
  refine lv_istore_n (lv' := [(1, .int (iI 0)), (0, .ref a0)]) hx hb dX11_greatestNeed_1 rfl hl (by decide) rfl (fun ls hl => ?_)
  refine zz_iconst hx hb dX11_greatestNeed_2 ?_
  refine lv_istore_n (lv' := [(2, .int (iI 0)), (1, .int (iI 0)), (0, .ref a0)]) hx hb dX11_greatestNeed_3 rfl hl (by decide) rfl (fun ls hl => ?_)
  have L4 : ∀ (n : Nat) (k : Int) (g : Int) (H : Heap) (locs : List Loc) (ls : Array Slot), (0 ≤ k ∧ k ≤ ms 1) → (GrK (mkT (ms 1) mtkp) mnds k g) → (ms 1 - k).toNat < n → va_P D vwCl (bModel tA a0 a1 a2 a3 a4 a5 a6 a7 a8 a9 a10 ms mbef msav misv mpast mpm mthr mways mnds mtkp mline mlm mtxt mlen mat mwr merr mfail mcmd mcm) H → va_D A (bModel tA a0 a1 a2 a3 a4 a5 a6 a7 a8 a9 a10 ms mbef msav misv mpast mpm mthr mways mnds mtkp mline mlm mtxt mlen mat mwr merr mfail mcmd mcm) → va_S A s.heap H locs → lv_has ls 3 [(2, .int (iI k)), (1, .int (iI g)), (0, .ref a0)] → W p l e (headSpec wsX11_greatestNeed ({ frames := 1, cells := 0, slots := 0, locals := 19 })).room s m args below meth c H locs 0 0 Q (F0 m 4 ls []) := by
    intro n
    induction n with
    | zero => intro k g H locs ls i0 i1 hmz; exact absurd hmz (Nat.not_lt_zero _)
    | succ n ih4 =>
      intro k g H locs ls i0 i1 hmz hP hD hS hl
      have hg0 := i1.1
      have hg1 := i1.2.1
      refine lv_iload_n hx hb dX11_greatestNeed_4 rfl (lv_at hl 0 rfl) ?_
      refine lv_aload_n hx hb dX11_greatestNeed_5 rfl (lv_at hl 2 rfl) ?_
      refine va_get (D := D) (ci := 13) (v := .ref a1) (C := RX11) (T := TX11) (N := 20) hx hb hts iX11 hown hK hP 0 rfl rfl 0 (by decide) f_9 (fun _ h9 => h9) rfl dX11_greatestNeed_6 ?_
      refine zz_iconst hx hb dX11_greatestNeed_9 ?_
      refine zz_iald hx hb hK hP 1 rfl (by decide) (by omega) dX11_greatestNeed_10 ?_
      refine zz_icmp_ge (tgt := 44) hx hb dX11_greatestNeed_11 (by decide) (by omega) (by omega) (fun c_11 => ?_) (fun c_11 => ?_)
      · refine lv_iload_n hx hb dX11_greatestNeed_44 rfl (lv_at hl 1 rfl) ?_
        exact hret g () _ _ _ _ dX11_greatestNeed_45 (show isGr (mkT (ms 1) mtkp) mnds g from by exact GrK_out (by omega) i1) hP hD hS
      · refine lv_aload_n hx hb dX11_greatestNeed_14 rfl (lv_at hl 2 rfl) ?_
        refine va_get (D := D) (ci := 13) (v := .ref a7) (C := RX11) (T := TX11) (N := 20) hx hb hts iX11 hown hK hP 0 rfl rfl 9 (by decide) f_28 (fun _ h9 => h9) rfl dX11_greatestNeed_15 ?_
        refine lv_iload_n hx hb dX11_greatestNeed_18 rfl (lv_at hl 0 rfl) ?_
        refine zz_zald hx hb hK hP 7 rfl (by decide) (by omega) dX11_greatestNeed_19 ?_
        have r_19 := mkT_01 hv hc.2 (show 0 ≤ k by omega) (show k < ms 1 by omega)
        refine zz_if_eq (tgt := 36) hx hb dX11_greatestNeed_20 (by decide) (by omega) (fun c_20 => ?_) (fun c_20 => ?_)
        · refine lv_iload_n hx hb dX11_greatestNeed_36 rfl (lv_at hl 1 rfl) ?_
          refine lv_istore_n (lv' := [(1, .int (iI g)), (2, .int (iI k)), (0, .ref a0)]) hx hb dX11_greatestNeed_37 rfl hl (by decide) rfl (fun ls hl => ?_)
          refine zz_iinc (lv' := [(2, .int (iI (k + 1))), (1, .int (iI g)), (0, .ref a0)]) hx hb dX11_greatestNeed_38 hl (k := 1) rfl (by decide) rfl (fun ls hl => ?_)
          refine lv_goto (tgt := 4) hx hb dX11_greatestNeed_41 (by decide) ?_
          exact ih4 (k + 1) g _ _ _ (by omega) (by first | exact GrK_max (by omega) hv i1 (by rw [mkT_at (by omega)]; omega) | exact GrK_keep i1 (fun h => by rw [mkT_at (by omega)] at h; omega)) (by omega) hP hD hS (lv_sub hl [0, 1, 2] rfl)
        · refine lv_iload_n hx hb dX11_greatestNeed_23 rfl (lv_at hl 1 rfl) ?_
          refine lv_aload_n hx hb dX11_greatestNeed_24 rfl (lv_at hl 2 rfl) ?_
          refine va_get (D := D) (ci := 13) (v := .ref a6) (C := RX11) (T := TX11) (N := 20) hx hb hts iX11 hown hK hP 0 rfl rfl 8 (by decide) f_25 (fun _ h9 => h9) rfl dX11_greatestNeed_25 ?_
          refine lv_iload_n hx hb dX11_greatestNeed_28 rfl (lv_at hl 0 rfl) ?_
          refine zz_iald hx hb hK hP 6 rfl (by decide) (by omega) dX11_greatestNeed_29 ?_
          refine zz_mmax hx hb (by rw [hml]; exact hl.1.symm) hown l_124 ls_124 li_124 lc_124 (Nat.le_of_ble_eq_true rfl) (Nat.le_of_ble_eq_true rfl) (Nat.le_of_ble_eq_true rfl) (Nat.le_of_ble_eq_true rfl) (by omega) (by omega) dX11_greatestNeed_30 ?_
          refine lv_goto (tgt := 37) hx hb dX11_greatestNeed_33 (by decide) ?_
          refine lv_istore_n (lv' := [(1, .int (iI (max g (mnds k)))), (2, .int (iI k)), (0, .ref a0)]) hx hb dX11_greatestNeed_37 rfl hl (by decide) rfl (fun ls hl => ?_)
          refine zz_iinc (lv' := [(2, .int (iI (k + 1))), (1, .int (iI (max g (mnds k)))), (0, .ref a0)]) hx hb dX11_greatestNeed_38 hl (k := 1) rfl (by decide) rfl (fun ls hl => ?_)
          refine lv_goto (tgt := 4) hx hb dX11_greatestNeed_41 (by decide) ?_
          exact ih4 (k + 1) (max g (mnds k)) _ _ _ (by omega) (by first | exact GrK_max (by omega) hv i1 (by rw [mkT_at (by omega)]; omega) | exact GrK_keep i1 (fun h => by rw [mkT_at (by omega)] at h; omega)) (by omega) hP hD hS (lv_sub hl [0, 1, 2] rfl)
  exact L4 _ 0 0 _ _ _ (by omega) (by exact GrK_0) (Nat.lt_succ_self _) hP hD hS (lv_sub hl [0, 1, 2] rfl)

set_option maxHeartbeats 4000000 in
set_option maxRecDepth 100000 in
theorem c_X11_asksRoute (l : Launch) (D : va_G) (tA : Nat → ClassId) (a0 a1 a2 a3 a4 a5 a6 a7 a8 a9 a10 : Nat) (sz : Nat) (ms : Int → Int) (mbef : Int → Int) (msav : Int → Int) (misv : Int) (mpast : Int → Int) (mpm : Int) (mthr : Int) (mways : Int → Int) (mnds : Int → Int) (mtkp : Int → Int) (mline : Int → Int) (mlm : Int) (mtxt : Int → Int) (mlen : Int) (mat : Int) (mwr : Int) (merr : Int) (mfail : Int) (mcmd : Int → Int) (mcm : Int) (sb : Int) (r_sb : -2147483648 ≤ sb ∧ sb ≤ 2147483647) (hm : MV ms) : zMi l yX11_asksRoute wsX11_asksRoute ({ frames := 3, cells := 0, slots := 0, locals := 67 }) D tA [.ref a0, .int (iI sb)] (bModel tA a0 a1 a2 a3 a4 a5 a6 a7 a8 a9 a10 ms mbef msav misv mpast mpm mthr mways mnds mtkp mline mlm mtxt mlen mat mwr merr mfail mcmd mcm) sz (fun (z : Int) (u : (Int → Int) × (Int → Int) × (Int → Int) × (Int)) => (gatM ms u.2.2.1 u.2.1) ∧ ((u.2.2.2 = 1 ∧ z = 0 ∧ ¬ (0 ≤ sb ∧ sb < ms 1)) ∨ ((0 ≤ sb ∧ sb < ms 1) ∧ ((u.2.2.2 = 2 ∧ z = 0 ∧ u.2.2.1 sb = 0) ∨ (u.2.2.2 = 0 ∧ z = 1 ∧ u.2.2.1 sb = 1))))) (fun (u : (Int → Int) × (Int → Int) × (Int → Int) × (Int)) => bModel tA a0 a1 a2 a3 a4 a5 a6 a7 a8 a9 a10 ms mbef msav misv mpast mpm u.2.2.2 u.1 u.2.1 u.2.2.1 mline mlm mtxt mlen mat mwr merr mfail mcmd mcm) 0 0 := by
  refine zMi_of (cc := cX11_asksRoute) (maxL := 2) (by decide) rfl (fun z u h => zbool z (by omega)) (Nat.le_of_ble_eq_true rfl) ?_
  intro p e s m args below meth c A Q ls hx hb hml hts hown hK hP hD hA hret hl
  obtain ⟨H, hHe⟩ : ∃ H : Heap, H = s.heap := ⟨_, rfl⟩
  have hS : va_S A s.heap H [] := by rw [hHe]; exact va_S.rf
  rw [← hHe] at hP ⊢
  have hl : lv_has ls 2 [(0, .ref a0), (1, .int (iI sb))] := hl
  have iX11 : ∀ v ∈ wsX110, v ∈ wsX11_asksRoute := by decide +kernel
  have f_28 := hts (.fieldLink RX11 28 "HarborLightsModel" "takesPart" "[Z") (by decide +kernel)
  have f_49 := hts (.fieldLink RX11 49 "HarborLightsModel" "thrown" "I") (by decide +kernel)
  obtain ⟨⟨mp0, mp1, mc0, mc1, mf0, mf1, mr0, mr1⟩, hlr, mL, mS⟩ := id hm
  refine lv_aload_n hx hb dX11_asksRoute_0 rfl (lv_at hl 0 rfl) ?_
  refine zz_callVv (As := []) (rest := []) (wf := fun u => bModel tA a0 a1 a2 a3 a4 a5 a6 a7 a8 a9 a10 ms mbef msav misv mpast mpm mthr u.1 u.2.1 u.2.2 mline mlm mtxt mlen mat mwr merr mfail mcmd mcm) ⟨hx, hb, hml, hown, hts⟩ (c_X11_findsNeeds l D tA a0 a1 a2 a3 a4 a5 a6 a7 a8 a9 a10 H.size ms mbef msav misv mpast mpm mthr mways mnds mtkp mline mlm mtxt mlen mat mwr merr mfail mcmd mcm (by first | assumption | omega)) (cwV 0 hts gX11_asksRoute_X11_findsNeeds rfl rfl rfl (by decide +kernel) ⟨Nat.le_of_ble_eq_true rfl, Nat.le_of_ble_eq_true rfl⟩) hK hP hD hS hA [0, 1, 2, 3, 4, 5, 6, 7, 8, 9, 10] [] [0, 1, 2, 3, 4, 5, 6, 7, 8, 9, 10] rfl rfl (by decide) (by decide) (by decide) (by decide) (fun _ => rfl) (ci := 13) (q0 := 0) rfl rfl rfl rfl rfl hl.1 (Nat.le_of_ble_eq_true rfl) dX11_asksRoute_1 ⟨Nat.le_of_ble_eq_true rfl, Nat.le_of_ble_eq_true rfl⟩ ?_
  intro u H locs p1_4 hP hD hS
  obtain ⟨mways_1, mnds_2, mtkp_3⟩ := u
  have hP : va_P D vwCl (bModel tA a0 a1 a2 a3 a4 a5 a6 a7 a8 a9 a10 ms mbef msav misv mpast mpm mthr mways_1 mnds_2 mtkp_3 mline mlm mtxt mlen mat mwr merr mfail mcmd mcm) H := hP
  have hD : va_D A (bModel tA a0 a1 a2 a3 a4 a5 a6 a7 a8 a9 a10 ms mbef msav misv mpast mpm mthr mways_1 mnds_2 mtkp_3 mline mlm mtxt mlen mat mwr merr mfail mcmd mcm) := hD
  have q_1 : gatM ms mtkp_3 mnds_2 := p1_4
  refine lv_aload_n hx hb dX11_asksRoute_4 rfl (lv_at hl 0 rfl) ?_
  refine lv_aload_n hx hb dX11_asksRoute_5 rfl (lv_at hl 0 rfl) ?_
  refine lv_iload_n hx hb dX11_asksRoute_6 rfl (lv_at hl 1 rfl) ?_
  refine zz_callVi (As := [.int (iI sb)]) (rest := [.ref a0]) (wf := fun u => bModel tA a0 a1 a2 a3 a4 a5 a6 a7 a8 a9 a10 ms mbef msav misv mpast mpm mthr mways_1 mnds_2 mtkp_3 mline mlm mtxt mlen mat mwr merr mfail mcmd mcm) ⟨hx, hb, hml, hown, hts⟩ (c_X11_isSubscriber l D tA a0 a1 a2 a3 a4 a5 a6 a7 a8 a9 a10 H.size ms mbef msav misv mpast mpm mthr mways_1 mnds_2 mtkp_3 mline mlm mtxt mlen mat mwr merr mfail mcmd mcm sb (by first | assumption | omega) (by first | assumption | omega)) (cwV 1 hts gX11_asksRoute_X11_isSubscriber rfl rfl rfl (by decide +kernel) ⟨Nat.le_of_ble_eq_true rfl, Nat.le_of_ble_eq_true rfl⟩) hK hP hD hS hA [0, 1, 2, 3, 4, 5, 6, 7, 8, 9, 10] [] [0, 1, 2, 3, 4, 5, 6, 7, 8, 9, 10] rfl rfl (by decide) (by decide) (by decide) (by decide) (fun _ => rfl) (ci := 13) (q0 := 0) rfl rfl rfl rfl rfl hl.1 (Nat.le_of_ble_eq_true rfl) dX11_asksRoute_7 ⟨Nat.le_of_ble_eq_true rfl, Nat.le_of_ble_eq_true rfl⟩ ?_
  intro z7_5 u H locs p7_6 hP hD hS
  have hP : va_P D vwCl (bModel tA a0 a1 a2 a3 a4 a5 a6 a7 a8 a9 a10 ms mbef msav misv mpast mpm mthr mways_1 mnds_2 mtkp_3 mline mlm mtxt mlen mat mwr merr mfail mcmd mcm) H := hP
  have hD : va_D A (bModel tA a0 a1 a2 a3 a4 a5 a6 a7 a8 a9 a10 ms mbef msav misv mpast mpm mthr mways_1 mnds_2 mtkp_3 mline mlm mtxt mlen mat mwr merr mfail mcmd mcm) := hD
  have q_7 : (z7_5 = 1 ∧ 0 ≤ sb ∧ sb < ms 1) ∨ (z7_5 = 0 ∧ ¬ (0 ≤ sb ∧ sb < ms 1)) := p7_6
  refine zz_if_ne (tgt := 17) hx hb dX11_asksRoute_10 (by decide) (by omega) (fun c_10 => ?_) (fun c_10 => ?_)
  · refine lv_aload_n hx hb dX11_asksRoute_17 rfl (lv_at hl 0 rfl) ?_
    refine va_get (D := D) (ci := 13) (v := .ref a7) (C := RX11) (T := TX11) (N := 20) hx hb hts iX11 hown hK hP 0 rfl rfl 9 (by decide) f_28 (fun _ h9 => h9) rfl dX11_asksRoute_18 ?_
    refine lv_iload_n hx hb dX11_asksRoute_21 rfl (lv_at hl 1 rfl) ?_
    refine zz_zald hx hb hK hP 7 rfl (by decide) (by omega) dX11_asksRoute_22 ?_
    have hga := q_1 sb (by omega) (by omega)
    have hgb : mtkp_3 sb = 0 ∨ mtkp_3 sb = 1 := by rw [hga.2]; split <;> omega
    refine zz_if_ne (tgt := 30) hx hb dX11_asksRoute_23 (by decide) (by omega) (fun c_23 => ?_) (fun c_23 => ?_)
    · refine zz_iconst hx hb dX11_asksRoute_30 ?_
      refine va_put (D := D) (ci := 13) (v := .int (iI 0)) (ty := .int) (C := RX11) (T := TX11) (N := 20) hx hb hts iX11 tyX11 tyX11_ok nmX11 hown hK hP hD hS 0 rfl rfl 6 (by decide) f_49 (fun _ h9 => h9) rfl (by decide +kernel) rfl rfl (Nat.le_of_ble_eq_true rfl) dX11_asksRoute_31 (fun H locs hP hD hS => ?_)
      have hP : va_P D vwCl (bModel tA a0 a1 a2 a3 a4 a5 a6 a7 a8 a9 a10 ms mbef msav misv mpast mpm 0 mways_1 mnds_2 mtkp_3 mline mlm mtxt mlen mat mwr merr mfail mcmd mcm) H := hP
      have hD : va_D A (bModel tA a0 a1 a2 a3 a4 a5 a6 a7 a8 a9 a10 ms mbef msav misv mpast mpm 0 mways_1 mnds_2 mtkp_3 mline mlm mtxt mlen mat mwr merr mfail mcmd mcm) := hD
      refine lv_aload_n hx hb dX11_asksRoute_34 rfl (lv_at hl 0 rfl) ?_
      refine va_get (D := D) (ci := 13) (v := .int (iI 0)) (C := RX11) (T := TX11) (N := 20) hx hb hts iX11 hown hK hP 0 rfl rfl 6 (by decide) f_49 (fun _ h9 => h9) rfl dX11_asksRoute_35 ?_
      refine zz_if_ne (tgt := 45) hx hb dX11_asksRoute_38 (by decide) (by decide) (fun c_38 => ?_) (fun c_38 => ?_)
      · exact absurd c_38 (by decide)
      · refine zz_iconst hx hb dX11_asksRoute_41 ?_
        refine lv_goto (tgt := 46) hx hb dX11_asksRoute_42 (by decide) ?_
        exact hret 1 (mways_1, mnds_2, mtkp_3, 0) _ _ _ _ dX11_asksRoute_46 ⟨(show gatM ms mtkp_3 mnds_2 from by exact q_1), (show (0 = 1 ∧ (1 : Int) = 0 ∧ ¬ (0 ≤ sb ∧ sb < ms 1)) ∨ ((0 ≤ sb ∧ sb < ms 1) ∧ ((0 = 2 ∧ (1 : Int) = 0 ∧ mtkp_3 sb = 0) ∨ (0 = 0 ∧ (1 : Int) = 1 ∧ mtkp_3 sb = 1))) from by omega)⟩ hP hD hS
    · refine zz_iconst hx hb dX11_asksRoute_26 ?_
      refine lv_goto (tgt := 31) hx hb dX11_asksRoute_27 (by decide) ?_
      refine va_put (D := D) (ci := 13) (v := .int (iI 2)) (ty := .int) (C := RX11) (T := TX11) (N := 20) hx hb hts iX11 tyX11 tyX11_ok nmX11 hown hK hP hD hS 0 rfl rfl 6 (by decide) f_49 (fun _ h9 => h9) rfl (by decide +kernel) rfl rfl (Nat.le_of_ble_eq_true rfl) dX11_asksRoute_31 (fun H locs hP hD hS => ?_)
      have hP : va_P D vwCl (bModel tA a0 a1 a2 a3 a4 a5 a6 a7 a8 a9 a10 ms mbef msav misv mpast mpm 2 mways_1 mnds_2 mtkp_3 mline mlm mtxt mlen mat mwr merr mfail mcmd mcm) H := hP
      have hD : va_D A (bModel tA a0 a1 a2 a3 a4 a5 a6 a7 a8 a9 a10 ms mbef msav misv mpast mpm 2 mways_1 mnds_2 mtkp_3 mline mlm mtxt mlen mat mwr merr mfail mcmd mcm) := hD
      refine lv_aload_n hx hb dX11_asksRoute_34 rfl (lv_at hl 0 rfl) ?_
      refine va_get (D := D) (ci := 13) (v := .int (iI 2)) (C := RX11) (T := TX11) (N := 20) hx hb hts iX11 hown hK hP 0 rfl rfl 6 (by decide) f_49 (fun _ h9 => h9) rfl dX11_asksRoute_35 ?_
      refine zz_if_ne (tgt := 45) hx hb dX11_asksRoute_38 (by decide) (by decide) (fun c_38 => ?_) (fun c_38 => ?_)
      · refine zz_iconst hx hb dX11_asksRoute_45 ?_
        exact hret 0 (mways_1, mnds_2, mtkp_3, 2) _ _ _ _ dX11_asksRoute_46 ⟨(show gatM ms mtkp_3 mnds_2 from by exact q_1), (show (2 = 1 ∧ (0 : Int) = 0 ∧ ¬ (0 ≤ sb ∧ sb < ms 1)) ∨ ((0 ≤ sb ∧ sb < ms 1) ∧ ((2 = 2 ∧ (0 : Int) = 0 ∧ mtkp_3 sb = 0) ∨ (2 = 0 ∧ (0 : Int) = 1 ∧ mtkp_3 sb = 1))) from by omega)⟩ hP hD hS
      · exact absurd c_38 (by decide)
  · refine zz_iconst hx hb dX11_asksRoute_13 ?_
    refine lv_goto (tgt := 31) hx hb dX11_asksRoute_14 (by decide) ?_
    refine va_put (D := D) (ci := 13) (v := .int (iI 1)) (ty := .int) (C := RX11) (T := TX11) (N := 20) hx hb hts iX11 tyX11 tyX11_ok nmX11 hown hK hP hD hS 0 rfl rfl 6 (by decide) f_49 (fun _ h9 => h9) rfl (by decide +kernel) rfl rfl (Nat.le_of_ble_eq_true rfl) dX11_asksRoute_31 (fun H locs hP hD hS => ?_)
    have hP : va_P D vwCl (bModel tA a0 a1 a2 a3 a4 a5 a6 a7 a8 a9 a10 ms mbef msav misv mpast mpm 1 mways_1 mnds_2 mtkp_3 mline mlm mtxt mlen mat mwr merr mfail mcmd mcm) H := hP
    have hD : va_D A (bModel tA a0 a1 a2 a3 a4 a5 a6 a7 a8 a9 a10 ms mbef msav misv mpast mpm 1 mways_1 mnds_2 mtkp_3 mline mlm mtxt mlen mat mwr merr mfail mcmd mcm) := hD
    refine lv_aload_n hx hb dX11_asksRoute_34 rfl (lv_at hl 0 rfl) ?_
    refine va_get (D := D) (ci := 13) (v := .int (iI 1)) (C := RX11) (T := TX11) (N := 20) hx hb hts iX11 hown hK hP 0 rfl rfl 6 (by decide) f_49 (fun _ h9 => h9) rfl dX11_asksRoute_35 ?_
    refine zz_if_ne (tgt := 45) hx hb dX11_asksRoute_38 (by decide) (by decide) (fun c_38 => ?_) (fun c_38 => ?_)
    · refine zz_iconst hx hb dX11_asksRoute_45 ?_
      exact hret 0 (mways_1, mnds_2, mtkp_3, 1) _ _ _ _ dX11_asksRoute_46 ⟨(show gatM ms mtkp_3 mnds_2 from by exact q_1), (show (1 = 1 ∧ (0 : Int) = 0 ∧ ¬ (0 ≤ sb ∧ sb < ms 1)) ∨ ((0 ≤ sb ∧ sb < ms 1) ∧ ((1 = 2 ∧ (0 : Int) = 0 ∧ mtkp_3 sb = 0) ∨ (1 = 0 ∧ (0 : Int) = 1 ∧ mtkp_3 sb = 1))) from by omega)⟩ hP hD hS
    · exact absurd c_38 (by decide)

set_option maxHeartbeats 4000000 in
set_option maxRecDepth 100000 in
theorem c_X11_needOf (l : Launch) (D : va_G) (tA : Nat → ClassId) (a0 a1 a2 a3 a4 a5 a6 a7 a8 a9 a10 : Nat) (sz : Nat) (ms : Int → Int) (mbef : Int → Int) (msav : Int → Int) (misv : Int) (mpast : Int → Int) (mpm : Int) (mthr : Int) (mways : Int → Int) (mnds : Int → Int) (mtkp : Int → Int) (mline : Int → Int) (mlm : Int) (mtxt : Int → Int) (mlen : Int) (mat : Int) (mwr : Int) (merr : Int) (mfail : Int) (mcmd : Int → Int) (mcm : Int) (sb : Int) (r_sb : -2147483648 ≤ sb ∧ sb ≤ 2147483647) (hm : MV ms) : zMi l yX11_needOf wsX11_needOf ({ frames := 4, cells := 0, slots := 0, locals := 88 }) D tA [.ref a0, .int (iI sb)] (bModel tA a0 a1 a2 a3 a4 a5 a6 a7 a8 a9 a10 ms mbef msav misv mpast mpm mthr mways mnds mtkp mline mlm mtxt mlen mat mwr merr mfail mcmd mcm) sz (fun (z : Int) (u : (Int → Int) × (Int → Int) × (Int → Int) × (Int)) => (gatM ms u.2.2.1 u.2.1) ∧ ((u.2.2.2 = 1 ∧ ¬ (0 ≤ sb ∧ sb < ms 1)) ∨ ((0 ≤ sb ∧ sb < ms 1) ∧ ((u.2.2.2 = 2 ∧ u.2.2.1 sb = 0) ∨ (u.2.2.2 = 0 ∧ u.2.2.1 sb = 1 ∧ z = u.2.1 sb))))) (fun (u : (Int → Int) × (Int → Int) × (Int → Int) × (Int)) => bModel tA a0 a1 a2 a3 a4 a5 a6 a7 a8 a9 a10 ms mbef msav misv mpast mpm u.2.2.2 u.1 u.2.1 u.2.2.1 mline mlm mtxt mlen mat mwr merr mfail mcmd mcm) 0 0 := by
  refine zMi_of (cc := cX11_needOf) (maxL := 2) (by decide) rfl (fun z u h => rfl) (Nat.le_of_ble_eq_true rfl) ?_
  intro p e s m args below meth c A Q ls hx hb hml hts hown hK hP hD hA hret hl
  obtain ⟨H, hHe⟩ : ∃ H : Heap, H = s.heap := ⟨_, rfl⟩
  have hS : va_S A s.heap H [] := by rw [hHe]; exact va_S.rf
  rw [← hHe] at hP ⊢
  have hl : lv_has ls 2 [(0, .ref a0), (1, .int (iI sb))] := hl
  have iX11 : ∀ v ∈ wsX110, v ∈ wsX11_needOf := by decide +kernel
  have f_25 := hts (.fieldLink RX11 25 "HarborLightsModel" "needs" "[I") (by decide +kernel)
  obtain ⟨⟨mp0, mp1, mc0, mc1, mf0, mf1, mr0, mr1⟩, hlr, mL, mS⟩ := id hm
  refine lv_aload_n hx hb dX11_needOf_0 rfl (lv_at hl 0 rfl) ?_
  refine lv_iload_n hx hb dX11_needOf_1 rfl (lv_at hl 1 rfl) ?_
  refine zz_callVi (As := [.int (iI sb)]) (rest := []) (wf := fun u => bModel tA a0 a1 a2 a3 a4 a5 a6 a7 a8 a9 a10 ms mbef msav misv mpast mpm u.2.2.2 u.1 u.2.1 u.2.2.1 mline mlm mtxt mlen mat mwr merr mfail mcmd mcm) ⟨hx, hb, hml, hown, hts⟩ (c_X11_asksRoute l D tA a0 a1 a2 a3 a4 a5 a6 a7 a8 a9 a10 H.size ms mbef msav misv mpast mpm mthr mways mnds mtkp mline mlm mtxt mlen mat mwr merr mfail mcmd mcm sb (by first | assumption | omega) (by first | assumption | omega)) (cwV 1 hts gX11_needOf_X11_asksRoute rfl rfl rfl (by decide +kernel) ⟨Nat.le_of_ble_eq_true rfl, Nat.le_of_ble_eq_true rfl⟩) hK hP hD hS hA [0, 1, 2, 3, 4, 5, 6, 7, 8, 9, 10] [] [0, 1, 2, 3, 4, 5, 6, 7, 8, 9, 10] rfl rfl (by decide) (by decide) (by decide) (by decide) (fun _ => rfl) (ci := 13) (q0 := 0) rfl rfl rfl rfl rfl hl.1 (Nat.le_of_ble_eq_true rfl) dX11_needOf_2 ⟨Nat.le_of_ble_eq_true rfl, Nat.le_of_ble_eq_true rfl⟩ ?_
  intro z2_5 u H locs p2_6 hP hD hS
  obtain ⟨mways_1, mnds_2, mtkp_3, mthr_4⟩ := u
  have hP : va_P D vwCl (bModel tA a0 a1 a2 a3 a4 a5 a6 a7 a8 a9 a10 ms mbef msav misv mpast mpm mthr_4 mways_1 mnds_2 mtkp_3 mline mlm mtxt mlen mat mwr merr mfail mcmd mcm) H := hP
  have hD : va_D A (bModel tA a0 a1 a2 a3 a4 a5 a6 a7 a8 a9 a10 ms mbef msav misv mpast mpm mthr_4 mways_1 mnds_2 mtkp_3 mline mlm mtxt mlen mat mwr merr mfail mcmd mcm) := hD
  have q_2 : gatM ms mtkp_3 mnds_2 := p2_6.1
  have qz_2 : (mthr_4 = 1 ∧ z2_5 = 0 ∧ ¬ (0 ≤ sb ∧ sb < ms 1)) ∨ ((0 ≤ sb ∧ sb < ms 1) ∧ ((mthr_4 = 2 ∧ z2_5 = 0 ∧ mtkp_3 sb = 0) ∨ (mthr_4 = 0 ∧ z2_5 = 1 ∧ mtkp_3 sb = 1))) := p2_6.2
  refine zz_if_eq (tgt := 17) hx hb dX11_needOf_5 (by decide) (by omega) (fun c_5 => ?_) (fun c_5 => ?_)
  · refine zz_iconst hx hb dX11_needOf_17 ?_
    exact hret 0 (mways_1, mnds_2, mtkp_3, mthr_4) _ _ _ _ dX11_needOf_18 ⟨(show gatM ms mtkp_3 mnds_2 from by exact q_2), (show (mthr_4 = 1 ∧ ¬ (0 ≤ sb ∧ sb < ms 1)) ∨ ((0 ≤ sb ∧ sb < ms 1) ∧ ((mthr_4 = 2 ∧ mtkp_3 sb = 0) ∨ (mthr_4 = 0 ∧ mtkp_3 sb = 1 ∧ (0 : Int) = mnds_2 sb))) from by omega)⟩ hP hD hS
  · refine lv_aload_n hx hb dX11_needOf_8 rfl (lv_at hl 0 rfl) ?_
    refine va_get (D := D) (ci := 13) (v := .ref a6) (C := RX11) (T := TX11) (N := 20) hx hb hts iX11 hown hK hP 0 rfl rfl 8 (by decide) f_25 (fun _ h9 => h9) rfl dX11_needOf_9 ?_
    refine lv_iload_n hx hb dX11_needOf_12 rfl (lv_at hl 1 rfl) ?_
    refine zz_iald hx hb hK hP 6 rfl (by decide) (by omega) dX11_needOf_13 ?_
    refine lv_goto (tgt := 18) hx hb dX11_needOf_14 (by decide) ?_
    exact hret (mnds_2 sb) (mways_1, mnds_2, mtkp_3, mthr_4) _ _ _ _ dX11_needOf_18 ⟨(show gatM ms mtkp_3 mnds_2 from by exact q_2), (show (mthr_4 = 1 ∧ ¬ (0 ≤ sb ∧ sb < ms 1)) ∨ ((0 ≤ sb ∧ sb < ms 1) ∧ ((mthr_4 = 2 ∧ mtkp_3 sb = 0) ∨ (mthr_4 = 0 ∧ mtkp_3 sb = 1 ∧ (mnds_2 sb) = mnds_2 sb))) from by omega)⟩ hP hD hS

set_option maxHeartbeats 4000000 in
set_option maxRecDepth 100000 in
theorem c_X11_shareOf (l : Launch) (D : va_G) (tA : Nat → ClassId) (a0 a1 a2 a3 a4 a5 a6 a7 a8 a9 a10 : Nat) (sz : Nat) (ms : Int → Int) (mbef : Int → Int) (msav : Int → Int) (misv : Int) (mpast : Int → Int) (mpm : Int) (mthr : Int) (mways : Int → Int) (mnds : Int → Int) (mtkp : Int → Int) (mline : Int → Int) (mlm : Int) (mtxt : Int → Int) (mlen : Int) (mat : Int) (mwr : Int) (merr : Int) (mfail : Int) (mcmd : Int → Int) (mcm : Int) (sb : Int) (r_sb : -2147483648 ≤ sb ∧ sb ≤ 2147483647) (hm : MV ms) : zMi l yX11_shareOf wsX11_shareOf ({ frames := 4, cells := 0, slots := 0, locals := 88 }) D tA [.ref a0, .int (iI sb)] (bModel tA a0 a1 a2 a3 a4 a5 a6 a7 a8 a9 a10 ms mbef msav misv mpast mpm mthr mways mnds mtkp mline mlm mtxt mlen mat mwr merr mfail mcmd mcm) sz (fun (z : Int) (u : (Int → Int) × (Int → Int) × (Int → Int) × (Int)) => (gatM ms u.2.2.1 u.2.1) ∧ ((u.2.2.2 = 1 ∧ ¬ (0 ≤ sb ∧ sb < ms 1)) ∨ ((0 ≤ sb ∧ sb < ms 1) ∧ ((u.2.2.2 = 2 ∧ u.2.2.1 sb = 0) ∨ (u.2.2.2 = 0 ∧ u.2.2.1 sb = 1 ∧ z = shR (mkT (ms 1) u.2.2.1) u.2.1 (u.2.1 sb).toNat))))) (fun (u : (Int → Int) × (Int → Int) × (Int → Int) × (Int)) => bModel tA a0 a1 a2 a3 a4 a5 a6 a7 a8 a9 a10 ms mbef msav misv mpast mpm u.2.2.2 u.1 u.2.1 u.2.2.1 mline mlm mtxt mlen mat mwr merr mfail mcmd mcm) 0 0 := by
  refine zMi_of (cc := cX11_shareOf) (maxL := 2) (by decide) rfl (fun z u h => rfl) (Nat.le_of_ble_eq_true rfl) ?_
  intro p e s m args below meth c A Q ls hx hb hml hts hown hK hP hD hA hret hl
  obtain ⟨H, hHe⟩ : ∃ H : Heap, H = s.heap := ⟨_, rfl⟩
  have hS : va_S A s.heap H [] := by rw [hHe]; exact va_S.rf
  rw [← hHe] at hP ⊢
  have hl : lv_has ls 2 [(0, .ref a0), (1, .int (iI sb))] := hl
  obtain ⟨⟨mp0, mp1, mc0, mc1, mf0, mf1, mr0, mr1⟩, hlr, mL, mS⟩ := id hm
  refine lv_aload_n hx hb dX11_shareOf_0 rfl (lv_at hl 0 rfl) ?_
  refine lv_iload_n hx hb dX11_shareOf_1 rfl (lv_at hl 1 rfl) ?_
  refine zz_callVi (As := [.int (iI sb)]) (rest := []) (wf := fun u => bModel tA a0 a1 a2 a3 a4 a5 a6 a7 a8 a9 a10 ms mbef msav misv mpast mpm u.2.2.2 u.1 u.2.1 u.2.2.1 mline mlm mtxt mlen mat mwr merr mfail mcmd mcm) ⟨hx, hb, hml, hown, hts⟩ (c_X11_asksRoute l D tA a0 a1 a2 a3 a4 a5 a6 a7 a8 a9 a10 H.size ms mbef msav misv mpast mpm mthr mways mnds mtkp mline mlm mtxt mlen mat mwr merr mfail mcmd mcm sb (by first | assumption | omega) (by first | assumption | omega)) (cwV 1 hts gX11_shareOf_X11_asksRoute rfl rfl rfl (by decide +kernel) ⟨Nat.le_of_ble_eq_true rfl, Nat.le_of_ble_eq_true rfl⟩) hK hP hD hS hA [0, 1, 2, 3, 4, 5, 6, 7, 8, 9, 10] [] [0, 1, 2, 3, 4, 5, 6, 7, 8, 9, 10] rfl rfl (by decide) (by decide) (by decide) (by decide) (fun _ => rfl) (ci := 13) (q0 := 0) rfl rfl rfl rfl rfl hl.1 (Nat.le_of_ble_eq_true rfl) dX11_shareOf_2 ⟨Nat.le_of_ble_eq_true rfl, Nat.le_of_ble_eq_true rfl⟩ ?_
  intro z2_5 u H locs p2_6 hP hD hS
  obtain ⟨mways_1, mnds_2, mtkp_3, mthr_4⟩ := u
  have hP : va_P D vwCl (bModel tA a0 a1 a2 a3 a4 a5 a6 a7 a8 a9 a10 ms mbef msav misv mpast mpm mthr_4 mways_1 mnds_2 mtkp_3 mline mlm mtxt mlen mat mwr merr mfail mcmd mcm) H := hP
  have hD : va_D A (bModel tA a0 a1 a2 a3 a4 a5 a6 a7 a8 a9 a10 ms mbef msav misv mpast mpm mthr_4 mways_1 mnds_2 mtkp_3 mline mlm mtxt mlen mat mwr merr mfail mcmd mcm) := hD
  have q_2 : gatM ms mtkp_3 mnds_2 := p2_6.1
  have qz_2 : (mthr_4 = 1 ∧ z2_5 = 0 ∧ ¬ (0 ≤ sb ∧ sb < ms 1)) ∨ ((0 ≤ sb ∧ sb < ms 1) ∧ ((mthr_4 = 2 ∧ z2_5 = 0 ∧ mtkp_3 sb = 0) ∨ (mthr_4 = 0 ∧ z2_5 = 1 ∧ mtkp_3 sb = 1))) := p2_6.2
  refine zz_if_eq (tgt := 16) hx hb dX11_shareOf_5 (by decide) (by omega) (fun c_5 => ?_) (fun c_5 => ?_)
  · refine zz_iconst hx hb dX11_shareOf_16 ?_
    exact hret 0 (mways_1, mnds_2, mtkp_3, mthr_4) _ _ _ _ dX11_shareOf_17 ⟨(show gatM ms mtkp_3 mnds_2 from by exact q_2), (show (mthr_4 = 1 ∧ ¬ (0 ≤ sb ∧ sb < ms 1)) ∨ ((0 ≤ sb ∧ sb < ms 1) ∧ ((mthr_4 = 2 ∧ mtkp_3 sb = 0) ∨ (mthr_4 = 0 ∧ mtkp_3 sb = 1 ∧ (0 : Int) = shR (mkT (ms 1) mtkp_3) mnds_2 (mnds_2 sb).toNat))) from by omega)⟩ hP hD hS
  · refine lv_aload_n hx hb dX11_shareOf_8 rfl (lv_at hl 0 rfl) ?_
    refine lv_iload_n hx hb dX11_shareOf_9 rfl (lv_at hl 1 rfl) ?_
    refine zz_callVi (As := [.int (iI sb)]) (rest := []) (wf := fun u => bModel tA a0 a1 a2 a3 a4 a5 a6 a7 a8 a9 a10 ms mbef msav misv mpast mpm mthr_4 mways_1 mnds_2 mtkp_3 mline mlm mtxt mlen mat mwr merr mfail mcmd mcm) ⟨hx, hb, hml, hown, hts⟩ (c_X11_share l D tA a0 a1 a2 a3 a4 a5 a6 a7 a8 a9 a10 H.size ms mbef msav misv mpast mpm mthr_4 mways_1 mnds_2 mtkp_3 mline mlm mtxt mlen mat mwr merr mfail mcmd mcm sb (by first | assumption | omega) (by first | assumption | omega) (gatM_V q_2) (by first | assumption | omega) (by first | assumption | omega)) (cwV 1 hts gX11_shareOf_X11_share rfl rfl rfl (by decide +kernel) ⟨Nat.le_of_ble_eq_true rfl, Nat.le_of_ble_eq_true rfl⟩) hK hP hD hS hA [0, 1, 2, 3, 4, 5, 6, 7, 8, 9, 10] [] [0, 1, 2, 3, 4, 5, 6, 7, 8, 9, 10] rfl rfl (by decide) (by decide) (by decide) (by decide) (fun _ => rfl) (ci := 13) (q0 := 0) rfl rfl rfl rfl rfl hl.1 (Nat.le_of_ble_eq_true rfl) dX11_shareOf_10 ⟨Nat.le_of_ble_eq_true rfl, Nat.le_of_ble_eq_true rfl⟩ ?_
    intro z10_7 u H locs p10_8 hP hD hS
    have hP : va_P D vwCl (bModel tA a0 a1 a2 a3 a4 a5 a6 a7 a8 a9 a10 ms mbef msav misv mpast mpm mthr_4 mways_1 mnds_2 mtkp_3 mline mlm mtxt mlen mat mwr merr mfail mcmd mcm) H := hP
    have hD : va_D A (bModel tA a0 a1 a2 a3 a4 a5 a6 a7 a8 a9 a10 ms mbef msav misv mpast mpm mthr_4 mways_1 mnds_2 mtkp_3 mline mlm mtxt mlen mat mwr merr mfail mcmd mcm) := hD
    have q_10 : z10_7 = shR (mkT (ms 1) mtkp_3) mnds_2 (mnds_2 sb).toNat := p10_8.1
    have q2_10 : 0 ≤ z10_7 ∧ z10_7 ≤ 46800 := p10_8.2
    refine lv_goto (tgt := 17) hx hb dX11_shareOf_13 (by decide) ?_
    exact hret z10_7 (mways_1, mnds_2, mtkp_3, mthr_4) _ _ _ _ dX11_shareOf_17 ⟨(show gatM ms mtkp_3 mnds_2 from by exact q_2), (show (mthr_4 = 1 ∧ ¬ (0 ≤ sb ∧ sb < ms 1)) ∨ ((0 ≤ sb ∧ sb < ms 1) ∧ ((mthr_4 = 2 ∧ mtkp_3 sb = 0) ∨ (mthr_4 = 0 ∧ mtkp_3 sb = 1 ∧ z10_7 = shR (mkT (ms 1) mtkp_3) mnds_2 (mnds_2 sb).toNat))) from by omega)⟩ hP hD hS

set_option maxHeartbeats 4000000 in
set_option maxRecDepth 100000 in
theorem c_X11_shareByOrders (l : Launch) (D : va_G) (tA : Nat → ClassId) (a0 a1 a2 a3 a4 a5 a6 a7 a8 a9 a10 : Nat) (sz : Nat) (ms : Int → Int) (mbef : Int → Int) (msav : Int → Int) (misv : Int) (mpast : Int → Int) (mpm : Int) (mthr : Int) (mways : Int → Int) (mnds : Int → Int) (mtkp : Int → Int) (mline : Int → Int) (mlm : Int) (mtxt : Int → Int) (mlen : Int) (mat : Int) (mwr : Int) (merr : Int) (mfail : Int) (mcmd : Int → Int) (mcm : Int) (sb : Int) (r_sb : -2147483648 ≤ sb ∧ sb ≤ 2147483647) (hm : MV ms) : zMi l yX11_shareByOrders wsX11_shareByOrders ({ frames := 5, cells := 0, slots := 0, locals := 109 }) D tA [.ref a0, .int (iI sb)] (bModel tA a0 a1 a2 a3 a4 a5 a6 a7 a8 a9 a10 ms mbef msav misv mpast mpm mthr mways mnds mtkp mline mlm mtxt mlen mat mwr merr mfail mcmd mcm) sz (fun (z : Int) (u : (Int → Int) × (Int → Int) × (Int → Int) × (Int)) => (gatM ms u.2.2.1 u.2.1) ∧ ((u.2.2.2 = 1 ∧ ¬ (0 ≤ sb ∧ sb < ms 1)) ∨ ((0 ≤ sb ∧ sb < ms 1) ∧ ((u.2.2.2 = 2 ∧ u.2.2.1 sb = 0) ∨ (u.2.2.2 = 0 ∧ u.2.2.1 sb = 1 ∧ z = shR (mkT (ms 1) u.2.2.1) u.2.1 (u.2.1 sb).toNat))))) (fun (u : (Int → Int) × (Int → Int) × (Int → Int) × (Int)) => bModel tA a0 a1 a2 a3 a4 a5 a6 a7 a8 a9 a10 ms mbef msav misv mpast mpm u.2.2.2 u.1 u.2.1 u.2.2.1 mline mlm mtxt mlen mat mwr merr mfail mcmd mcm) 0 0 := by
  refine zMi_of (cc := cX11_shareByOrders) (maxL := 2) (by decide) rfl (fun z u h => rfl) (Nat.le_of_ble_eq_true rfl) ?_
  intro p e s m args below meth c A Q ls hx hb hml hts hown hK hP hD hA hret hl
  obtain ⟨H, hHe⟩ : ∃ H : Heap, H = s.heap := ⟨_, rfl⟩
  have hS : va_S A s.heap H [] := by rw [hHe]; exact va_S.rf
  rw [← hHe] at hP ⊢
  have hl : lv_has ls 2 [(0, .ref a0), (1, .int (iI sb))] := hl
  refine lv_aload_n hx hb dX11_shareByOrders_0 rfl (lv_at hl 0 rfl) ?_
  refine lv_iload_n hx hb dX11_shareByOrders_1 rfl (lv_at hl 1 rfl) ?_
  refine zz_callVi (As := [.int (iI sb)]) (rest := []) (wf := fun u => bModel tA a0 a1 a2 a3 a4 a5 a6 a7 a8 a9 a10 ms mbef msav misv mpast mpm u.2.2.2 u.1 u.2.1 u.2.2.1 mline mlm mtxt mlen mat mwr merr mfail mcmd mcm) ⟨hx, hb, hml, hown, hts⟩ (c_X11_shareOf l D tA a0 a1 a2 a3 a4 a5 a6 a7 a8 a9 a10 H.size ms mbef msav misv mpast mpm mthr mways mnds mtkp mline mlm mtxt mlen mat mwr merr mfail mcmd mcm sb (by first | assumption | omega) (by first | assumption | omega)) (cwV 1 hts gX11_shareByOrders_X11_shareOf rfl rfl rfl (by decide +kernel) ⟨Nat.le_of_ble_eq_true rfl, Nat.le_of_ble_eq_true rfl⟩) hK hP hD hS hA [0, 1, 2, 3, 4, 5, 6, 7, 8, 9, 10] [] [0, 1, 2, 3, 4, 5, 6, 7, 8, 9, 10] rfl rfl (by decide) (by decide) (by decide) (by decide) (fun _ => rfl) (ci := 13) (q0 := 0) rfl rfl rfl rfl rfl hl.1 (Nat.le_of_ble_eq_true rfl) dX11_shareByOrders_2 ⟨Nat.le_of_ble_eq_true rfl, Nat.le_of_ble_eq_true rfl⟩ ?_
  intro z2_5 u H locs p2_6 hP hD hS
  obtain ⟨mways_1, mnds_2, mtkp_3, mthr_4⟩ := u
  have hP : va_P D vwCl (bModel tA a0 a1 a2 a3 a4 a5 a6 a7 a8 a9 a10 ms mbef msav misv mpast mpm mthr_4 mways_1 mnds_2 mtkp_3 mline mlm mtxt mlen mat mwr merr mfail mcmd mcm) H := hP
  have hD : va_D A (bModel tA a0 a1 a2 a3 a4 a5 a6 a7 a8 a9 a10 ms mbef msav misv mpast mpm mthr_4 mways_1 mnds_2 mtkp_3 mline mlm mtxt mlen mat mwr merr mfail mcmd mcm) := hD
  have q_2 : gatM ms mtkp_3 mnds_2 := p2_6.1
  have qz_2 : (mthr_4 = 1 ∧ ¬ (0 ≤ sb ∧ sb < ms 1)) ∨ ((0 ≤ sb ∧ sb < ms 1) ∧ ((mthr_4 = 2 ∧ mtkp_3 sb = 0) ∨ (mthr_4 = 0 ∧ mtkp_3 sb = 1 ∧ z2_5 = shR (mkT (ms 1) mtkp_3) mnds_2 (mnds_2 sb).toNat))) := p2_6.2
  exact hret z2_5 (mways_1, mnds_2, mtkp_3, mthr_4) _ _ _ _ dX11_shareByOrders_5 ⟨(show gatM ms mtkp_3 mnds_2 from by assumption), (show (mthr_4 = 1 ∧ ¬ (0 ≤ sb ∧ sb < ms 1)) ∨ ((0 ≤ sb ∧ sb < ms 1) ∧ ((mthr_4 = 2 ∧ mtkp_3 sb = 0) ∨ (mthr_4 = 0 ∧ mtkp_3 sb = 1 ∧ z2_5 = shR (mkT (ms 1) mtkp_3) mnds_2 (mnds_2 sb).toNat))) from by assumption)⟩ hP hD hS

set_option maxHeartbeats 4000000 in
set_option maxRecDepth 100000 in
theorem c_X11_doNight (l : Launch) (D : va_G) (tA : Nat → ClassId) (a0 a1 a2 a3 a4 a5 a6 a7 a8 a9 a10 : Nat) (sz : Nat) (ms : Int → Int) (mbef : Int → Int) (msav : Int → Int) (misv : Int) (mpast : Int → Int) (mpm : Int) (mthr : Int) (mways : Int → Int) (mnds : Int → Int) (mtkp : Int → Int) (mline : Int → Int) (mlm : Int) (mtxt : Int → Int) (mlen : Int) (mat : Int) (mwr : Int) (merr : Int) (mfail : Int) (mcmd : Int → Int) (mcm : Int) (hm : MV ms) (hmt : MMt ms) (hth : mthr = 0) : zMi l yX11_doNight wsX11_doNight ({ frames := 4, cells := 0, slots := 0, locals := 90 }) D tA [.ref a0] (bModel tA a0 a1 a2 a3 a4 a5 a6 a7 a8 a9 a10 ms mbef msav misv mpast mpm mthr mways mnds mtkp mline mlm mtxt mlen mat mwr merr mfail mcmd mcm) sz (fun (z : Int) (u : (Int → Int) × (Int → Int) × (Int → Int) × (Int → Int)) => (plnM ms u.2.2.2 u.2.2.1) ∧ (∃ g, isGr (mkT (ms 1) u.2.2.2) u.2.2.1 g ∧ nigM ms (mkT (ms 1) u.2.2.2) u.2.2.1 g u.1) ∧ (z = sm (mkT (ms 1) u.2.2.2) (ms 1).toNat)) (fun (u : (Int → Int) × (Int → Int) × (Int → Int) × (Int → Int)) => bModel tA a0 a1 a2 a3 a4 a5 a6 a7 a8 a9 a10 u.1 mbef msav misv mpast mpm mthr u.2.1 u.2.2.1 u.2.2.2 mline mlm mtxt mlen mat mwr merr mfail mcmd mcm) 0 0 := by
  refine zMi_of (cc := cX11_doNight) (maxL := 5) (by decide) rfl (fun z u h => rfl) (Nat.le_of_ble_eq_true rfl) ?_
  intro p e s m args below meth c A Q ls hx hb hml hts hown hK hP hD hA hret hl
  obtain ⟨H, hHe⟩ : ∃ H : Heap, H = s.heap := ⟨_, rfl⟩
  have hS : va_S A s.heap H [] := by rw [hHe]; exact va_S.rf
  rw [← hHe] at hP ⊢
  have hl : lv_has ls 5 [(0, .ref a0)] := hl
  have iX11 : ∀ v ∈ wsX110, v ∈ wsX11_doNight := by decide +kernel
  have f_9 := hts (.fieldLink RX11 9 "HarborLightsModel" "s" "[I") (by decide +kernel)
  have f_28 := hts (.fieldLink RX11 28 "HarborLightsModel" "takesPart" "[Z") (by decide +kernel)
  have l_124 := hts (.methodLink RX11 124 Lib.Math.max.name) (by decide +kernel)
  have ls_124 := hts (.static Lib.Math.max.name) (by decide +kernel)
  have lc_124 := hts (.code Lib.Math.max.name Lib.Math.max.code 2 (some .int)) (by decide +kernel)
  have li_124 := hts (.initialized "java/lang/Math") (by decide +kernel)
  obtain ⟨⟨mp0, mp1, mc0, mc1, mf0, mf1, mr0, mr1⟩, hlr, mL, mS⟩ := id hm
  refine lv_aload_n hx hb dX11_doNight_0 rfl (lv_at hl 0 rfl) ?_
  refine zz_callVv (As := []) (rest := []) (wf := fun u => bModel tA a0 a1 a2 a3 a4 a5 a6 a7 a8 a9 a10 ms mbef msav misv mpast mpm mthr u.1 u.2.1 u.2.2 mline mlm mtxt mlen mat mwr merr mfail mcmd mcm) ⟨hx, hb, hml, hown, hts⟩ (c_X11_findsNight l D tA a0 a1 a2 a3 a4 a5 a6 a7 a8 a9 a10 H.size ms mbef msav misv mpast mpm mthr mways mnds mtkp mline mlm mtxt mlen mat mwr merr mfail mcmd mcm (by first | assumption | omega)) (cwV 0 hts gX11_doNight_X11_findsNight rfl rfl rfl (by decide +kernel) ⟨Nat.le_of_ble_eq_true rfl, Nat.le_of_ble_eq_true rfl⟩) hK hP hD hS hA [0, 1, 2, 3, 4, 5, 6, 7, 8, 9, 10] [] [0, 1, 2, 3, 4, 5, 6, 7, 8, 9, 10] rfl rfl (by decide) (by decide) (by decide) (by decide) (fun _ => rfl) (ci := 13) (q0 := 0) rfl rfl rfl rfl rfl hl.1 (Nat.le_of_ble_eq_true rfl) dX11_doNight_1 ⟨Nat.le_of_ble_eq_true rfl, Nat.le_of_ble_eq_true rfl⟩ ?_
  intro u H locs p1_4 hP hD hS
  obtain ⟨mways_1, mnds_2, mtkp_3⟩ := u
  have hP : va_P D vwCl (bModel tA a0 a1 a2 a3 a4 a5 a6 a7 a8 a9 a10 ms mbef msav misv mpast mpm mthr mways_1 mnds_2 mtkp_3 mline mlm mtxt mlen mat mwr merr mfail mcmd mcm) H := hP
  have hD : va_D A (bModel tA a0 a1 a2 a3 a4 a5 a6 a7 a8 a9 a10 ms mbef msav misv mpast mpm mthr mways_1 mnds_2 mtkp_3 mline mlm mtxt mlen mat mwr merr mfail mcmd mcm) := hD
  have q_1 : plnM ms mtkp_3 mnds_2 := p1_4
  have hpv := q_1.2
  refine zz_iconst hx hb dX11_doNight_4 ?_
  refine lv_istore_n (lv' := [(1, .int (iI 0)), (0, .ref a0)]) hx hb dX11_doNight_5 rfl hl (by decide) rfl (fun ls hl => ?_)
  refine zz_iconst hx hb dX11_doNight_6 ?_
  refine lv_istore_n (lv' := [(2, .int (iI 0)), (1, .int (iI 0)), (0, .ref a0)]) hx hb dX11_doNight_7 rfl hl (by decide) rfl (fun ls hl => ?_)
  have L8 : ∀ (n : Nat) (k : Int) (many : Int) (m9 : Int → Int) (H : Heap) (locs : List Loc) (ls : Array Slot), (0 ≤ k ∧ k ≤ ms 1) → (NiK ms (mkT (ms 1) mtkp_3) mnds_2 m9 k) → (many = sm (mkT (ms 1) mtkp_3) k.toNat) → (ms 1 - k).toNat < n → va_P D vwCl (bModel tA a0 a1 a2 a3 a4 a5 a6 a7 a8 a9 a10 m9 mbef msav misv mpast mpm mthr mways_1 mnds_2 mtkp_3 mline mlm mtxt mlen mat mwr merr mfail mcmd mcm) H → va_D A (bModel tA a0 a1 a2 a3 a4 a5 a6 a7 a8 a9 a10 m9 mbef msav misv mpast mpm mthr mways_1 mnds_2 mtkp_3 mline mlm mtxt mlen mat mwr merr mfail mcmd mcm) → va_S A s.heap H locs → lv_has ls 5 [(2, .int (iI k)), (1, .int (iI many)), (0, .ref a0)] → W p l e (headSpec wsX11_doNight ({ frames := 4, cells := 0, slots := 0, locals := 90 })).room s m args below meth c H locs 0 0 Q (F0 m 8 ls []) := by
    intro n
    induction n with
    | zero => intro k many m9 H locs ls i0 i1 i2 hmz; exact absurd hmz (Nat.not_lt_zero _)
    | succ n ih8 =>
      intro k many m9 H locs ls i0 i1 i2 hmz hP hD hS hl
      have e1 : m9 1 = ms 1 := i1.1 1 (by omega)
      have e2 : m9 2 = ms 2 := i1.1 2 (by omega)
      refine lv_iload_n hx hb dX11_doNight_8 rfl (lv_at hl 0 rfl) ?_
      refine lv_aload_n hx hb dX11_doNight_9 rfl (lv_at hl 2 rfl) ?_
      refine va_get (D := D) (ci := 13) (v := .ref a1) (C := RX11) (T := TX11) (N := 20) hx hb hts iX11 hown hK hP 0 rfl rfl 0 (by decide) f_9 (fun _ h9 => h9) rfl dX11_doNight_10 ?_
      refine zz_iconst hx hb dX11_doNight_13 ?_
      refine zz_iald hx hb hK hP 1 rfl (by decide) (by omega) dX11_doNight_14 ?_
      refine zz_icmp_ge (tgt := 133) hx hb dX11_doNight_15 (by decide) (by omega) (by omega) (fun c_15 => ?_) (fun c_15 => ?_)
      · refine lv_aload_n hx hb dX11_doNight_133 rfl (lv_at hl 2 rfl) ?_
        refine va_get (D := D) (ci := 13) (v := .ref a1) (C := RX11) (T := TX11) (N := 20) hx hb hts iX11 hown hK hP 0 rfl rfl 0 (by decide) f_9 (fun _ h9 => h9) rfl dX11_doNight_134 ?_
        refine zz_iconst hx hb dX11_doNight_137 ?_
        refine lv_aload_n hx hb dX11_doNight_138 rfl (lv_at hl 2 rfl) ?_
        refine zz_callVi (As := []) (rest := [.int (iI 3), .ref a1]) (wf := fun u => bModel tA a0 a1 a2 a3 a4 a5 a6 a7 a8 a9 a10 m9 mbef msav misv mpast mpm mthr mways_1 mnds_2 mtkp_3 mline mlm mtxt mlen mat mwr merr mfail mcmd mcm) ⟨hx, hb, hml, hown, hts⟩ (c_X11_greatestNeed l D tA a0 a1 a2 a3 a4 a5 a6 a7 a8 a9 a10 H.size m9 mbef msav misv mpast mpm mthr mways_1 mnds_2 mtkp_3 mline mlm mtxt mlen mat mwr merr mfail mcmd mcm (by first | assumption | omega) (e1 ▸ hpv)) (cwV 0 hts gX11_doNight_X11_greatestNeed rfl rfl rfl (by decide +kernel) ⟨Nat.le_of_ble_eq_true rfl, Nat.le_of_ble_eq_true rfl⟩) hK hP hD hS hA [0, 1, 2, 3, 4, 5, 6, 7, 8, 9, 10] [] [0, 1, 2, 3, 4, 5, 6, 7, 8, 9, 10] rfl rfl (by decide) (by decide) (by decide) (by decide) (fun _ => rfl) (ci := 13) (q0 := 0) rfl rfl rfl rfl rfl hl.1 (Nat.le_of_ble_eq_true rfl) dX11_doNight_139 ⟨Nat.le_of_ble_eq_true rfl, Nat.le_of_ble_eq_true rfl⟩ ?_
        intro z139_5 u H locs p139_6 hP hD hS
        have hP : va_P D vwCl (bModel tA a0 a1 a2 a3 a4 a5 a6 a7 a8 a9 a10 m9 mbef msav misv mpast mpm mthr mways_1 mnds_2 mtkp_3 mline mlm mtxt mlen mat mwr merr mfail mcmd mcm) H := hP
        have hD : va_D A (bModel tA a0 a1 a2 a3 a4 a5 a6 a7 a8 a9 a10 m9 mbef msav misv mpast mpm mthr mways_1 mnds_2 mtkp_3 mline mlm mtxt mlen mat mwr merr mfail mcmd mcm) := hD
        have q_139 : isGr (mkT (m9 1) mtkp_3) mnds_2 z139_5 := p139_6
        have hgi1 := q_139.1
        have hgi2 := q_139.2.1
        refine zz_iast hx hb hK hP hD hS 1 rfl (by decide) (by omega) dX11_doNight_142 (fun H locs hP hD hS => ?_)
        have hP : va_P D vwCl (bModel tA a0 a1 a2 a3 a4 a5 a6 a7 a8 a9 a10 (zU m9 3 z139_5) mbef msav misv mpast mpm mthr mways_1 mnds_2 mtkp_3 mline mlm mtxt mlen mat mwr merr mfail mcmd mcm) H := hP
        have hD : va_D A (bModel tA a0 a1 a2 a3 a4 a5 a6 a7 a8 a9 a10 (zU m9 3 z139_5) mbef msav misv mpast mpm mthr mways_1 mnds_2 mtkp_3 mline mlm mtxt mlen mat mwr merr mfail mcmd mcm) := hD
        refine lv_aload_n hx hb dX11_doNight_143 rfl (lv_at hl 2 rfl) ?_
        refine va_get (D := D) (ci := 13) (v := .ref a1) (C := RX11) (T := TX11) (N := 20) hx hb hts iX11 hown hK hP 0 rfl rfl 0 (by decide) f_9 (fun _ h9 => h9) rfl dX11_doNight_144 ?_
        refine zz_iconst hx hb dX11_doNight_147 ?_
        refine zz_iconst hx hb dX11_doNight_148 ?_
        refine lv_aload_n hx hb dX11_doNight_149 rfl (lv_at hl 2 rfl) ?_
        refine va_get (D := D) (ci := 13) (v := .ref a1) (C := RX11) (T := TX11) (N := 20) hx hb hts iX11 hown hK hP 0 rfl rfl 0 (by decide) f_9 (fun _ h9 => h9) rfl dX11_doNight_150 ?_
        refine zz_iconst hx hb dX11_doNight_153 ?_
        refine zz_iald hx hb hK hP 1 rfl (by decide) (by omega) dX11_doNight_154 ?_
        have hz2 : zU m9 3 z139_5 2 = m9 2 := zU_ne (by decide)
        refine zz_iconst hx hb dX11_doNight_155 ?_
        refine zz_isub hx hb dX11_doNight_156 ?_
        refine zz_mmax hx hb (by rw [hml]; exact hl.1.symm) hown l_124 ls_124 li_124 lc_124 (Nat.le_of_ble_eq_true rfl) (Nat.le_of_ble_eq_true rfl) (Nat.le_of_ble_eq_true rfl) (Nat.le_of_ble_eq_true rfl) (by decide) (by omega) dX11_doNight_157 ?_
        refine zz_iast hx hb hK hP hD hS 1 rfl (by decide) (by omega) dX11_doNight_160 (fun H locs hP hD hS => ?_)
        have hP : va_P D vwCl (bModel tA a0 a1 a2 a3 a4 a5 a6 a7 a8 a9 a10 (zU (zU m9 3 z139_5) 2 (max 0 (((zU m9 3 z139_5) 2) - 1))) mbef msav misv mpast mpm mthr mways_1 mnds_2 mtkp_3 mline mlm mtxt mlen mat mwr merr mfail mcmd mcm) H := hP
        have hD : va_D A (bModel tA a0 a1 a2 a3 a4 a5 a6 a7 a8 a9 a10 (zU (zU m9 3 z139_5) 2 (max 0 (((zU m9 3 z139_5) 2) - 1))) mbef msav misv mpast mpm mthr mways_1 mnds_2 mtkp_3 mline mlm mtxt mlen mat mwr merr mfail mcmd mcm) := hD
        refine zz_iconst hx hb dX11_doNight_161 ?_
        refine lv_istore_n (lv' := [(2, .int (iI 0)), (1, .int (iI many)), (0, .ref a0)]) hx hb dX11_doNight_162 rfl hl (by decide) rfl (fun ls hl => ?_)
        have L163 : ∀ (n : Nat) (a : Int) (m8 : Int → Int) (m7 : Int → Int) (H : Heap) (locs : List Loc) (ls : Array Slot), (0 ≤ a ∧ a ≤ 10) → (MtK m7 m8 a 0) → (m7 = (zU (zU m9 3 z139_5) 2 (max 0 ((zU m9 3 z139_5) 2 - 1)))) → (10 - a).toNat < n → va_P D vwCl (bModel tA a0 a1 a2 a3 a4 a5 a6 a7 a8 a9 a10 m8 mbef msav misv mpast mpm mthr mways_1 mnds_2 mtkp_3 mline mlm mtxt mlen mat mwr merr mfail mcmd mcm) H → va_D A (bModel tA a0 a1 a2 a3 a4 a5 a6 a7 a8 a9 a10 m8 mbef msav misv mpast mpm mthr mways_1 mnds_2 mtkp_3 mline mlm mtxt mlen mat mwr merr mfail mcmd mcm) → va_S A s.heap H locs → lv_has ls 5 [(2, .int (iI a)), (1, .int (iI many)), (0, .ref a0)] → W p l e (headSpec wsX11_doNight ({ frames := 4, cells := 0, slots := 0, locals := 90 })).room s m args below meth c H locs 0 0 Q (F0 m 163 ls []) := by
          intro n
          induction n with
          | zero => intro a m8 m7 H locs ls k0 k1 k2 hmz; exact absurd hmz (Nat.not_lt_zero _)
          | succ n ih163 =>
            intro a m8 m7 H locs ls k0 k1 k2 hmz hP hD hS hl
            have h7 := NiK_m7 i1 k2
            have hlg7 := MLg_of7 h7.1 h7.2.1 mL
            have hlr7 := MLr_of7 h7.1 hlr
            refine lv_iload_n hx hb dX11_doNight_163 rfl (lv_at hl 0 rfl) ?_
            refine zz_bipush hx hb dX11_doNight_164 (by decide) ?_
            refine zz_icmp_ge (tgt := 213) hx hb dX11_doNight_166 (by decide) (by omega) (by decide) (fun c_166 => ?_) (fun c_166 => ?_)
            · refine lv_aload_n hx hb dX11_doNight_213 rfl (lv_at hl 2 rfl) ?_
              refine va_get (D := D) (ci := 13) (v := .ref a1) (C := RX11) (T := TX11) (N := 20) hx hb hts iX11 hown hK hP 0 rfl rfl 0 (by decide) f_9 (fun _ h9 => h9) rfl dX11_doNight_214 ?_
              refine zz_iconst hx hb dX11_doNight_217 ?_
              refine lv_dup2_11 hx hb dX11_doNight_218 rfl rfl ?_
              refine zz_iald hx hb hK hP 1 rfl (by decide) (by omega) dX11_doNight_219 ?_
              refine zz_iconst hx hb dX11_doNight_220 ?_
              refine zz_iadd hx hb dX11_doNight_221 ?_
              refine zz_iast hx hb hK hP hD hS 1 rfl (by decide) (by omega) dX11_doNight_222 (fun H locs hP hD hS => ?_)
              have hP : va_P D vwCl (bModel tA a0 a1 a2 a3 a4 a5 a6 a7 a8 a9 a10 (zU m8 4 ((m8 4) + 1)) mbef msav misv mpast mpm mthr mways_1 mnds_2 mtkp_3 mline mlm mtxt mlen mat mwr merr mfail mcmd mcm) H := hP
              have hD : va_D A (bModel tA a0 a1 a2 a3 a4 a5 a6 a7 a8 a9 a10 (zU m8 4 ((m8 4) + 1)) mbef msav misv mpast mpm mthr mways_1 mnds_2 mtkp_3 mline mlm mtxt mlen mat mwr merr mfail mcmd mcm) := hD
              refine lv_iload_n hx hb dX11_doNight_223 rfl (lv_at hl 1 rfl) ?_
              exact hret many ((zU m8 4 ((m8 4) + 1)), mways_1, mnds_2, mtkp_3) _ _ _ _ dX11_doNight_224 ⟨(show plnM ms mtkp_3 mnds_2 from by exact q_1), (show ∃ g, isGr (mkT (ms 1) mtkp_3) mnds_2 g ∧ nigM ms (mkT (ms 1) mtkp_3) mnds_2 g (zU m8 4 ((m8 4) + 1)) from by exact ⟨z139_5, e1 ▸ q_139, nigM_of (by rw [show k = ms 1 by omega] at i1; exact i1) k2 (by rw [show a = 10 by omega] at k1; exact k1)⟩), (show many = sm (mkT (ms 1) mtkp_3) (ms 1).toNat from by rw [i2, show k = ms 1 by omega])⟩ hP hD hS
            · refine zz_iconst hx hb dX11_doNight_169 ?_
              refine lv_istore_n (lv' := [(3, .int (iI 0)), (2, .int (iI a)), (1, .int (iI many)), (0, .ref a0)]) hx hb dX11_doNight_170 rfl hl (by decide) rfl (fun ls hl => ?_)
              have L171 : ∀ (n : Nat) (b : Int) (m6 : Int → Int) (H : Heap) (locs : List Loc) (ls : Array Slot), (0 ≤ b ∧ b ≤ a) → (MtK m7 m6 a b) → (a - b).toNat < n → va_P D vwCl (bModel tA a0 a1 a2 a3 a4 a5 a6 a7 a8 a9 a10 m6 mbef msav misv mpast mpm mthr mways_1 mnds_2 mtkp_3 mline mlm mtxt mlen mat mwr merr mfail mcmd mcm) H → va_D A (bModel tA a0 a1 a2 a3 a4 a5 a6 a7 a8 a9 a10 m6 mbef msav misv mpast mpm mthr mways_1 mnds_2 mtkp_3 mline mlm mtxt mlen mat mwr merr mfail mcmd mcm) → va_S A s.heap H locs → lv_has ls 5 [(3, .int (iI b)), (2, .int (iI a)), (1, .int (iI many)), (0, .ref a0)] → W p l e (headSpec wsX11_doNight ({ frames := 4, cells := 0, slots := 0, locals := 90 })).room s m args below meth c H locs 0 0 Q (F0 m 171 ls []) := by
                intro n
                induction n with
                | zero => intro b m6 H locs ls l0 l1 hmz; exact absurd hmz (Nat.not_lt_zero _)
                | succ n ih171 =>
                  intro b m6 H locs ls l0 l1 hmz hP hD hS hl
                  have hlr6 := MtK_lr l1 hlr7
                  have e36 := l1.1 3 (by omega)
                  have e73 : m7 3 = z139_5 := h7.2.2
                  refine lv_iload_n hx hb dX11_doNight_171 rfl (lv_at hl 0 rfl) ?_
                  refine lv_iload_n hx hb dX11_doNight_172 rfl (lv_at hl 1 rfl) ?_
                  refine zz_icmp_ge (tgt := 207) hx hb dX11_doNight_173 (by decide) (by omega) (by omega) (fun c_173 => ?_) (fun c_173 => ?_)
                  · refine zz_iinc (lv' := [(2, .int (iI (a + 1))), (3, .int (iI b)), (1, .int (iI many)), (0, .ref a0)]) hx hb dX11_doNight_207 hl (k := 1) rfl (by decide) rfl (fun ls hl => ?_)
                    refine lv_goto (tgt := 163) hx hb dX11_doNight_210 (by decide) ?_
                    exact ih163 (a + 1) m6 m7 _ _ _ (by omega) (by exact MtK_row (by omega) l1) (by exact k2) (by omega) hP hD hS (lv_sub hl [0, 2, 3] rfl)
                  · refine lv_aload_n hx hb dX11_doNight_176 rfl (lv_at hl 3 rfl) ?_
                    refine lv_iload_n hx hb dX11_doNight_177 rfl (lv_at hl 1 rfl) ?_
                    refine lv_iload_n hx hb dX11_doNight_178 rfl (lv_at hl 0 rfl) ?_
                    refine zz_callVi (As := [.int (iI a), .int (iI b)]) (rest := []) (wf := fun u => bModel tA a0 a1 a2 a3 a4 a5 a6 a7 a8 a9 a10 m6 mbef msav misv mpast mpm mthr mways_1 mnds_2 mtkp_3 mline mlm mtxt mlen mat mwr merr mfail mcmd mcm) ⟨hx, hb, hml, hown, hts⟩ (c_X11_shines l D tA a0 a1 a2 a3 a4 a5 a6 a7 a8 a9 a10 H.size m6 mbef msav misv mpast mpm mthr mways_1 mnds_2 mtkp_3 mline mlm mtxt mlen mat mwr merr mfail mcmd mcm a b (by first | assumption | omega) (by first | assumption | omega) (by first | assumption | omega) (by first | assumption | omega) (by first | assumption | omega) (by first | assumption | omega)) (cwV 2 hts gX11_doNight_X11_shines rfl rfl rfl (by decide +kernel) ⟨Nat.le_of_ble_eq_true rfl, Nat.le_of_ble_eq_true rfl⟩) hK hP hD hS hA [0, 1, 2, 3, 4, 5, 6, 7, 8, 9, 10] [] [0, 1, 2, 3, 4, 5, 6, 7, 8, 9, 10] rfl rfl (by decide) (by decide) (by decide) (by decide) (fun _ => rfl) (ci := 13) (q0 := 0) rfl rfl rfl rfl rfl hl.1 (Nat.le_of_ble_eq_true rfl) dX11_doNight_179 ⟨Nat.le_of_ble_eq_true rfl, Nat.le_of_ble_eq_true rfl⟩ ?_
                    intro z179_7 u H locs p179_8 hP hD hS
                    have hP : va_P D vwCl (bModel tA a0 a1 a2 a3 a4 a5 a6 a7 a8 a9 a10 m6 mbef msav misv mpast mpm mthr mways_1 mnds_2 mtkp_3 mline mlm mtxt mlen mat mwr merr mfail mcmd mcm) H := hP
                    have hD : va_D A (bModel tA a0 a1 a2 a3 a4 a5 a6 a7 a8 a9 a10 m6 mbef msav misv mpast mpm mthr mways_1 mnds_2 mtkp_3 mline mlm mtxt mlen mat mwr merr mfail mcmd mcm) := hD
                    have q_179 : (z179_7 = 1 ∧ 0 < lgM m6 a b 0 ∧ lgM m6 a b 1 ≤ m6 3) ∨ (z179_7 = 0 ∧ ¬ (0 < lgM m6 a b 0 ∧ lgM m6 a b 1 ≤ m6 3)) := p179_8
                    refine zz_if_eq (tgt := 201) hx hb dX11_doNight_182 (by decide) (by omega) (fun c_182 => ?_) (fun c_182 => ?_)
                    · refine zz_iinc (lv' := [(3, .int (iI (b + 1))), (2, .int (iI a)), (1, .int (iI many)), (0, .ref a0)]) hx hb dX11_doNight_201 hl (k := 0) rfl (by decide) rfl (fun ls hl => ?_)
                      refine lv_goto (tgt := 171) hx hb dX11_doNight_204 (by decide) ?_
                      exact ih171 (b + 1) m6 _ _ _ (by omega) (by first | (rw [q_193]; exact MtK_go l1 (MtK_sh l1 (by omega) (by omega) (by omega)) hlg7 (by omega) (by omega)) | exact MtK_no l1 (fun h => absurd (MtK_sh2 l1 (by omega) (by omega) h) (by omega)) hlg7 (by omega) (by omega)) (by omega) hP hD hS (lv_sub hl [0, 1, 2, 3] rfl)
                    · refine lv_aload_n hx hb dX11_doNight_185 rfl (lv_at hl 3 rfl) ?_
                      refine lv_iload_n hx hb dX11_doNight_186 rfl (lv_at hl 1 rfl) ?_
                      refine lv_iload_n hx hb dX11_doNight_187 rfl (lv_at hl 0 rfl) ?_
                      refine zz_iconst hx hb dX11_doNight_188 ?_
                      refine lv_aload_n hx hb dX11_doNight_189 rfl (lv_at hl 3 rfl) ?_
                      refine lv_iload_n hx hb dX11_doNight_190 rfl (lv_at hl 1 rfl) ?_
                      refine lv_iload_n hx hb dX11_doNight_191 rfl (lv_at hl 0 rfl) ?_
                      refine zz_iconst hx hb dX11_doNight_192 ?_
                      refine zz_callVi (As := [.int (iI a), .int (iI b), .int (iI 2)]) (rest := [.int (iI 2), .int (iI b), .int (iI a), .ref a0]) (wf := fun u => bModel tA a0 a1 a2 a3 a4 a5 a6 a7 a8 a9 a10 m6 mbef msav misv mpast mpm mthr mways_1 mnds_2 mtkp_3 mline mlm mtxt mlen mat mwr merr mfail mcmd mcm) ⟨hx, hb, hml, hown, hts⟩ (c_X11_leg l D tA a0 a1 a2 a3 a4 a5 a6 a7 a8 a9 a10 H.size m6 mbef msav misv mpast mpm mthr mways_1 mnds_2 mtkp_3 mline mlm mtxt mlen mat mwr merr mfail mcmd mcm a b 2 (by first | assumption | omega) (by first | assumption | omega) (by first | assumption | omega) (by first | assumption | omega) (by first | assumption | omega) (by first | assumption | omega)) (cwV 3 hts gX11_doNight_X11_leg rfl rfl rfl (by decide +kernel) ⟨Nat.le_of_ble_eq_true rfl, Nat.le_of_ble_eq_true rfl⟩) hK hP hD hS hA [0, 1, 2, 3, 4, 5, 6, 7, 8, 9, 10] [] [0, 1, 2, 3, 4, 5, 6, 7, 8, 9, 10] rfl rfl (by decide) (by decide) (by decide) (by decide) (fun _ => rfl) (ci := 13) (q0 := 0) rfl rfl rfl rfl rfl hl.1 (Nat.le_of_ble_eq_true rfl) dX11_doNight_193 ⟨Nat.le_of_ble_eq_true rfl, Nat.le_of_ble_eq_true rfl⟩ ?_
                      intro z193_9 u H locs p193_10 hP hD hS
                      have hP : va_P D vwCl (bModel tA a0 a1 a2 a3 a4 a5 a6 a7 a8 a9 a10 m6 mbef msav misv mpast mpm mthr mways_1 mnds_2 mtkp_3 mline mlm mtxt mlen mat mwr merr mfail mcmd mcm) H := hP
                      have hD : va_D A (bModel tA a0 a1 a2 a3 a4 a5 a6 a7 a8 a9 a10 m6 mbef msav misv mpast mpm mthr mways_1 mnds_2 mtkp_3 mline mlm mtxt mlen mat mwr merr mfail mcmd mcm) := hD
                      have q_193 : z193_9 = lgM m6 a b 2 := p193_10
                      have hmt6 := MtK_mt l1 h7.1 hmt (show 0 ≤ a ∧ a < 10 by omega) (show 0 ≤ b ∧ b < 10 by omega)
                      refine zz_iconst hx hb dX11_doNight_196 ?_
                      refine zz_iadd hx hb dX11_doNight_197 ?_
                      refine zz_callVv (As := [.int (iI a), .int (iI b), .int (iI 2), .int (iI (z193_9 + 1))]) (rest := []) (wf := fun u => bModel tA a0 a1 a2 a3 a4 a5 a6 a7 a8 a9 a10 (setL m6 a b 2 (z193_9 + 1)) mbef msav misv mpast mpm mthr mways_1 mnds_2 mtkp_3 mline mlm mtxt mlen mat mwr merr mfail mcmd mcm) ⟨hx, hb, hml, hown, hts⟩ (c_X11_setsLeg l D tA a0 a1 a2 a3 a4 a5 a6 a7 a8 a9 a10 H.size m6 mbef msav misv mpast mpm mthr mways_1 mnds_2 mtkp_3 mline mlm mtxt mlen mat mwr merr mfail mcmd mcm a b 2 (z193_9 + 1) (by first | assumption | omega) (by first | assumption | omega) (by first | assumption | omega) (by first | assumption | omega) (by first | assumption | omega) (by first | assumption | omega) (by first | assumption | omega)) (cwV 4 hts gX11_doNight_X11_setsLeg rfl rfl rfl (by decide +kernel) ⟨Nat.le_of_ble_eq_true rfl, Nat.le_of_ble_eq_true rfl⟩) hK hP hD hS hA [0, 1, 2, 3, 4, 5, 6, 7, 8, 9, 10] [] [0, 1, 2, 3, 4, 5, 6, 7, 8, 9, 10] rfl rfl (by decide) (by decide) (by decide) (by decide) (fun _ => rfl) (ci := 13) (q0 := 0) rfl rfl rfl rfl rfl hl.1 (Nat.le_of_ble_eq_true rfl) dX11_doNight_198 ⟨Nat.le_of_ble_eq_true rfl, Nat.le_of_ble_eq_true rfl⟩ ?_
                      intro u H locs p198_11 hP hD hS
                      have hP : va_P D vwCl (bModel tA a0 a1 a2 a3 a4 a5 a6 a7 a8 a9 a10 (setL m6 a b 2 (z193_9 + 1)) mbef msav misv mpast mpm mthr mways_1 mnds_2 mtkp_3 mline mlm mtxt mlen mat mwr merr mfail mcmd mcm) H := hP
                      have hD : va_D A (bModel tA a0 a1 a2 a3 a4 a5 a6 a7 a8 a9 a10 (setL m6 a b 2 (z193_9 + 1)) mbef msav misv mpast mpm mthr mways_1 mnds_2 mtkp_3 mline mlm mtxt mlen mat mwr merr mfail mcmd mcm) := hD
                      refine zz_iinc (lv' := [(3, .int (iI (b + 1))), (2, .int (iI a)), (1, .int (iI many)), (0, .ref a0)]) hx hb dX11_doNight_201 hl (k := 0) rfl (by decide) rfl (fun ls hl => ?_)
                      refine lv_goto (tgt := 171) hx hb dX11_doNight_204 (by decide) ?_
                      exact ih171 (b + 1) (setL m6 a b 2 (z193_9 + 1)) _ _ _ (by omega) (by first | (rw [q_193]; exact MtK_go l1 (MtK_sh l1 (by omega) (by omega) (by omega)) hlg7 (by omega) (by omega)) | exact MtK_no l1 (fun h => absurd (MtK_sh2 l1 (by omega) (by omega) h) (by omega)) hlg7 (by omega) (by omega)) (by omega) hP hD hS (lv_sub hl [0, 1, 2, 3] rfl)
              exact L171 _ 0 m8 _ _ _ (by omega) (by exact k1) (Nat.lt_succ_self _) hP hD hS (lv_sub hl [0, 1, 2, 3] rfl)
        exact L163 _ 0 (zU (zU m9 3 z139_5) 2 (max 0 (((zU m9 3 z139_5) 2) - 1))) (zU (zU m9 3 z139_5) 2 (max 0 ((zU m9 3 z139_5) 2 - 1))) _ _ _ (by omega) (by exact MtK_0) (by rfl) (Nat.lt_succ_self _) hP hD hS (lv_sub hl [0, 1, 2] rfl)
      · have J36 : ∀ (sh : Int) (H : Heap) (locs : List Loc) (ls : Array Slot), (sh = shN (mkT (ms 1) mtkp_3) mnds_2 k) → (0 ≤ sh ∧ sh ≤ 46800) → va_P D vwCl (bModel tA a0 a1 a2 a3 a4 a5 a6 a7 a8 a9 a10 m9 mbef msav misv mpast mpm mthr mways_1 mnds_2 mtkp_3 mline mlm mtxt mlen mat mwr merr mfail mcmd mcm) H → va_D A (bModel tA a0 a1 a2 a3 a4 a5 a6 a7 a8 a9 a10 m9 mbef msav misv mpast mpm mthr mways_1 mnds_2 mtkp_3 mline mlm mtxt mlen mat mwr merr mfail mcmd mcm) → va_S A s.heap H locs → lv_has ls 5 [(2, .int (iI k)), (1, .int (iI many)), (0, .ref a0)] → W p l e (headSpec wsX11_doNight ({ frames := 4, cells := 0, slots := 0, locals := 90 })).room s m args below meth c H locs 0 0 Q (F0 m 36 ls [.int (iI sh)]) := by
          intro sh H locs ls js js2 hP hD hS hl
          refine lv_istore_n (lv' := [(3, .int (iI sh)), (2, .int (iI k)), (1, .int (iI many)), (0, .ref a0)]) hx hb dX11_doNight_36 rfl hl (by decide) rfl (fun ls hl => ?_)
          have J53 : ∀ (bk : Int) (H : Heap) (locs : List Loc) (ls : Array Slot), (bk = bkN (ms 2) (mkT (ms 1) mtkp_3) mnds_2 k) → (0 ≤ bk ∧ bk ≤ 46800) → va_P D vwCl (bModel tA a0 a1 a2 a3 a4 a5 a6 a7 a8 a9 a10 m9 mbef msav misv mpast mpm mthr mways_1 mnds_2 mtkp_3 mline mlm mtxt mlen mat mwr merr mfail mcmd mcm) H → va_D A (bModel tA a0 a1 a2 a3 a4 a5 a6 a7 a8 a9 a10 m9 mbef msav misv mpast mpm mthr mways_1 mnds_2 mtkp_3 mline mlm mtxt mlen mat mwr merr mfail mcmd mcm) → va_S A s.heap H locs → lv_has ls 5 [(3, .int (iI sh)), (2, .int (iI k)), (1, .int (iI many)), (0, .ref a0)] → W p l e (headSpec wsX11_doNight ({ frames := 4, cells := 0, slots := 0, locals := 90 })).room s m args below meth c H locs 0 0 Q (F0 m 53 ls [.int (iI bk)]) := by
            intro bk H locs ls jb jb2 hP hD hS hl
            refine lv_istore (lv' := [(4, .int (iI bk)), (3, .int (iI sh)), (2, .int (iI k)), (1, .int (iI many)), (0, .ref a0)]) hx hb dX11_doNight_53 hl (by decide) rfl (fun ls hl => ?_)
            refine lv_aload_n hx hb dX11_doNight_55 rfl (lv_at hl 4 rfl) ?_
            refine lv_iload_n hx hb dX11_doNight_56 rfl (lv_at hl 2 rfl) ?_
            refine zz_iconst hx hb dX11_doNight_57 ?_
            refine lv_iload hx hb dX11_doNight_58 (lv_at hl 0 rfl) ?_
            refine lv_iload_n hx hb dX11_doNight_60 rfl (lv_at hl 1 rfl) ?_
            refine zz_isub hx hb dX11_doNight_61 ?_
            refine zz_callVv (As := [.int (iI k), .int (iI 2), .int (iI (bk - sh))]) (rest := []) (wf := fun u => bModel tA a0 a1 a2 a3 a4 a5 a6 a7 a8 a9 a10 (addM m9 k 2 (bk - sh)) mbef msav misv mpast mpm mthr mways_1 mnds_2 mtkp_3 mline mlm mtxt mlen mat mwr merr mfail mcmd mcm) ⟨hx, hb, hml, hown, hts⟩ (c_X11_adds l D tA a0 a1 a2 a3 a4 a5 a6 a7 a8 a9 a10 H.size m9 mbef msav misv mpast mpm mthr mways_1 mnds_2 mtkp_3 mline mlm mtxt mlen mat mwr merr mfail mcmd mcm k 2 (bk - sh) (by first | assumption | omega) (by first | assumption | omega) (by first | assumption | omega) (by first | assumption | omega) (by first | assumption | omega)) (cwV 3 hts gX11_doNight_X11_adds rfl rfl rfl (by decide +kernel) ⟨Nat.le_of_ble_eq_true rfl, Nat.le_of_ble_eq_true rfl⟩) hK hP hD hS hA [0, 1, 2, 3, 4, 5, 6, 7, 8, 9, 10] [] [0, 1, 2, 3, 4, 5, 6, 7, 8, 9, 10] rfl rfl (by decide) (by decide) (by decide) (by decide) (fun _ => rfl) (ci := 13) (q0 := 0) rfl rfl rfl rfl rfl hl.1 (Nat.le_of_ble_eq_true rfl) dX11_doNight_62 ⟨Nat.le_of_ble_eq_true rfl, Nat.le_of_ble_eq_true rfl⟩ ?_
            intro u H locs p62_12 hP hD hS
            have hP : va_P D vwCl (bModel tA a0 a1 a2 a3 a4 a5 a6 a7 a8 a9 a10 (addM m9 k 2 (bk - sh)) mbef msav misv mpast mpm mthr mways_1 mnds_2 mtkp_3 mline mlm mtxt mlen mat mwr merr mfail mcmd mcm) H := hP
            have hD : va_D A (bModel tA a0 a1 a2 a3 a4 a5 a6 a7 a8 a9 a10 (addM m9 k 2 (bk - sh)) mbef msav misv mpast mpm mthr mways_1 mnds_2 mtkp_3 mline mlm mtxt mlen mat mwr merr mfail mcmd mcm) := hD
            refine lv_aload_n hx hb dX11_doNight_65 rfl (lv_at hl 4 rfl) ?_
            refine lv_iload_n hx hb dX11_doNight_66 rfl (lv_at hl 2 rfl) ?_
            have J81 : ∀ (wc : Int) (H : Heap) (locs : List Loc) (ls : Array Slot), (wc = if mtkp_3 k = 1 then 3 else 4) → (wc = 3 ∨ wc = 4) → va_P D vwCl (bModel tA a0 a1 a2 a3 a4 a5 a6 a7 a8 a9 a10 (addM m9 k 2 (bk - sh)) mbef msav misv mpast mpm mthr mways_1 mnds_2 mtkp_3 mline mlm mtxt mlen mat mwr merr mfail mcmd mcm) H → va_D A (bModel tA a0 a1 a2 a3 a4 a5 a6 a7 a8 a9 a10 (addM m9 k 2 (bk - sh)) mbef msav misv mpast mpm mthr mways_1 mnds_2 mtkp_3 mline mlm mtxt mlen mat mwr merr mfail mcmd mcm) → va_S A s.heap H locs → lv_has ls 5 [(4, .int (iI bk)), (3, .int (iI sh)), (2, .int (iI k)), (1, .int (iI many)), (0, .ref a0)] → W p l e (headSpec wsX11_doNight ({ frames := 4, cells := 0, slots := 0, locals := 90 })).room s m args below meth c H locs 0 0 Q (F0 m 81 ls [.int (iI wc), .int (iI k), .ref a0]) := by
              intro wc H locs ls jw jw2 hP hD hS hl
              refine zz_iconst hx hb dX11_doNight_81 ?_
              refine zz_callVv (As := [.int (iI k), .int (iI wc), .int (iI 1)]) (rest := []) (wf := fun u => bModel tA a0 a1 a2 a3 a4 a5 a6 a7 a8 a9 a10 (addM (addM m9 k 2 (bk - sh)) k wc 1) mbef msav misv mpast mpm mthr mways_1 mnds_2 mtkp_3 mline mlm mtxt mlen mat mwr merr mfail mcmd mcm) ⟨hx, hb, hml, hown, hts⟩ (c_X11_adds l D tA a0 a1 a2 a3 a4 a5 a6 a7 a8 a9 a10 H.size (addM m9 k 2 (bk - sh)) mbef msav misv mpast mpm mthr mways_1 mnds_2 mtkp_3 mline mlm mtxt mlen mat mwr merr mfail mcmd mcm k wc 1 (by first | assumption | omega) (by first | assumption | omega) (by first | assumption | omega) (by first | assumption | omega) (by first | assumption | omega)) (cwV 3 hts gX11_doNight_X11_adds rfl rfl rfl (by decide +kernel) ⟨Nat.le_of_ble_eq_true rfl, Nat.le_of_ble_eq_true rfl⟩) hK hP hD hS hA [0, 1, 2, 3, 4, 5, 6, 7, 8, 9, 10] [] [0, 1, 2, 3, 4, 5, 6, 7, 8, 9, 10] rfl rfl (by decide) (by decide) (by decide) (by decide) (fun _ => rfl) (ci := 13) (q0 := 0) rfl rfl rfl rfl rfl hl.1 (Nat.le_of_ble_eq_true rfl) dX11_doNight_82 ⟨Nat.le_of_ble_eq_true rfl, Nat.le_of_ble_eq_true rfl⟩ ?_
              intro u H locs p82_13 hP hD hS
              have hP : va_P D vwCl (bModel tA a0 a1 a2 a3 a4 a5 a6 a7 a8 a9 a10 (addM (addM m9 k 2 (bk - sh)) k wc 1) mbef msav misv mpast mpm mthr mways_1 mnds_2 mtkp_3 mline mlm mtxt mlen mat mwr merr mfail mcmd mcm) H := hP
              have hD : va_D A (bModel tA a0 a1 a2 a3 a4 a5 a6 a7 a8 a9 a10 (addM (addM m9 k 2 (bk - sh)) k wc 1) mbef msav misv mpast mpm mthr mways_1 mnds_2 mtkp_3 mline mlm mtxt mlen mat mwr merr mfail mcmd mcm) := hD
              refine lv_aload_n hx hb dX11_doNight_85 rfl (lv_at hl 4 rfl) ?_
              refine va_get (D := D) (ci := 13) (v := .ref a1) (C := RX11) (T := TX11) (N := 20) hx hb hts iX11 hown hK hP 0 rfl rfl 0 (by decide) f_9 (fun _ h9 => h9) rfl dX11_doNight_86 ?_
              refine zz_iconst hx hb dX11_doNight_89 ?_
              refine lv_dup2_11 hx hb dX11_doNight_90 rfl rfl ?_
              refine zz_iald hx hb hK hP 1 rfl (by decide) (by omega) dX11_doNight_91 ?_
              refine lv_iload_n hx hb dX11_doNight_92 rfl (lv_at hl 1 rfl) ?_
              refine lv_iload hx hb dX11_doNight_93 (lv_at hl 0 rfl) ?_
              refine zz_isub hx hb dX11_doNight_95 ?_
              refine zz_iadd hx hb dX11_doNight_96 ?_
              refine zz_iast hx hb hK hP hD hS 1 rfl (by decide) (by omega) dX11_doNight_97 (fun H locs hP hD hS => ?_)
              have hP : va_P D vwCl (bModel tA a0 a1 a2 a3 a4 a5 a6 a7 a8 a9 a10 (zU (addM (addM m9 k 2 (bk - sh)) k wc 1) 5 (((addM (addM m9 k 2 (bk - sh)) k wc 1) 5) + (sh - bk))) mbef msav misv mpast mpm mthr mways_1 mnds_2 mtkp_3 mline mlm mtxt mlen mat mwr merr mfail mcmd mcm) H := hP
              have hD : va_D A (bModel tA a0 a1 a2 a3 a4 a5 a6 a7 a8 a9 a10 (zU (addM (addM m9 k 2 (bk - sh)) k wc 1) 5 (((addM (addM m9 k 2 (bk - sh)) k wc 1) 5) + (sh - bk))) mbef msav misv mpast mpm mthr mways_1 mnds_2 mtkp_3 mline mlm mtxt mlen mat mwr merr mfail mcmd mcm) := hD
              refine lv_aload_n hx hb dX11_doNight_98 rfl (lv_at hl 4 rfl) ?_
              refine va_get (D := D) (ci := 13) (v := .ref a1) (C := RX11) (T := TX11) (N := 20) hx hb hts iX11 hown hK hP 0 rfl rfl 0 (by decide) f_9 (fun _ h9 => h9) rfl dX11_doNight_99 ?_
              refine zz_bipush hx hb dX11_doNight_102 (by decide) ?_
              refine lv_dup2_11 hx hb dX11_doNight_104 rfl rfl ?_
              refine zz_iald hx hb hK hP 1 rfl (by decide) (by omega) dX11_doNight_105 ?_
              refine lv_iload hx hb dX11_doNight_106 (lv_at hl 0 rfl) ?_
              refine zz_iadd hx hb dX11_doNight_108 ?_
              refine zz_iast hx hb hK hP hD hS 1 rfl (by decide) (by omega) dX11_doNight_109 (fun H locs hP hD hS => ?_)
              have hP : va_P D vwCl (bModel tA a0 a1 a2 a3 a4 a5 a6 a7 a8 a9 a10 (zU (zU (addM (addM m9 k 2 (bk - sh)) k wc 1) 5 (((addM (addM m9 k 2 (bk - sh)) k wc 1) 5) + (sh - bk))) 6 (((zU (addM (addM m9 k 2 (bk - sh)) k wc 1) 5 (((addM (addM m9 k 2 (bk - sh)) k wc 1) 5) + (sh - bk))) 6) + bk)) mbef msav misv mpast mpm mthr mways_1 mnds_2 mtkp_3 mline mlm mtxt mlen mat mwr merr mfail mcmd mcm) H := hP
              have hD : va_D A (bModel tA a0 a1 a2 a3 a4 a5 a6 a7 a8 a9 a10 (zU (zU (addM (addM m9 k 2 (bk - sh)) k wc 1) 5 (((addM (addM m9 k 2 (bk - sh)) k wc 1) 5) + (sh - bk))) 6 (((zU (addM (addM m9 k 2 (bk - sh)) k wc 1) 5 (((addM (addM m9 k 2 (bk - sh)) k wc 1) 5) + (sh - bk))) 6) + bk)) mbef msav misv mpast mpm mthr mways_1 mnds_2 mtkp_3 mline mlm mtxt mlen mat mwr merr mfail mcmd mcm) := hD
              refine lv_iload_n hx hb dX11_doNight_110 rfl (lv_at hl 3 rfl) ?_
              refine lv_aload_n hx hb dX11_doNight_111 rfl (lv_at hl 4 rfl) ?_
              refine va_get (D := D) (ci := 13) (v := .ref a7) (C := RX11) (T := TX11) (N := 20) hx hb hts iX11 hown hK hP 0 rfl rfl 9 (by decide) f_28 (fun _ h9 => h9) rfl dX11_doNight_112 ?_
              refine lv_iload_n hx hb dX11_doNight_115 rfl (lv_at hl 2 rfl) ?_
              refine zz_zald hx hb hK hP 7 rfl (by decide) (by omega) dX11_doNight_116 ?_
              have r_116 := mkT_01 hpv mc1 (show 0 ≤ k by omega) (show k < ms 1 by omega)
              refine zz_if_eq (tgt := 124) hx hb dX11_doNight_117 (by decide) (by omega) (fun c_117 => ?_) (fun c_117 => ?_)
              · refine zz_iconst hx hb dX11_doNight_124 ?_
                refine zz_iadd hx hb dX11_doNight_125 ?_
                refine lv_istore_n (lv' := [(1, .int (iI (many + 0))), (4, .int (iI bk)), (3, .int (iI sh)), (2, .int (iI k)), (0, .ref a0)]) hx hb dX11_doNight_126 rfl hl (by decide) rfl (fun ls hl => ?_)
                refine zz_iinc (lv' := [(2, .int (iI (k + 1))), (1, .int (iI (many + 0))), (4, .int (iI bk)), (3, .int (iI sh)), (0, .ref a0)]) hx hb dX11_doNight_127 hl (k := 3) rfl (by decide) rfl (fun ls hl => ?_)
                refine lv_goto (tgt := 8) hx hb dX11_doNight_130 (by decide) ?_
                exact ih8 (k + 1) (many + 0) (zU (zU (addM (addM m9 k 2 (bk - sh)) k wc 1) 5 (((addM (addM m9 k 2 (bk - sh)) k wc 1) 5) + (sh - bk))) 6 (((zU (addM (addM m9 k 2 (bk - sh)) k wc 1) 5 (((addM (addM m9 k 2 (bk - sh)) k wc 1) 5) + (sh - bk))) 6) + bk)) _ _ _ (by omega) (by exact NiK_s (by omega) i1 (by rw [mkT_at (by omega)]; omega) js jb (by rw [mkT_at (by omega)]; exact jw)) (by rw [i2]; first | exact sm_next1 (f := mkT (ms 1) mtkp_3) (by omega) (by rw [mkT_at (by omega)]; omega) | (rw [Int.add_zero]; exact sm_next0 (f := mkT (ms 1) mtkp_3) (by omega) (by rw [mkT_at (by omega)]; omega))) (by omega) hP hD hS (lv_sub hl [0, 1, 4] rfl)
              · refine zz_iconst hx hb dX11_doNight_120 ?_
                refine lv_goto (tgt := 125) hx hb dX11_doNight_121 (by decide) ?_
                refine zz_iadd hx hb dX11_doNight_125 ?_
                refine lv_istore_n (lv' := [(1, .int (iI (many + 1))), (4, .int (iI bk)), (3, .int (iI sh)), (2, .int (iI k)), (0, .ref a0)]) hx hb dX11_doNight_126 rfl hl (by decide) rfl (fun ls hl => ?_)
                refine zz_iinc (lv' := [(2, .int (iI (k + 1))), (1, .int (iI (many + 1))), (4, .int (iI bk)), (3, .int (iI sh)), (0, .ref a0)]) hx hb dX11_doNight_127 hl (k := 3) rfl (by decide) rfl (fun ls hl => ?_)
                refine lv_goto (tgt := 8) hx hb dX11_doNight_130 (by decide) ?_
                exact ih8 (k + 1) (many + 1) (zU (zU (addM (addM m9 k 2 (bk - sh)) k wc 1) 5 (((addM (addM m9 k 2 (bk - sh)) k wc 1) 5) + (sh - bk))) 6 (((zU (addM (addM m9 k 2 (bk - sh)) k wc 1) 5 (((addM (addM m9 k 2 (bk - sh)) k wc 1) 5) + (sh - bk))) 6) + bk)) _ _ _ (by omega) (by exact NiK_s (by omega) i1 (by rw [mkT_at (by omega)]; omega) js jb (by rw [mkT_at (by omega)]; exact jw)) (by rw [i2]; first | exact sm_next1 (f := mkT (ms 1) mtkp_3) (by omega) (by rw [mkT_at (by omega)]; omega) | (rw [Int.add_zero]; exact sm_next0 (f := mkT (ms 1) mtkp_3) (by omega) (by rw [mkT_at (by omega)]; omega))) (by omega) hP hD hS (lv_sub hl [0, 1, 4] rfl)
            refine lv_aload_n hx hb dX11_doNight_67 rfl (lv_at hl 4 rfl) ?_
            refine va_get (D := D) (ci := 13) (v := .ref a7) (C := RX11) (T := TX11) (N := 20) hx hb hts iX11 hown hK hP 0 rfl rfl 9 (by decide) f_28 (fun _ h9 => h9) rfl dX11_doNight_68 ?_
            refine lv_iload_n hx hb dX11_doNight_71 rfl (lv_at hl 2 rfl) ?_
            refine zz_zald hx hb hK hP 7 rfl (by decide) (by omega) dX11_doNight_72 ?_
            have r_72 := mkT_01 hpv mc1 (show 0 ≤ k by omega) (show k < ms 1 by omega)
            refine zz_if_eq (tgt := 80) hx hb dX11_doNight_73 (by decide) (by omega) (fun c_73 => ?_) (fun c_73 => ?_)
            · refine zz_iconst hx hb dX11_doNight_80 ?_
              exact J81 4 _ _ _ (by first | rw [if_pos (by omega)] | rw [if_neg (by omega)]) (by omega) hP hD hS (lv_sub hl [0, 1, 2, 3, 4] rfl)
            · refine zz_iconst hx hb dX11_doNight_76 ?_
              refine lv_goto (tgt := 81) hx hb dX11_doNight_77 (by decide) ?_
              exact J81 3 _ _ _ (by first | rw [if_pos (by omega)] | rw [if_neg (by omega)]) (by omega) hP hD hS (lv_sub hl [0, 1, 2, 3, 4] rfl)
          refine lv_aload_n hx hb dX11_doNight_37 rfl (lv_at hl 3 rfl) ?_
          refine va_get (D := D) (ci := 13) (v := .ref a1) (C := RX11) (T := TX11) (N := 20) hx hb hts iX11 hown hK hP 0 rfl rfl 0 (by decide) f_9 (fun _ h9 => h9) rfl dX11_doNight_38 ?_
          refine zz_iconst hx hb dX11_doNight_41 ?_
          refine zz_iald hx hb hK hP 1 rfl (by decide) (by omega) dX11_doNight_42 ?_
          refine zz_if_le (tgt := 52) hx hb dX11_doNight_43 (by decide) (by omega) (fun c_43 => ?_) (fun c_43 => ?_)
          · refine zz_iconst hx hb dX11_doNight_52 ?_
            exact J53 0 _ _ _ (by unfold bkN; first | rw [if_pos (by omega), js] | rw [if_neg (by omega)]) (by omega) hP hD hS (lv_sub hl [0, 1, 2, 3] rfl)
          · refine lv_iload_n hx hb dX11_doNight_46 rfl (lv_at hl 0 rfl) ?_
            refine zz_iconst hx hb dX11_doNight_47 ?_
            refine zz_idiv hx hb dX11_doNight_48 (by omega) (by omega) ?_
            refine lv_goto (tgt := 53) hx hb dX11_doNight_49 (by decide) ?_
            exact J53 (sh / 2) _ _ _ (by unfold bkN; first | rw [if_pos (by omega), js] | rw [if_neg (by omega)]) (by omega) hP hD hS (lv_sub hl [0, 1, 2, 3] rfl)
        refine lv_aload_n hx hb dX11_doNight_18 rfl (lv_at hl 2 rfl) ?_
        refine va_get (D := D) (ci := 13) (v := .ref a7) (C := RX11) (T := TX11) (N := 20) hx hb hts iX11 hown hK hP 0 rfl rfl 9 (by decide) f_28 (fun _ h9 => h9) rfl dX11_doNight_19 ?_
        refine lv_iload_n hx hb dX11_doNight_22 rfl (lv_at hl 0 rfl) ?_
        refine zz_zald hx hb hK hP 7 rfl (by decide) (by omega) dX11_doNight_23 ?_
        have r_23 := mkT_01 hpv mc1 (show 0 ≤ k by omega) (show k < ms 1 by omega)
        refine zz_if_eq (tgt := 35) hx hb dX11_doNight_24 (by decide) (by omega) (fun c_24 => ?_) (fun c_24 => ?_)
        · refine zz_iconst hx hb dX11_doNight_35 ?_
          exact J36 0 _ _ _ (by unfold shN; first | (rw [if_pos (by rw [mkT_at (by omega)]; omega), q_29, e1]) | (rw [if_neg (by rw [mkT_at (by omega)]; omega)])) (by omega) hP hD hS (lv_sub hl [0, 1, 2] rfl)
        · refine lv_aload_n hx hb dX11_doNight_27 rfl (lv_at hl 2 rfl) ?_
          refine lv_iload_n hx hb dX11_doNight_28 rfl (lv_at hl 0 rfl) ?_
          refine zz_callVi (As := [.int (iI k)]) (rest := []) (wf := fun u => bModel tA a0 a1 a2 a3 a4 a5 a6 a7 a8 a9 a10 m9 mbef msav misv mpast mpm mthr mways_1 mnds_2 mtkp_3 mline mlm mtxt mlen mat mwr merr mfail mcmd mcm) ⟨hx, hb, hml, hown, hts⟩ (c_X11_share l D tA a0 a1 a2 a3 a4 a5 a6 a7 a8 a9 a10 H.size m9 mbef msav misv mpast mpm mthr mways_1 mnds_2 mtkp_3 mline mlm mtxt mlen mat mwr merr mfail mcmd mcm k (by first | assumption | omega) (by first | assumption | omega) (e1 ▸ hpv) (by first | assumption | omega) (by first | assumption | omega)) (cwV 1 hts gX11_doNight_X11_share rfl rfl rfl (by decide +kernel) ⟨Nat.le_of_ble_eq_true rfl, Nat.le_of_ble_eq_true rfl⟩) hK hP hD hS hA [0, 1, 2, 3, 4, 5, 6, 7, 8, 9, 10] [] [0, 1, 2, 3, 4, 5, 6, 7, 8, 9, 10] rfl rfl (by decide) (by decide) (by decide) (by decide) (fun _ => rfl) (ci := 13) (q0 := 0) rfl rfl rfl rfl rfl hl.1 (Nat.le_of_ble_eq_true rfl) dX11_doNight_29 ⟨Nat.le_of_ble_eq_true rfl, Nat.le_of_ble_eq_true rfl⟩ ?_
          intro z29_14 u H locs p29_15 hP hD hS
          have hP : va_P D vwCl (bModel tA a0 a1 a2 a3 a4 a5 a6 a7 a8 a9 a10 m9 mbef msav misv mpast mpm mthr mways_1 mnds_2 mtkp_3 mline mlm mtxt mlen mat mwr merr mfail mcmd mcm) H := hP
          have hD : va_D A (bModel tA a0 a1 a2 a3 a4 a5 a6 a7 a8 a9 a10 m9 mbef msav misv mpast mpm mthr mways_1 mnds_2 mtkp_3 mline mlm mtxt mlen mat mwr merr mfail mcmd mcm) := hD
          have q_29 : z29_14 = shR (mkT (m9 1) mtkp_3) mnds_2 (mnds_2 k).toNat := p29_15.1
          have q2_29 : 0 ≤ z29_14 ∧ z29_14 ≤ 46800 := p29_15.2
          refine lv_goto (tgt := 36) hx hb dX11_doNight_32 (by decide) ?_
          exact J36 z29_14 _ _ _ (by unfold shN; first | (rw [if_pos (by rw [mkT_at (by omega)]; omega), q_29, e1]) | (rw [if_neg (by rw [mkT_at (by omega)]; omega)])) (by omega) hP hD hS (lv_sub hl [0, 1, 2] rfl)
  exact L8 _ 0 0 ms _ _ _ (by omega) (by exact NiK_0) (by rfl) (Nat.lt_succ_self _) hP hD hS (lv_sub hl [0, 1, 2] rfl)
