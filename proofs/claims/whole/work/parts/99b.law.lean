/-! ===== the law, call by call (2) ===== -/
set_option maxHeartbeats 8000000 in
set_option maxRecDepth 100000 in
theorem law_c6 {p : Program} {l : Launch} (hst : l.stackTraces = false) {e : Env} {s : State} {m : MethodId} {below : List Frame} {meth : Method} {c : Code} {D : va_G} {tA : Nat → ClassId} {K : Nat → Nat} {b L : Nat} {xs : Nat → Int32} (hL : L ≤ 2560) (C0 : lw_At p s m meth c b L xs) (hK : zK D tA s) (hZ : zT K (lwA s) s) {ad am : Nat → Nat} {o od : Nat} {i n : Int} (hi : 0 ≤ i ∧ i + 5 ≤ L) (hn9 : n < 600) {k9 n9 : Nat} (hk9 : k9 + 20 ≤ 603072 ∧ n9 + 200 ≤ 7207018) {v : Nat → Int → Int} {shrt : Int → Int} {grp : Int → Int} {seen : Int → Int} {tp : Int → Int} {shr : Int → Int} {need : Int → Int} {ordr : Int → Int} {size : Int} {pos : Int} {cmd : Int} {vals : Int → Int} {txt : Int → Int} {len : Int} {hc : Int} {hn : Int} {hs : Nat → Nat → Int → Int} {bt : Nat → Int → Int} {sv : Nat → Int → Int} {hsv : Int} {mal : Int} {fai : Int} {lnb : Int → Int} {lml : Int} {lct : Int} {ms : Int → Int} {mbef : Int → Int} {msav : Int → Int} {misv : Int} {mpast : Int → Int} {mpm : Int} {mthr : Int} {mways : Int → Int} {mnds : Int → Int} {mtkp : Int → Int} {mline : Int → Int} {mlm : Int} {mtxt : Int → Int} {mlen : Int} {mat : Int} {mwr : Int} {merr : Int} {mfail : Int} {mcmd : Int → Int} {mcm : Int} {og : Int → Int} {dg : Nat → UInt64} {H : Heap} {locs : List Loc} {ls : Array Slot} (hI : LInv n v hs sv pos cmd vals txt len hc hn hsv mal fai lnb lct ms msav misv mpast mpm mline mlm mtxt mlen merr mfail mcmd) (hP : va_P D vwCl (xW tA K ad am o od v shrt grp seen tp shr need ordr size pos cmd vals txt len hc hn hs bt sv hsv mal fai lnb lml lct ms mbef msav misv mpast mpm mthr mways mnds mtkp mline mlm mtxt mlen mat mwr merr mfail mcmd mcm og dg).flatten H) (hD : va_D (lwA s) (xW tA K ad am o od v shrt grp seen tp shr need ordr size pos cmd vals txt len hc hn hs bt sv hsv mal fai lnb lml lct ms mbef msav misv mpast mpm mthr mways mnds mtkp mline mlm mtxt mlen mat mwr merr mfail mcmd mcm og dg).flatten) (hS : va_S (lwA s) s.heap H locs) (hl : lv_has ls 9 [(0, .ref b), (1, .ref (ad 0)), (2, .ref (am 0)), (3, .ref o), (4, .ref od), (5, .int (iI i))]) (kk : lwK p l e s m below meth c D tA K ad am o od b i n k9 n9) : W p l e room_1 s m #[Value.ref b] below meth c H locs k9 n9 (lw_Z below #[Value.ref b] s) (F0 m 581 ls []) := by
  obtain ⟨hx, hb, hrt, hml, hown, hts, hX, hbl, hlocks, hgv⟩ := id C0
  have hts := lw_more hts
  have hA : ∀ q : Nat, s.heap.size ≤ q → lwA s q := fun _ h => h
  have hbA : ¬ lwA s b := Nat.not_le.mpr hbl
  have hCn := hZ.2.2.2
  obtain ⟨⟨n0, n6, l0, l6, ln⟩, hLS, ⟨hhn, hhc, hpm, hhi⟩, ⟨hsv01, hmis, hsvv, hsvr⟩, ⟨hlen, htxt, htx⟩, ⟨hlm, hln, hl0, hl16, hlb⟩, ⟨her, hfa, hm1, hm2, hf1, hf2⟩, ⟨hcd0, hcd1, hps0, hps1, hva⟩, hcr⟩ := id hI
  have hv := hLS.1
  have hr := hLS.2
  have hch : ChS v := hv.1
  have hu9 : ChW v := hv.2.1
  obtain ⟨-, -, hcc, hsp, hmo, hfog, hrg, hni, hfd, hmt9, hln9, hsum⟩ := SVk_out (show SVk _ _ (etS v) from hv)
  have hmv := rel_MV hv hr (by omega) (by omega)
  obtain ⟨e0, e1, e2, e3, e4, e5, e6⟩ := id hr.1
  have eE := rel_sE hch hr
  have hmon : ∀ j, 0 ≤ j → j < v 7 0 → 0 ≤ v 10 j ∧ v 10 j ≤ 6000000 := fun j j0 j1 => by have := hmo j j0 j1; omega
  have hlnd : ∀ j, 0 ≤ j → j < v 7 0 → (0 ≤ v 11 j ∧ v 11 j ≤ 600) ∧ (0 ≤ v 12 j ∧ v 12 j ≤ 600) := fun j j0 j1 => by have := hln9 j j0 j1; omega
  refine lv_aload_n hx hb dL_law_581 rfl (lv_at hl 1 rfl) ?_
  refine lv_aload_n hx hb dL_law_582 rfl (lv_at hl 0 rfl) ?_
  refine lv_iload hx hb dL_law_583 (lv_at hl 5 rfl) ?_
  refine zz_iconst hx hb dL_law_585 ?_
  refine zz_iadd hx hb dL_law_586 ?_
  refine zz_sld hx hb hX hbl hbA hS (k := i + 1) (by omega) hL dL_law_587 ?_
  refine lv_aload_n hx hb dL_law_588 rfl (lv_at hl 0 rfl) ?_
  refine lv_iload hx hb dL_law_589 (lv_at hl 5 rfl) ?_
  refine zz_iconst hx hb dL_law_591 ?_
  refine zz_iadd hx hb dL_law_592 ?_
  refine zz_sld hx hb hX hbl hbA hS (k := i + 2) (by omega) hL dL_law_593 ?_
  refine lv_aload_n hx hb dL_law_594 rfl (lv_at hl 3 rfl) ?_
  refine zh_callSi_ch (As := [.ref (ad 0), .int (iI (xz xs (i + 1))), .int (iI (xz xs (i + 2))), .ref o]) (rest := []) (L := [xOut tA o og, xOud tA od dg, xMod tA am ms mbef msav misv mpast mpm mthr mways mnds mtkp mline mlm mtxt mlen mat mwr merr mfail mcmd mcm, xObj ad hsv mal fai, xOff tA ad v shrt grp seen tp shr need ordr size, xScr tA K ad pos cmd vals txt len, xHis tA ad hc hn hs, xBef tA ad bt, xSav tA ad sv, xLin tA ad lnb lml lct]) (Lc := [xOut tA o og, xObj ad hsv mal fai, xOff tA ad v shrt grp seen tp shr need ordr size]) (Lr := [xOud tA od dg, xMod tA am ms mbef msav misv mpast mpm mthr mways mnds mtkp mline mlm mtxt mlen mat mwr merr mfail mcmd mcm, xScr tA K ad pos cmd vals txt len, xHis tA ad hc hn hs, xBef tA ad bt, xSav tA ad sv, xLin tA ad lnb lml lct]) (Lc' := fun u => Sum.elim (fun u => [xOut tA o (zU og 0 u.1), xObj ad hsv mal fai, xOff tA ad v shrt grp seen tp shr need ordr size]) (fun u => [xOut tA o og, xObj ad hsv mal fai, xOff tA ad v shrt grp seen tp shr need ordr size]) u) (Lf := fun u => Sum.elim (fun u => [xOut tA o (zU og 0 u.1), xOud tA od dg, xMod tA am ms mbef msav misv mpast mpm mthr mways mnds mtkp mline mlm mtxt mlen mat mwr merr mfail mcmd mcm, xObj ad hsv mal fai, xOff tA ad v shrt grp seen tp shr need ordr size, xScr tA K ad pos cmd vals txt len, xHis tA ad hc hn hs, xBef tA ad bt, xSav tA ad sv, xLin tA ad lnb lml lct]) (fun u => [xOut tA o og, xOud tA od dg, xMod tA am ms mbef msav misv mpast mpm mthr mways mnds mtkp mline mlm mtxt mlen mat mwr merr mfail mcmd mcm, xObj ad hsv mal fai, xOff tA ad v shrt grp seen tp shr need ordr size, xScr tA K ad pos cmd vals txt len, xHis tA ad hc hn hs, xBef tA ad bt, xSav tA ad sv, xLin tA ad lnb lml lct]) u) (is := [0, 3, 4, 1, 2, 5, 6, 7, 8, 9]) (isF := [7, 0, 1, 8, 9, 2, 3, 4, 5, 6]) ⟨hx, hb, hml, hown, hts⟩ (c_L_lengthOf l hst K D tA (ad 0) (ad 1) (ad 2) (ad 3) (ad 4) (ad 5) (ad 6) (ad 7) (ad 8) (ad 9) (ad 10) (ad 11) (ad 12) (ad 13) (ad 14) (ad 15) (ad 16) (ad 17) (ad 18) (ad 19) (ad 20) (ad 21) (ad 22) (ad 23) (ad 24) (ad 27) (ad 146) (ad 133) (ad 159) o H.size og (v 0 0) (v 1 0) (v 2) (v 3) (v 4) (v 5) (v 6) (v 7 0) (v 8) (v 9) (v 10) (v 11) (v 12) (v 13 0) (v 14 0) (v 15 0) (v 16 0) (v 17 0) (v 18 0) shrt grp seen tp shr need ordr size hsv mal fai  (xz xs (i + 1)) (xz xs (i + 2)) (xz_in _ _) (xz_in _ _) hch) (vx_cwSW 4 hts (gx_wr gL_law_L_lengthOf) rfl rfl rfl (by decide +kernel) ⟨Nat.le_of_ble_eq_true rfl, Nat.le_of_ble_eq_true rfl⟩) hK hP hD hS hA hZ ⟨rfl, rfl, (by decide)⟩ ⟨fun u => by cases u <;> rfl, fun u => by cases u <;> rfl, (by decide)⟩ rfl rfl hl.1 (Nat.le_of_ble_eq_true rfl) dL_law_595 (by show k9 + 2 ≤ 603072 ∧ n9 + 12 ≤ 7207018; omega) ?_
  intro z6 u H locs hq hP hD hS
  rcases u with ⟨zc, u⟩ | u
  · skip
    obtain ⟨hz6, kq, hzr⟩ := hq
    have kq : inP (v 0 0) (xz xs (i + 1)) (xz xs (i + 2)) ∧ ∃ p, 0 ≤ p ∧ p < (v 1 0) ∧ (v 2) p = min (xz xs (i + 1)) (xz xs (i + 2)) ∧ (v 3) p = max (xz xs (i + 1)) (xz xs (i + 2)) ∧ zc = (v 4) p := kq
    have hz6 : z6 = 0 := hz6
    have hzr : -2147483648 ≤ zc ∧ zc ≤ 2147483647 := hzr
    have hP : va_P D vwCl ([xOut tA o (zU og 0 zc), xOud tA od dg, xMod tA am ms mbef msav misv mpast mpm mthr mways mnds mtkp mline mlm mtxt mlen mat mwr merr mfail mcmd mcm, xObj ad hsv mal fai, xOff tA ad v shrt grp seen tp shr need ordr size, xScr tA K ad pos cmd vals txt len, xHis tA ad hc hn hs, xBef tA ad bt, xSav tA ad sv, xLin tA ad lnb lml lct]).flatten H := hP
    have hD : va_D (lwA s) ([xOut tA o (zU og 0 zc), xOud tA od dg, xMod tA am ms mbef msav misv mpast mpm mthr mways mnds mtkp mline mlm mtxt mlen mat mwr merr mfail mcmd mcm, xObj ad hsv mal fai, xOff tA ad v shrt grp seen tp shr need ordr size, xScr tA K ad pos cmd vals txt len, xHis tA ad hc hn hs, xBef tA ad bt, xSav tA ad sv, xLin tA ad lnb lml lct]).flatten := hD
    refine lv_istore (lv' := [(6, .int (iI z6)), (0, .ref b), (1, .ref (ad 0)), (2, .ref (am 0)), (3, .ref o), (4, .ref od), (5, .int (iI i))]) hx hb dL_law_598 hl (by decide) rfl (fun ls hl => ?_)
    refine lv_aload_n hx hb dL_law_600 rfl (lv_at hl 3 rfl) ?_
    refine lv_aload_n hx hb dL_law_601 rfl (lv_at hl 1 rfl) ?_
    refine lv_iload hx hb dL_law_602 (lv_at hl 6 rfl) ?_
    refine zz_iconst hx hb dL_law_604 ?_
    refine zz_iadd hx hb dL_law_605 ?_
    refine zz_sld hx hb hX hbl hbA hS (k := i + 1) (by omega) hL dL_law_606 ?_
    refine lv_aload_n hx hb dL_law_607 rfl (lv_at hl 1 rfl) ?_
    refine lv_iload hx hb dL_law_608 (lv_at hl 6 rfl) ?_
    refine zz_iconst hx hb dL_law_610 ?_
    refine zz_iadd hx hb dL_law_611 ?_
    refine zz_sld hx hb hX hbl hbA hS (k := i + 2) (by omega) hL dL_law_612 ?_
    refine zz_callVi_ch (As := [.int (iI (xz xs (i + 1))), .int (iI (xz xs (i + 2)))]) (rest := []) (L := [xOut tA o (zU og 0 zc), xOud tA od dg, xMod tA am ms mbef msav misv mpast mpm mthr mways mnds mtkp mline mlm mtxt mlen mat mwr merr mfail mcmd mcm, xObj ad hsv mal fai, xOff tA ad v shrt grp seen tp shr need ordr size, xScr tA K ad pos cmd vals txt len, xHis tA ad hc hn hs, xBef tA ad bt, xSav tA ad sv, xLin tA ad lnb lml lct]) (Lc := [xMod tA am ms mbef msav misv mpast mpm mthr mways mnds mtkp mline mlm mtxt mlen mat mwr merr mfail mcmd mcm]) (Lr := [xOut tA o (zU og 0 zc), xOud tA od dg, xObj ad hsv mal fai, xOff tA ad v shrt grp seen tp shr need ordr size, xScr tA K ad pos cmd vals txt len, xHis tA ad hc hn hs, xBef tA ad bt, xSav tA ad sv, xLin tA ad lnb lml lct]) (Lc' := fun u => [xMod tA am ms mbef msav misv mpast mpm u mways mnds mtkp mline mlm mtxt mlen mat mwr merr mfail mcmd mcm]) (Lf := fun u => [xOut tA o (zU og 0 zc), xOud tA od dg, xMod tA am ms mbef msav misv mpast mpm u mways mnds mtkp mline mlm mtxt mlen mat mwr merr mfail mcmd mcm, xObj ad hsv mal fai, xOff tA ad v shrt grp seen tp shr need ordr size, xScr tA K ad pos cmd vals txt len, xHis tA ad hc hn hs, xBef tA ad bt, xSav tA ad sv, xLin tA ad lnb lml lct]) (is := [2, 0, 1, 3, 4, 5, 6, 7, 8, 9]) (isF := [0, 1, 9, 2, 3, 4, 5, 6, 7, 8]) ⟨hx, hb, hml, hown, hts⟩ (c_X11_lengthOf l D tA (am 0) (am 1) (am 2) (am 3) (am 4) (am 5) (am 6) (am 7) (am 8) (am 9) (am 10) H.size ms mbef msav misv mpast mpm mthr mways mnds mtkp mline mlm mtxt mlen mat mwr merr mfail mcmd mcm (xz xs (i + 1)) (xz xs (i + 2)) (xz_in _ _) (xz_in _ _) ⟨hmv.1.1.1, hmv.1.1.2.1⟩ hmv.1.2.1) (cwV 2 hts (gx_tbl gL_law_X11_lengthOf) rfl rfl rfl (by decide +kernel) ⟨Nat.le_of_ble_eq_true rfl, Nat.le_of_ble_eq_true rfl⟩) hK hP hD hS hA ⟨rfl, rfl, (by decide)⟩ ⟨fun _ => rfl, fun _ => rfl, (by decide)⟩ (ci := 13) (q0 := 0) rfl rfl rfl rfl rfl hl.1 (Nat.le_of_ble_eq_true rfl) dL_law_613 (by show _ + 0 ≤ 603072 ∧ _ + 0 ≤ 7207018; omega) ?_
    intro zb u H locs hmq hP hD hS
    obtain ⟨y_mthr, rfl⟩ : ∃ q, q = u := ⟨_, rfl⟩
    have hP : va_P D vwCl ([xOut tA o (zU og 0 zc), xOud tA od dg, xMod tA am ms mbef msav misv mpast mpm y_mthr mways mnds mtkp mline mlm mtxt mlen mat mwr merr mfail mcmd mcm, xObj ad hsv mal fai, xOff tA ad v shrt grp seen tp shr need ordr size, xScr tA K ad pos cmd vals txt len, xHis tA ad hc hn hs, xBef tA ad bt, xSav tA ad sv, xLin tA ad lnb lml lct]).flatten H := hP
    have hD : va_D (lwA s) ([xOut tA o (zU og 0 zc), xOud tA od dg, xMod tA am ms mbef msav misv mpast mpm y_mthr mways mnds mtkp mline mlm mtxt mlen mat mwr merr mfail mcmd mcm, xObj ad hsv mal fai, xOff tA ad v shrt grp seen tp shr need ordr size, xScr tA K ad pos cmd vals txt len, xHis tA ad hc hn hs, xBef tA ad bt, xSav tA ad sv, xLin tA ad lnb lml lct]).flatten := hD
    have mq : (y_mthr = 1 ∧ ¬ inP (ms 0) (xz xs (i + 1)) (xz xs (i + 2))) ∨ (inP (ms 0) (xz xs (i + 1)) (xz xs (i + 2)) ∧ ((y_mthr = 2 ∧ lgM ms (xz xs (i + 1)) (xz xs (i + 2)) 0 = 0) ∨ (y_mthr = 0 ∧ lgM ms (xz xs (i + 1)) (xz xs (i + 2)) 0 ≠ 0 ∧ zb = lgM ms (xz xs (i + 1)) (xz xs (i + 2)) 0))) := hmq
    clear hmq
    refine lv_istore (lv' := [(7, .int (iI zb)), (6, .int (iI z6)), (0, .ref b), (1, .ref (ad 0)), (2, .ref (am 0)), (3, .ref o), (4, .ref od), (5, .int (iI i))]) hx hb dL_law_616 hl (by decide) rfl (fun ls hl => ?_)
    have hTV : y_mthr = 0 ∧ zb = zc := by
      exact q_leg3 hch hr (x := 0) (by omega) kq mq
    have hT : y_mthr = z6 := hTV.1.trans hz6.symm
    have hI2 : LInv (n + 1) v hs sv pos cmd vals txt len hc hn hsv mal fai lnb lct ms msav misv mpast mpm mline mlm mtxt mlen merr mfail mcmd := by
      exact LI_q hn9 hI
    refine lv_aload_n hx hb dL_law_618 rfl (lv_at hl 4 rfl) ?_
    refine zz_callVi_ch (As := []) (rest := []) (L := [xOut tA o (zU og 0 zc), xOud tA od dg, xMod tA am ms mbef msav misv mpast mpm y_mthr mways mnds mtkp mline mlm mtxt mlen mat mwr merr mfail mcmd mcm, xObj ad hsv mal fai, xOff tA ad v shrt grp seen tp shr need ordr size, xScr tA K ad pos cmd vals txt len, xHis tA ad hc hn hs, xBef tA ad bt, xSav tA ad sv, xLin tA ad lnb lml lct]) (Lc := [xMod tA am ms mbef msav misv mpast mpm y_mthr mways mnds mtkp mline mlm mtxt mlen mat mwr merr mfail mcmd mcm]) (Lr := [xOut tA o (zU og 0 zc), xOud tA od dg, xObj ad hsv mal fai, xOff tA ad v shrt grp seen tp shr need ordr size, xScr tA K ad pos cmd vals txt len, xHis tA ad hc hn hs, xBef tA ad bt, xSav tA ad sv, xLin tA ad lnb lml lct]) (Lc' := fun u => [xMod tA am ms mbef msav misv mpast mpm y_mthr mways mnds mtkp mline mlm mtxt mlen mat mwr merr mfail mcmd mcm]) (Lf := fun u => [xOut tA o (zU og 0 zc), xOud tA od dg, xMod tA am ms mbef msav misv mpast mpm y_mthr mways mnds mtkp mline mlm mtxt mlen mat mwr merr mfail mcmd mcm, xObj ad hsv mal fai, xOff tA ad v shrt grp seen tp shr need ordr size, xScr tA K ad pos cmd vals txt len, xHis tA ad hc hn hs, xBef tA ad bt, xSav tA ad sv, xLin tA ad lnb lml lct]) (is := [2, 0, 1, 3, 4, 5, 6, 7, 8, 9]) (isF := [0, 1, 9, 2, 3, 4, 5, 6, 7, 8]) ⟨hx, hb, hml, hown, hts⟩ (c_X11_thrown l D tA (am 0) (am 1) (am 2) (am 3) (am 4) (am 5) (am 6) (am 7) (am 8) (am 9) (am 10) H.size ms mbef msav misv mpast mpm y_mthr mways mnds mtkp mline mlm mtxt mlen mat mwr merr mfail mcmd mcm) (cwV 0 hts (gx_tbl gL_law_X11_thrown) rfl rfl rfl (by decide +kernel) ⟨Nat.le_of_ble_eq_true rfl, Nat.le_of_ble_eq_true rfl⟩) hK hP hD hS hA ⟨rfl, rfl, (by decide)⟩ ⟨fun _ => rfl, fun _ => rfl, (by decide)⟩ (ci := 13) (q0 := 0) rfl rfl rfl rfl rfl hl.1 (Nat.le_of_ble_eq_true rfl) dL_law_619 (by show _ + 0 ≤ 603072 ∧ _ + 0 ≤ 7207018; omega) ?_
    intro zt u H locs hzt hP hD hS
    have hP : va_P D vwCl ([xOut tA o (zU og 0 zc), xOud tA od dg, xMod tA am ms mbef msav misv mpast mpm y_mthr mways mnds mtkp mline mlm mtxt mlen mat mwr merr mfail mcmd mcm, xObj ad hsv mal fai, xOff tA ad v shrt grp seen tp shr need ordr size, xScr tA K ad pos cmd vals txt len, xHis tA ad hc hn hs, xBef tA ad bt, xSav tA ad sv, xLin tA ad lnb lml lct]).flatten H := hP
    have hD : va_D (lwA s) ([xOut tA o (zU og 0 zc), xOud tA od dg, xMod tA am ms mbef msav misv mpast mpm y_mthr mways mnds mtkp mline mlm mtxt mlen mat mwr merr mfail mcmd mcm, xObj ad hsv mal fai, xOff tA ad v shrt grp seen tp shr need ordr size, xScr tA K ad pos cmd vals txt len, xHis tA ad hc hn hs, xBef tA ad bt, xSav tA ad sv, xLin tA ad lnb lml lct]).flatten := hD
    have hzt : zt = y_mthr := hzt
    have hz69 : 0 ≤ z6 ∧ z6 ≤ 9 := by omega
    refine lv_iload hx hb dL_law_622 (lv_at hl 1 rfl) ?_
    refine zz_icmp_eq (tgt := 629) hx hb dL_law_624 (by decide) (by omega) (by omega) (fun _ => ?_) (fun c9 => absurd (by omega) c9)
    refine lv_iload hx hb dL_law_629 (lv_at hl 1 rfl) ?_
    refine zz_if_ne (tgt := 646) hx hb dL_law_631 (by decide) (by omega) (fun c9 => absurd hz6 c9) (fun _ => ?_)
    refine lv_aload_n hx hb dL_law_634 rfl (lv_at hl 5 rfl) ?_
    refine zz_iconst hx hb dL_law_635 ?_
    refine zz_lald hx hb hK hP 0 rfl (by decide) (by decide) dL_law_636 ?_
    rw [zU_same]
    refine lv_iload hx hb dL_law_637 (lv_at hl 0 rfl) ?_
    refine zz_i2l hx hb dL_law_639 (by omega) ?_
    rw [hTV.2]
    refine zz_lcmp hx hb dL_law_640 (by omega) (by omega) ?_
    rw [cmpZ_s]
    refine zz_if_eq (tgt := 646) hx hb dL_law_641 (by decide) (by decide) (fun _ => ?_) (fun c9 => absurd rfl c9)
    refine lv_goto (tgt := 2917) hx hb dL_law_646 (by decide) ?_
    refine W.widen (k := k9 + 20) (n := n9 + 200) (by omega) (by omega) ?_
    exact kk v shrt grp seen tp shr need ordr size pos cmd vals txt len hc hn hs bt sv hsv mal fai lnb lml lct ms mbef msav misv mpast mpm y_mthr mways mnds mtkp mline mlm mtxt mlen mat mwr merr mfail mcmd mcm (zU og 0 zc) dg _ _ _ hI2 hP hD hS (lv_sub hl [2, 3, 4, 5, 6, 7] rfl)
  · obtain ⟨kx, rfl⟩ : ∃ q, q = u := ⟨_, rfl⟩
    have kq : (kx = 1 ∧ ¬ inP (v 0 0) (xz xs (i + 1)) (xz xs (i + 2))) ∨ (kx = 4 ∧ inP (v 0 0) (xz xs (i + 1)) (xz xs (i + 2)) ∧ ¬ hasL (v 1 0) (v 2) (v 3) (xz xs (i + 1)) (xz xs (i + 2))) := hq.1
    have kc : (kx = 1 ∧ z6 = 1) ∨ (kx = 4 ∧ z6 = 2) := hq.2
    have hP : va_P D vwCl ([xOut tA o og, xOud tA od dg, xMod tA am ms mbef msav misv mpast mpm mthr mways mnds mtkp mline mlm mtxt mlen mat mwr merr mfail mcmd mcm, xObj ad hsv mal fai, xOff tA ad v shrt grp seen tp shr need ordr size, xScr tA K ad pos cmd vals txt len, xHis tA ad hc hn hs, xBef tA ad bt, xSav tA ad sv, xLin tA ad lnb lml lct]).flatten H := hP
    have hD : va_D (lwA s) ([xOut tA o og, xOud tA od dg, xMod tA am ms mbef msav misv mpast mpm mthr mways mnds mtkp mline mlm mtxt mlen mat mwr merr mfail mcmd mcm, xObj ad hsv mal fai, xOff tA ad v shrt grp seen tp shr need ordr size, xScr tA K ad pos cmd vals txt len, xHis tA ad hc hn hs, xBef tA ad bt, xSav tA ad sv, xLin tA ad lnb lml lct]).flatten := hD
    refine lv_istore (lv' := [(6, .int (iI z6)), (0, .ref b), (1, .ref (ad 0)), (2, .ref (am 0)), (3, .ref o), (4, .ref od), (5, .int (iI i))]) hx hb dL_law_598 hl (by decide) rfl (fun ls hl => ?_)
    refine lv_aload_n hx hb dL_law_600 rfl (lv_at hl 3 rfl) ?_
    refine lv_aload_n hx hb dL_law_601 rfl (lv_at hl 1 rfl) ?_
    refine lv_iload hx hb dL_law_602 (lv_at hl 6 rfl) ?_
    refine zz_iconst hx hb dL_law_604 ?_
    refine zz_iadd hx hb dL_law_605 ?_
    refine zz_sld hx hb hX hbl hbA hS (k := i + 1) (by omega) hL dL_law_606 ?_
    refine lv_aload_n hx hb dL_law_607 rfl (lv_at hl 1 rfl) ?_
    refine lv_iload hx hb dL_law_608 (lv_at hl 6 rfl) ?_
    refine zz_iconst hx hb dL_law_610 ?_
    refine zz_iadd hx hb dL_law_611 ?_
    refine zz_sld hx hb hX hbl hbA hS (k := i + 2) (by omega) hL dL_law_612 ?_
    refine zz_callVi_ch (As := [.int (iI (xz xs (i + 1))), .int (iI (xz xs (i + 2)))]) (rest := []) (L := [xOut tA o og, xOud tA od dg, xMod tA am ms mbef msav misv mpast mpm mthr mways mnds mtkp mline mlm mtxt mlen mat mwr merr mfail mcmd mcm, xObj ad hsv mal fai, xOff tA ad v shrt grp seen tp shr need ordr size, xScr tA K ad pos cmd vals txt len, xHis tA ad hc hn hs, xBef tA ad bt, xSav tA ad sv, xLin tA ad lnb lml lct]) (Lc := [xMod tA am ms mbef msav misv mpast mpm mthr mways mnds mtkp mline mlm mtxt mlen mat mwr merr mfail mcmd mcm]) (Lr := [xOut tA o og, xOud tA od dg, xObj ad hsv mal fai, xOff tA ad v shrt grp seen tp shr need ordr size, xScr tA K ad pos cmd vals txt len, xHis tA ad hc hn hs, xBef tA ad bt, xSav tA ad sv, xLin tA ad lnb lml lct]) (Lc' := fun u => [xMod tA am ms mbef msav misv mpast mpm u mways mnds mtkp mline mlm mtxt mlen mat mwr merr mfail mcmd mcm]) (Lf := fun u => [xOut tA o og, xOud tA od dg, xMod tA am ms mbef msav misv mpast mpm u mways mnds mtkp mline mlm mtxt mlen mat mwr merr mfail mcmd mcm, xObj ad hsv mal fai, xOff tA ad v shrt grp seen tp shr need ordr size, xScr tA K ad pos cmd vals txt len, xHis tA ad hc hn hs, xBef tA ad bt, xSav tA ad sv, xLin tA ad lnb lml lct]) (is := [2, 0, 1, 3, 4, 5, 6, 7, 8, 9]) (isF := [0, 1, 9, 2, 3, 4, 5, 6, 7, 8]) ⟨hx, hb, hml, hown, hts⟩ (c_X11_lengthOf l D tA (am 0) (am 1) (am 2) (am 3) (am 4) (am 5) (am 6) (am 7) (am 8) (am 9) (am 10) H.size ms mbef msav misv mpast mpm mthr mways mnds mtkp mline mlm mtxt mlen mat mwr merr mfail mcmd mcm (xz xs (i + 1)) (xz xs (i + 2)) (xz_in _ _) (xz_in _ _) ⟨hmv.1.1.1, hmv.1.1.2.1⟩ hmv.1.2.1) (cwV 2 hts (gx_tbl gL_law_X11_lengthOf) rfl rfl rfl (by decide +kernel) ⟨Nat.le_of_ble_eq_true rfl, Nat.le_of_ble_eq_true rfl⟩) hK hP hD hS hA ⟨rfl, rfl, (by decide)⟩ ⟨fun _ => rfl, fun _ => rfl, (by decide)⟩ (ci := 13) (q0 := 0) rfl rfl rfl rfl rfl hl.1 (Nat.le_of_ble_eq_true rfl) dL_law_613 (by show _ + 0 ≤ 603072 ∧ _ + 0 ≤ 7207018; omega) ?_
    intro zb u H locs hmq hP hD hS
    obtain ⟨y_mthr, rfl⟩ : ∃ q, q = u := ⟨_, rfl⟩
    have hP : va_P D vwCl ([xOut tA o og, xOud tA od dg, xMod tA am ms mbef msav misv mpast mpm y_mthr mways mnds mtkp mline mlm mtxt mlen mat mwr merr mfail mcmd mcm, xObj ad hsv mal fai, xOff tA ad v shrt grp seen tp shr need ordr size, xScr tA K ad pos cmd vals txt len, xHis tA ad hc hn hs, xBef tA ad bt, xSav tA ad sv, xLin tA ad lnb lml lct]).flatten H := hP
    have hD : va_D (lwA s) ([xOut tA o og, xOud tA od dg, xMod tA am ms mbef msav misv mpast mpm y_mthr mways mnds mtkp mline mlm mtxt mlen mat mwr merr mfail mcmd mcm, xObj ad hsv mal fai, xOff tA ad v shrt grp seen tp shr need ordr size, xScr tA K ad pos cmd vals txt len, xHis tA ad hc hn hs, xBef tA ad bt, xSav tA ad sv, xLin tA ad lnb lml lct]).flatten := hD
    have mq : (y_mthr = 1 ∧ ¬ inP (ms 0) (xz xs (i + 1)) (xz xs (i + 2))) ∨ (inP (ms 0) (xz xs (i + 1)) (xz xs (i + 2)) ∧ ((y_mthr = 2 ∧ lgM ms (xz xs (i + 1)) (xz xs (i + 2)) 0 = 0) ∨ (y_mthr = 0 ∧ lgM ms (xz xs (i + 1)) (xz xs (i + 2)) 0 ≠ 0 ∧ zb = lgM ms (xz xs (i + 1)) (xz xs (i + 2)) 0))) := hmq
    clear hmq
    refine lv_istore (lv' := [(7, .int (iI zb)), (6, .int (iI z6)), (0, .ref b), (1, .ref (ad 0)), (2, .ref (am 0)), (3, .ref o), (4, .ref od), (5, .int (iI i))]) hx hb dL_law_616 hl (by decide) rfl (fun ls hl => ?_)
    have hT : y_mthr = z6 := by
      exact x_leg3 hch hr kq kc mq
    have hI2 : LInv (n + 1) v hs sv pos cmd vals txt len hc hn hsv mal fai lnb lct ms msav misv mpast mpm mline mlm mtxt mlen merr mfail mcmd := by
      exact LI_q hn9 hI
    refine lv_aload_n hx hb dL_law_618 rfl (lv_at hl 4 rfl) ?_
    refine zz_callVi_ch (As := []) (rest := []) (L := [xOut tA o og, xOud tA od dg, xMod tA am ms mbef msav misv mpast mpm y_mthr mways mnds mtkp mline mlm mtxt mlen mat mwr merr mfail mcmd mcm, xObj ad hsv mal fai, xOff tA ad v shrt grp seen tp shr need ordr size, xScr tA K ad pos cmd vals txt len, xHis tA ad hc hn hs, xBef tA ad bt, xSav tA ad sv, xLin tA ad lnb lml lct]) (Lc := [xMod tA am ms mbef msav misv mpast mpm y_mthr mways mnds mtkp mline mlm mtxt mlen mat mwr merr mfail mcmd mcm]) (Lr := [xOut tA o og, xOud tA od dg, xObj ad hsv mal fai, xOff tA ad v shrt grp seen tp shr need ordr size, xScr tA K ad pos cmd vals txt len, xHis tA ad hc hn hs, xBef tA ad bt, xSav tA ad sv, xLin tA ad lnb lml lct]) (Lc' := fun u => [xMod tA am ms mbef msav misv mpast mpm y_mthr mways mnds mtkp mline mlm mtxt mlen mat mwr merr mfail mcmd mcm]) (Lf := fun u => [xOut tA o og, xOud tA od dg, xMod tA am ms mbef msav misv mpast mpm y_mthr mways mnds mtkp mline mlm mtxt mlen mat mwr merr mfail mcmd mcm, xObj ad hsv mal fai, xOff tA ad v shrt grp seen tp shr need ordr size, xScr tA K ad pos cmd vals txt len, xHis tA ad hc hn hs, xBef tA ad bt, xSav tA ad sv, xLin tA ad lnb lml lct]) (is := [2, 0, 1, 3, 4, 5, 6, 7, 8, 9]) (isF := [0, 1, 9, 2, 3, 4, 5, 6, 7, 8]) ⟨hx, hb, hml, hown, hts⟩ (c_X11_thrown l D tA (am 0) (am 1) (am 2) (am 3) (am 4) (am 5) (am 6) (am 7) (am 8) (am 9) (am 10) H.size ms mbef msav misv mpast mpm y_mthr mways mnds mtkp mline mlm mtxt mlen mat mwr merr mfail mcmd mcm) (cwV 0 hts (gx_tbl gL_law_X11_thrown) rfl rfl rfl (by decide +kernel) ⟨Nat.le_of_ble_eq_true rfl, Nat.le_of_ble_eq_true rfl⟩) hK hP hD hS hA ⟨rfl, rfl, (by decide)⟩ ⟨fun _ => rfl, fun _ => rfl, (by decide)⟩ (ci := 13) (q0 := 0) rfl rfl rfl rfl rfl hl.1 (Nat.le_of_ble_eq_true rfl) dL_law_619 (by show _ + 0 ≤ 603072 ∧ _ + 0 ≤ 7207018; omega) ?_
    intro zt u H locs hzt hP hD hS
    have hP : va_P D vwCl ([xOut tA o og, xOud tA od dg, xMod tA am ms mbef msav misv mpast mpm y_mthr mways mnds mtkp mline mlm mtxt mlen mat mwr merr mfail mcmd mcm, xObj ad hsv mal fai, xOff tA ad v shrt grp seen tp shr need ordr size, xScr tA K ad pos cmd vals txt len, xHis tA ad hc hn hs, xBef tA ad bt, xSav tA ad sv, xLin tA ad lnb lml lct]).flatten H := hP
    have hD : va_D (lwA s) ([xOut tA o og, xOud tA od dg, xMod tA am ms mbef msav misv mpast mpm y_mthr mways mnds mtkp mline mlm mtxt mlen mat mwr merr mfail mcmd mcm, xObj ad hsv mal fai, xOff tA ad v shrt grp seen tp shr need ordr size, xScr tA K ad pos cmd vals txt len, xHis tA ad hc hn hs, xBef tA ad bt, xSav tA ad sv, xLin tA ad lnb lml lct]).flatten := hD
    have hzt : zt = y_mthr := hzt
    have hz69 : 0 ≤ z6 ∧ z6 ≤ 9 := by omega
    refine lv_iload hx hb dL_law_622 (lv_at hl 1 rfl) ?_
    refine zz_icmp_eq (tgt := 629) hx hb dL_law_624 (by decide) (by omega) (by omega) (fun _ => ?_) (fun c9 => absurd (by omega) c9)
    refine lv_iload hx hb dL_law_629 (lv_at hl 1 rfl) ?_
    refine zz_if_ne (tgt := 646) hx hb dL_law_631 (by decide) (by omega) (fun _ => ?_) (fun c9 => absurd c9 (by omega))
    refine lv_goto (tgt := 2917) hx hb dL_law_646 (by decide) ?_
    refine W.widen (k := k9 + 20) (n := n9 + 200) (by omega) (by omega) ?_
    exact kk v shrt grp seen tp shr need ordr size pos cmd vals txt len hc hn hs bt sv hsv mal fai lnb lml lct ms mbef msav misv mpast mpm y_mthr mways mnds mtkp mline mlm mtxt mlen mat mwr merr mfail mcmd mcm og dg _ _ _ hI2 hP hD hS (lv_sub hl [2, 3, 4, 5, 6, 7] rfl)

set_option maxHeartbeats 8000000 in
set_option maxRecDepth 100000 in
theorem law_c7 {p : Program} {l : Launch} (hst : l.stackTraces = false) {e : Env} {s : State} {m : MethodId} {below : List Frame} {meth : Method} {c : Code} {D : va_G} {tA : Nat → ClassId} {K : Nat → Nat} {b L : Nat} {xs : Nat → Int32} (hL : L ≤ 2560) (C0 : lw_At p s m meth c b L xs) (hK : zK D tA s) (hZ : zT K (lwA s) s) {ad am : Nat → Nat} {o od : Nat} {i n : Int} (hi : 0 ≤ i ∧ i + 5 ≤ L) (hn9 : n < 600) {k9 n9 : Nat} (hk9 : k9 + 20 ≤ 603072 ∧ n9 + 200 ≤ 7207018) {v : Nat → Int → Int} {shrt : Int → Int} {grp : Int → Int} {seen : Int → Int} {tp : Int → Int} {shr : Int → Int} {need : Int → Int} {ordr : Int → Int} {size : Int} {pos : Int} {cmd : Int} {vals : Int → Int} {txt : Int → Int} {len : Int} {hc : Int} {hn : Int} {hs : Nat → Nat → Int → Int} {bt : Nat → Int → Int} {sv : Nat → Int → Int} {hsv : Int} {mal : Int} {fai : Int} {lnb : Int → Int} {lml : Int} {lct : Int} {ms : Int → Int} {mbef : Int → Int} {msav : Int → Int} {misv : Int} {mpast : Int → Int} {mpm : Int} {mthr : Int} {mways : Int → Int} {mnds : Int → Int} {mtkp : Int → Int} {mline : Int → Int} {mlm : Int} {mtxt : Int → Int} {mlen : Int} {mat : Int} {mwr : Int} {merr : Int} {mfail : Int} {mcmd : Int → Int} {mcm : Int} {og : Int → Int} {dg : Nat → UInt64} {H : Heap} {locs : List Loc} {ls : Array Slot} (hI : LInv n v hs sv pos cmd vals txt len hc hn hsv mal fai lnb lct ms msav misv mpast mpm mline mlm mtxt mlen merr mfail mcmd) (hP : va_P D vwCl (xW tA K ad am o od v shrt grp seen tp shr need ordr size pos cmd vals txt len hc hn hs bt sv hsv mal fai lnb lml lct ms mbef msav misv mpast mpm mthr mways mnds mtkp mline mlm mtxt mlen mat mwr merr mfail mcmd mcm og dg).flatten H) (hD : va_D (lwA s) (xW tA K ad am o od v shrt grp seen tp shr need ordr size pos cmd vals txt len hc hn hs bt sv hsv mal fai lnb lml lct ms mbef msav misv mpast mpm mthr mways mnds mtkp mline mlm mtxt mlen mat mwr merr mfail mcmd mcm og dg).flatten) (hS : va_S (lwA s) s.heap H locs) (hl : lv_has ls 9 [(0, .ref b), (1, .ref (ad 0)), (2, .ref (am 0)), (3, .ref o), (4, .ref od), (5, .int (iI i))]) (kk : lwK p l e s m below meth c D tA K ad am o od b i n k9 n9) : W p l e room_1 s m #[Value.ref b] below meth c H locs k9 n9 (lw_Z below #[Value.ref b] s) (F0 m 649 ls []) := by
  obtain ⟨hx, hb, hrt, hml, hown, hts, hX, hbl, hlocks, hgv⟩ := id C0
  have hts := lw_more hts
  have hA : ∀ q : Nat, s.heap.size ≤ q → lwA s q := fun _ h => h
  have hbA : ¬ lwA s b := Nat.not_le.mpr hbl
  have hCn := hZ.2.2.2
  obtain ⟨⟨n0, n6, l0, l6, ln⟩, hLS, ⟨hhn, hhc, hpm, hhi⟩, ⟨hsv01, hmis, hsvv, hsvr⟩, ⟨hlen, htxt, htx⟩, ⟨hlm, hln, hl0, hl16, hlb⟩, ⟨her, hfa, hm1, hm2, hf1, hf2⟩, ⟨hcd0, hcd1, hps0, hps1, hva⟩, hcr⟩ := id hI
  have hv := hLS.1
  have hr := hLS.2
  have hch : ChS v := hv.1
  have hu9 : ChW v := hv.2.1
  obtain ⟨-, -, hcc, hsp, hmo, hfog, hrg, hni, hfd, hmt9, hln9, hsum⟩ := SVk_out (show SVk _ _ (etS v) from hv)
  have hmv := rel_MV hv hr (by omega) (by omega)
  obtain ⟨e0, e1, e2, e3, e4, e5, e6⟩ := id hr.1
  have eE := rel_sE hch hr
  have hmon : ∀ j, 0 ≤ j → j < v 7 0 → 0 ≤ v 10 j ∧ v 10 j ≤ 6000000 := fun j j0 j1 => by have := hmo j j0 j1; omega
  have hlnd : ∀ j, 0 ≤ j → j < v 7 0 → (0 ≤ v 11 j ∧ v 11 j ≤ 600) ∧ (0 ≤ v 12 j ∧ v 12 j ≤ 600) := fun j j0 j1 => by have := hln9 j j0 j1; omega
  refine lv_aload_n hx hb dL_law_649 rfl (lv_at hl 1 rfl) ?_
  refine lv_aload_n hx hb dL_law_650 rfl (lv_at hl 0 rfl) ?_
  refine lv_iload hx hb dL_law_651 (lv_at hl 5 rfl) ?_
  refine zz_iconst hx hb dL_law_653 ?_
  refine zz_iadd hx hb dL_law_654 ?_
  refine zz_sld hx hb hX hbl hbA hS (k := i + 1) (by omega) hL dL_law_655 ?_
  refine lv_aload_n hx hb dL_law_656 rfl (lv_at hl 0 rfl) ?_
  refine lv_iload hx hb dL_law_657 (lv_at hl 5 rfl) ?_
  refine zz_iconst hx hb dL_law_659 ?_
  refine zz_iadd hx hb dL_law_660 ?_
  refine zz_sld hx hb hX hbl hbA hS (k := i + 2) (by omega) hL dL_law_661 ?_
  refine lv_aload_n hx hb dL_law_662 rfl (lv_at hl 3 rfl) ?_
  refine zh_callSi_ch (As := [.ref (ad 0), .int (iI (xz xs (i + 1))), .int (iI (xz xs (i + 2))), .ref o]) (rest := []) (L := [xOut tA o og, xOud tA od dg, xMod tA am ms mbef msav misv mpast mpm mthr mways mnds mtkp mline mlm mtxt mlen mat mwr merr mfail mcmd mcm, xObj ad hsv mal fai, xOff tA ad v shrt grp seen tp shr need ordr size, xScr tA K ad pos cmd vals txt len, xHis tA ad hc hn hs, xBef tA ad bt, xSav tA ad sv, xLin tA ad lnb lml lct]) (Lc := [xOut tA o og, xObj ad hsv mal fai, xOff tA ad v shrt grp seen tp shr need ordr size]) (Lr := [xOud tA od dg, xMod tA am ms mbef msav misv mpast mpm mthr mways mnds mtkp mline mlm mtxt mlen mat mwr merr mfail mcmd mcm, xScr tA K ad pos cmd vals txt len, xHis tA ad hc hn hs, xBef tA ad bt, xSav tA ad sv, xLin tA ad lnb lml lct]) (Lc' := fun u => Sum.elim (fun u => [xOut tA o (zU og 0 u.1), xObj ad hsv mal fai, xOff tA ad v shrt grp seen tp shr need ordr size]) (fun u => [xOut tA o og, xObj ad hsv mal fai, xOff tA ad v shrt grp seen tp shr need ordr size]) u) (Lf := fun u => Sum.elim (fun u => [xOut tA o (zU og 0 u.1), xOud tA od dg, xMod tA am ms mbef msav misv mpast mpm mthr mways mnds mtkp mline mlm mtxt mlen mat mwr merr mfail mcmd mcm, xObj ad hsv mal fai, xOff tA ad v shrt grp seen tp shr need ordr size, xScr tA K ad pos cmd vals txt len, xHis tA ad hc hn hs, xBef tA ad bt, xSav tA ad sv, xLin tA ad lnb lml lct]) (fun u => [xOut tA o og, xOud tA od dg, xMod tA am ms mbef msav misv mpast mpm mthr mways mnds mtkp mline mlm mtxt mlen mat mwr merr mfail mcmd mcm, xObj ad hsv mal fai, xOff tA ad v shrt grp seen tp shr need ordr size, xScr tA K ad pos cmd vals txt len, xHis tA ad hc hn hs, xBef tA ad bt, xSav tA ad sv, xLin tA ad lnb lml lct]) u) (is := [0, 3, 4, 1, 2, 5, 6, 7, 8, 9]) (isF := [7, 0, 1, 8, 9, 2, 3, 4, 5, 6]) ⟨hx, hb, hml, hown, hts⟩ (c_L_reachOf l hst K D tA (ad 0) (ad 1) (ad 2) (ad 3) (ad 4) (ad 5) (ad 6) (ad 7) (ad 8) (ad 9) (ad 10) (ad 11) (ad 12) (ad 13) (ad 14) (ad 15) (ad 16) (ad 17) (ad 18) (ad 19) (ad 20) (ad 21) (ad 22) (ad 23) (ad 24) (ad 27) (ad 146) (ad 133) (ad 159) o H.size og (v 0 0) (v 1 0) (v 2) (v 3) (v 4) (v 5) (v 6) (v 7 0) (v 8) (v 9) (v 10) (v 11) (v 12) (v 13 0) (v 14 0) (v 15 0) (v 16 0) (v 17 0) (v 18 0) shrt grp seen tp shr need ordr size hsv mal fai  (xz xs (i + 1)) (xz xs (i + 2)) (xz_in _ _) (xz_in _ _) hch) (vx_cwSW 4 hts (gx_wr gL_law_L_reachOf) rfl rfl rfl (by decide +kernel) ⟨Nat.le_of_ble_eq_true rfl, Nat.le_of_ble_eq_true rfl⟩) hK hP hD hS hA hZ ⟨rfl, rfl, (by decide)⟩ ⟨fun u => by cases u <;> rfl, fun u => by cases u <;> rfl, (by decide)⟩ rfl rfl hl.1 (Nat.le_of_ble_eq_true rfl) dL_law_663 (by show k9 + 2 ≤ 603072 ∧ n9 + 12 ≤ 7207018; omega) ?_
  intro z6 u H locs hq hP hD hS
  rcases u with ⟨zc, u⟩ | u
  · skip
    obtain ⟨hz6, kq, hzr⟩ := hq
    have kq : inP (v 0 0) (xz xs (i + 1)) (xz xs (i + 2)) ∧ ∃ p, 0 ≤ p ∧ p < (v 1 0) ∧ (v 2) p = min (xz xs (i + 1)) (xz xs (i + 2)) ∧ (v 3) p = max (xz xs (i + 1)) (xz xs (i + 2)) ∧ zc = (v 5) p := kq
    have hz6 : z6 = 0 := hz6
    have hzr : -2147483648 ≤ zc ∧ zc ≤ 2147483647 := hzr
    have hP : va_P D vwCl ([xOut tA o (zU og 0 zc), xOud tA od dg, xMod tA am ms mbef msav misv mpast mpm mthr mways mnds mtkp mline mlm mtxt mlen mat mwr merr mfail mcmd mcm, xObj ad hsv mal fai, xOff tA ad v shrt grp seen tp shr need ordr size, xScr tA K ad pos cmd vals txt len, xHis tA ad hc hn hs, xBef tA ad bt, xSav tA ad sv, xLin tA ad lnb lml lct]).flatten H := hP
    have hD : va_D (lwA s) ([xOut tA o (zU og 0 zc), xOud tA od dg, xMod tA am ms mbef msav misv mpast mpm mthr mways mnds mtkp mline mlm mtxt mlen mat mwr merr mfail mcmd mcm, xObj ad hsv mal fai, xOff tA ad v shrt grp seen tp shr need ordr size, xScr tA K ad pos cmd vals txt len, xHis tA ad hc hn hs, xBef tA ad bt, xSav tA ad sv, xLin tA ad lnb lml lct]).flatten := hD
    refine lv_istore (lv' := [(6, .int (iI z6)), (0, .ref b), (1, .ref (ad 0)), (2, .ref (am 0)), (3, .ref o), (4, .ref od), (5, .int (iI i))]) hx hb dL_law_666 hl (by decide) rfl (fun ls hl => ?_)
    refine lv_aload_n hx hb dL_law_668 rfl (lv_at hl 3 rfl) ?_
    refine lv_aload_n hx hb dL_law_669 rfl (lv_at hl 1 rfl) ?_
    refine lv_iload hx hb dL_law_670 (lv_at hl 6 rfl) ?_
    refine zz_iconst hx hb dL_law_672 ?_
    refine zz_iadd hx hb dL_law_673 ?_
    refine zz_sld hx hb hX hbl hbA hS (k := i + 1) (by omega) hL dL_law_674 ?_
    refine lv_aload_n hx hb dL_law_675 rfl (lv_at hl 1 rfl) ?_
    refine lv_iload hx hb dL_law_676 (lv_at hl 6 rfl) ?_
    refine zz_iconst hx hb dL_law_678 ?_
    refine zz_iadd hx hb dL_law_679 ?_
    refine zz_sld hx hb hX hbl hbA hS (k := i + 2) (by omega) hL dL_law_680 ?_
    refine zz_callVi_ch (As := [.int (iI (xz xs (i + 1))), .int (iI (xz xs (i + 2)))]) (rest := []) (L := [xOut tA o (zU og 0 zc), xOud tA od dg, xMod tA am ms mbef msav misv mpast mpm mthr mways mnds mtkp mline mlm mtxt mlen mat mwr merr mfail mcmd mcm, xObj ad hsv mal fai, xOff tA ad v shrt grp seen tp shr need ordr size, xScr tA K ad pos cmd vals txt len, xHis tA ad hc hn hs, xBef tA ad bt, xSav tA ad sv, xLin tA ad lnb lml lct]) (Lc := [xMod tA am ms mbef msav misv mpast mpm mthr mways mnds mtkp mline mlm mtxt mlen mat mwr merr mfail mcmd mcm]) (Lr := [xOut tA o (zU og 0 zc), xOud tA od dg, xObj ad hsv mal fai, xOff tA ad v shrt grp seen tp shr need ordr size, xScr tA K ad pos cmd vals txt len, xHis tA ad hc hn hs, xBef tA ad bt, xSav tA ad sv, xLin tA ad lnb lml lct]) (Lc' := fun u => [xMod tA am ms mbef msav misv mpast mpm u mways mnds mtkp mline mlm mtxt mlen mat mwr merr mfail mcmd mcm]) (Lf := fun u => [xOut tA o (zU og 0 zc), xOud tA od dg, xMod tA am ms mbef msav misv mpast mpm u mways mnds mtkp mline mlm mtxt mlen mat mwr merr mfail mcmd mcm, xObj ad hsv mal fai, xOff tA ad v shrt grp seen tp shr need ordr size, xScr tA K ad pos cmd vals txt len, xHis tA ad hc hn hs, xBef tA ad bt, xSav tA ad sv, xLin tA ad lnb lml lct]) (is := [2, 0, 1, 3, 4, 5, 6, 7, 8, 9]) (isF := [0, 1, 9, 2, 3, 4, 5, 6, 7, 8]) ⟨hx, hb, hml, hown, hts⟩ (c_X11_reachOf l D tA (am 0) (am 1) (am 2) (am 3) (am 4) (am 5) (am 6) (am 7) (am 8) (am 9) (am 10) H.size ms mbef msav misv mpast mpm mthr mways mnds mtkp mline mlm mtxt mlen mat mwr merr mfail mcmd mcm (xz xs (i + 1)) (xz xs (i + 2)) (xz_in _ _) (xz_in _ _) ⟨hmv.1.1.1, hmv.1.1.2.1⟩ hmv.1.2.1) (cwV 2 hts (gx_tbl gL_law_X11_reachOf) rfl rfl rfl (by decide +kernel) ⟨Nat.le_of_ble_eq_true rfl, Nat.le_of_ble_eq_true rfl⟩) hK hP hD hS hA ⟨rfl, rfl, (by decide)⟩ ⟨fun _ => rfl, fun _ => rfl, (by decide)⟩ (ci := 13) (q0 := 0) rfl rfl rfl rfl rfl hl.1 (Nat.le_of_ble_eq_true rfl) dL_law_681 (by show _ + 0 ≤ 603072 ∧ _ + 0 ≤ 7207018; omega) ?_
    intro zb u H locs hmq hP hD hS
    obtain ⟨y_mthr, rfl⟩ : ∃ q, q = u := ⟨_, rfl⟩
    have hP : va_P D vwCl ([xOut tA o (zU og 0 zc), xOud tA od dg, xMod tA am ms mbef msav misv mpast mpm y_mthr mways mnds mtkp mline mlm mtxt mlen mat mwr merr mfail mcmd mcm, xObj ad hsv mal fai, xOff tA ad v shrt grp seen tp shr need ordr size, xScr tA K ad pos cmd vals txt len, xHis tA ad hc hn hs, xBef tA ad bt, xSav tA ad sv, xLin tA ad lnb lml lct]).flatten H := hP
    have hD : va_D (lwA s) ([xOut tA o (zU og 0 zc), xOud tA od dg, xMod tA am ms mbef msav misv mpast mpm y_mthr mways mnds mtkp mline mlm mtxt mlen mat mwr merr mfail mcmd mcm, xObj ad hsv mal fai, xOff tA ad v shrt grp seen tp shr need ordr size, xScr tA K ad pos cmd vals txt len, xHis tA ad hc hn hs, xBef tA ad bt, xSav tA ad sv, xLin tA ad lnb lml lct]).flatten := hD
    have mq : (y_mthr = 1 ∧ ¬ inP (ms 0) (xz xs (i + 1)) (xz xs (i + 2))) ∨ (inP (ms 0) (xz xs (i + 1)) (xz xs (i + 2)) ∧ ((y_mthr = 2 ∧ lgM ms (xz xs (i + 1)) (xz xs (i + 2)) 0 = 0) ∨ (y_mthr = 0 ∧ lgM ms (xz xs (i + 1)) (xz xs (i + 2)) 0 ≠ 0 ∧ zb = lgM ms (xz xs (i + 1)) (xz xs (i + 2)) 1))) := hmq
    clear hmq
    refine lv_istore (lv' := [(7, .int (iI zb)), (6, .int (iI z6)), (0, .ref b), (1, .ref (ad 0)), (2, .ref (am 0)), (3, .ref o), (4, .ref od), (5, .int (iI i))]) hx hb dL_law_684 hl (by decide) rfl (fun ls hl => ?_)
    have hTV : y_mthr = 0 ∧ zb = zc := by
      exact q_leg3 hch hr (x := 1) (by omega) kq mq
    have hT : y_mthr = z6 := hTV.1.trans hz6.symm
    have hI2 : LInv (n + 1) v hs sv pos cmd vals txt len hc hn hsv mal fai lnb lct ms msav misv mpast mpm mline mlm mtxt mlen merr mfail mcmd := by
      exact LI_q hn9 hI
    refine lv_aload_n hx hb dL_law_686 rfl (lv_at hl 4 rfl) ?_
    refine zz_callVi_ch (As := []) (rest := []) (L := [xOut tA o (zU og 0 zc), xOud tA od dg, xMod tA am ms mbef msav misv mpast mpm y_mthr mways mnds mtkp mline mlm mtxt mlen mat mwr merr mfail mcmd mcm, xObj ad hsv mal fai, xOff tA ad v shrt grp seen tp shr need ordr size, xScr tA K ad pos cmd vals txt len, xHis tA ad hc hn hs, xBef tA ad bt, xSav tA ad sv, xLin tA ad lnb lml lct]) (Lc := [xMod tA am ms mbef msav misv mpast mpm y_mthr mways mnds mtkp mline mlm mtxt mlen mat mwr merr mfail mcmd mcm]) (Lr := [xOut tA o (zU og 0 zc), xOud tA od dg, xObj ad hsv mal fai, xOff tA ad v shrt grp seen tp shr need ordr size, xScr tA K ad pos cmd vals txt len, xHis tA ad hc hn hs, xBef tA ad bt, xSav tA ad sv, xLin tA ad lnb lml lct]) (Lc' := fun u => [xMod tA am ms mbef msav misv mpast mpm y_mthr mways mnds mtkp mline mlm mtxt mlen mat mwr merr mfail mcmd mcm]) (Lf := fun u => [xOut tA o (zU og 0 zc), xOud tA od dg, xMod tA am ms mbef msav misv mpast mpm y_mthr mways mnds mtkp mline mlm mtxt mlen mat mwr merr mfail mcmd mcm, xObj ad hsv mal fai, xOff tA ad v shrt grp seen tp shr need ordr size, xScr tA K ad pos cmd vals txt len, xHis tA ad hc hn hs, xBef tA ad bt, xSav tA ad sv, xLin tA ad lnb lml lct]) (is := [2, 0, 1, 3, 4, 5, 6, 7, 8, 9]) (isF := [0, 1, 9, 2, 3, 4, 5, 6, 7, 8]) ⟨hx, hb, hml, hown, hts⟩ (c_X11_thrown l D tA (am 0) (am 1) (am 2) (am 3) (am 4) (am 5) (am 6) (am 7) (am 8) (am 9) (am 10) H.size ms mbef msav misv mpast mpm y_mthr mways mnds mtkp mline mlm mtxt mlen mat mwr merr mfail mcmd mcm) (cwV 0 hts (gx_tbl gL_law_X11_thrown) rfl rfl rfl (by decide +kernel) ⟨Nat.le_of_ble_eq_true rfl, Nat.le_of_ble_eq_true rfl⟩) hK hP hD hS hA ⟨rfl, rfl, (by decide)⟩ ⟨fun _ => rfl, fun _ => rfl, (by decide)⟩ (ci := 13) (q0 := 0) rfl rfl rfl rfl rfl hl.1 (Nat.le_of_ble_eq_true rfl) dL_law_687 (by show _ + 0 ≤ 603072 ∧ _ + 0 ≤ 7207018; omega) ?_
    intro zt u H locs hzt hP hD hS
    have hP : va_P D vwCl ([xOut tA o (zU og 0 zc), xOud tA od dg, xMod tA am ms mbef msav misv mpast mpm y_mthr mways mnds mtkp mline mlm mtxt mlen mat mwr merr mfail mcmd mcm, xObj ad hsv mal fai, xOff tA ad v shrt grp seen tp shr need ordr size, xScr tA K ad pos cmd vals txt len, xHis tA ad hc hn hs, xBef tA ad bt, xSav tA ad sv, xLin tA ad lnb lml lct]).flatten H := hP
    have hD : va_D (lwA s) ([xOut tA o (zU og 0 zc), xOud tA od dg, xMod tA am ms mbef msav misv mpast mpm y_mthr mways mnds mtkp mline mlm mtxt mlen mat mwr merr mfail mcmd mcm, xObj ad hsv mal fai, xOff tA ad v shrt grp seen tp shr need ordr size, xScr tA K ad pos cmd vals txt len, xHis tA ad hc hn hs, xBef tA ad bt, xSav tA ad sv, xLin tA ad lnb lml lct]).flatten := hD
    have hzt : zt = y_mthr := hzt
    have hz69 : 0 ≤ z6 ∧ z6 ≤ 9 := by omega
    refine lv_iload hx hb dL_law_690 (lv_at hl 1 rfl) ?_
    refine zz_icmp_eq (tgt := 697) hx hb dL_law_692 (by decide) (by omega) (by omega) (fun _ => ?_) (fun c9 => absurd (by omega) c9)
    refine lv_iload hx hb dL_law_697 (lv_at hl 1 rfl) ?_
    refine zz_if_ne (tgt := 714) hx hb dL_law_699 (by decide) (by omega) (fun c9 => absurd hz6 c9) (fun _ => ?_)
    refine lv_aload_n hx hb dL_law_702 rfl (lv_at hl 5 rfl) ?_
    refine zz_iconst hx hb dL_law_703 ?_
    refine zz_lald hx hb hK hP 0 rfl (by decide) (by decide) dL_law_704 ?_
    rw [zU_same]
    refine lv_iload hx hb dL_law_705 (lv_at hl 0 rfl) ?_
    refine zz_i2l hx hb dL_law_707 (by omega) ?_
    rw [hTV.2]
    refine zz_lcmp hx hb dL_law_708 (by omega) (by omega) ?_
    rw [cmpZ_s]
    refine zz_if_eq (tgt := 714) hx hb dL_law_709 (by decide) (by decide) (fun _ => ?_) (fun c9 => absurd rfl c9)
    refine lv_goto (tgt := 2917) hx hb dL_law_714 (by decide) ?_
    refine W.widen (k := k9 + 20) (n := n9 + 200) (by omega) (by omega) ?_
    exact kk v shrt grp seen tp shr need ordr size pos cmd vals txt len hc hn hs bt sv hsv mal fai lnb lml lct ms mbef msav misv mpast mpm y_mthr mways mnds mtkp mline mlm mtxt mlen mat mwr merr mfail mcmd mcm (zU og 0 zc) dg _ _ _ hI2 hP hD hS (lv_sub hl [2, 3, 4, 5, 6, 7] rfl)
  · obtain ⟨kx, rfl⟩ : ∃ q, q = u := ⟨_, rfl⟩
    have kq : (kx = 1 ∧ ¬ inP (v 0 0) (xz xs (i + 1)) (xz xs (i + 2))) ∨ (kx = 4 ∧ inP (v 0 0) (xz xs (i + 1)) (xz xs (i + 2)) ∧ ¬ hasL (v 1 0) (v 2) (v 3) (xz xs (i + 1)) (xz xs (i + 2))) := hq.1
    have kc : (kx = 1 ∧ z6 = 1) ∨ (kx = 4 ∧ z6 = 2) := hq.2
    have hP : va_P D vwCl ([xOut tA o og, xOud tA od dg, xMod tA am ms mbef msav misv mpast mpm mthr mways mnds mtkp mline mlm mtxt mlen mat mwr merr mfail mcmd mcm, xObj ad hsv mal fai, xOff tA ad v shrt grp seen tp shr need ordr size, xScr tA K ad pos cmd vals txt len, xHis tA ad hc hn hs, xBef tA ad bt, xSav tA ad sv, xLin tA ad lnb lml lct]).flatten H := hP
    have hD : va_D (lwA s) ([xOut tA o og, xOud tA od dg, xMod tA am ms mbef msav misv mpast mpm mthr mways mnds mtkp mline mlm mtxt mlen mat mwr merr mfail mcmd mcm, xObj ad hsv mal fai, xOff tA ad v shrt grp seen tp shr need ordr size, xScr tA K ad pos cmd vals txt len, xHis tA ad hc hn hs, xBef tA ad bt, xSav tA ad sv, xLin tA ad lnb lml lct]).flatten := hD
    refine lv_istore (lv' := [(6, .int (iI z6)), (0, .ref b), (1, .ref (ad 0)), (2, .ref (am 0)), (3, .ref o), (4, .ref od), (5, .int (iI i))]) hx hb dL_law_666 hl (by decide) rfl (fun ls hl => ?_)
    refine lv_aload_n hx hb dL_law_668 rfl (lv_at hl 3 rfl) ?_
    refine lv_aload_n hx hb dL_law_669 rfl (lv_at hl 1 rfl) ?_
    refine lv_iload hx hb dL_law_670 (lv_at hl 6 rfl) ?_
    refine zz_iconst hx hb dL_law_672 ?_
    refine zz_iadd hx hb dL_law_673 ?_
    refine zz_sld hx hb hX hbl hbA hS (k := i + 1) (by omega) hL dL_law_674 ?_
    refine lv_aload_n hx hb dL_law_675 rfl (lv_at hl 1 rfl) ?_
    refine lv_iload hx hb dL_law_676 (lv_at hl 6 rfl) ?_
    refine zz_iconst hx hb dL_law_678 ?_
    refine zz_iadd hx hb dL_law_679 ?_
    refine zz_sld hx hb hX hbl hbA hS (k := i + 2) (by omega) hL dL_law_680 ?_
    refine zz_callVi_ch (As := [.int (iI (xz xs (i + 1))), .int (iI (xz xs (i + 2)))]) (rest := []) (L := [xOut tA o og, xOud tA od dg, xMod tA am ms mbef msav misv mpast mpm mthr mways mnds mtkp mline mlm mtxt mlen mat mwr merr mfail mcmd mcm, xObj ad hsv mal fai, xOff tA ad v shrt grp seen tp shr need ordr size, xScr tA K ad pos cmd vals txt len, xHis tA ad hc hn hs, xBef tA ad bt, xSav tA ad sv, xLin tA ad lnb lml lct]) (Lc := [xMod tA am ms mbef msav misv mpast mpm mthr mways mnds mtkp mline mlm mtxt mlen mat mwr merr mfail mcmd mcm]) (Lr := [xOut tA o og, xOud tA od dg, xObj ad hsv mal fai, xOff tA ad v shrt grp seen tp shr need ordr size, xScr tA K ad pos cmd vals txt len, xHis tA ad hc hn hs, xBef tA ad bt, xSav tA ad sv, xLin tA ad lnb lml lct]) (Lc' := fun u => [xMod tA am ms mbef msav misv mpast mpm u mways mnds mtkp mline mlm mtxt mlen mat mwr merr mfail mcmd mcm]) (Lf := fun u => [xOut tA o og, xOud tA od dg, xMod tA am ms mbef msav misv mpast mpm u mways mnds mtkp mline mlm mtxt mlen mat mwr merr mfail mcmd mcm, xObj ad hsv mal fai, xOff tA ad v shrt grp seen tp shr need ordr size, xScr tA K ad pos cmd vals txt len, xHis tA ad hc hn hs, xBef tA ad bt, xSav tA ad sv, xLin tA ad lnb lml lct]) (is := [2, 0, 1, 3, 4, 5, 6, 7, 8, 9]) (isF := [0, 1, 9, 2, 3, 4, 5, 6, 7, 8]) ⟨hx, hb, hml, hown, hts⟩ (c_X11_reachOf l D tA (am 0) (am 1) (am 2) (am 3) (am 4) (am 5) (am 6) (am 7) (am 8) (am 9) (am 10) H.size ms mbef msav misv mpast mpm mthr mways mnds mtkp mline mlm mtxt mlen mat mwr merr mfail mcmd mcm (xz xs (i + 1)) (xz xs (i + 2)) (xz_in _ _) (xz_in _ _) ⟨hmv.1.1.1, hmv.1.1.2.1⟩ hmv.1.2.1) (cwV 2 hts (gx_tbl gL_law_X11_reachOf) rfl rfl rfl (by decide +kernel) ⟨Nat.le_of_ble_eq_true rfl, Nat.le_of_ble_eq_true rfl⟩) hK hP hD hS hA ⟨rfl, rfl, (by decide)⟩ ⟨fun _ => rfl, fun _ => rfl, (by decide)⟩ (ci := 13) (q0 := 0) rfl rfl rfl rfl rfl hl.1 (Nat.le_of_ble_eq_true rfl) dL_law_681 (by show _ + 0 ≤ 603072 ∧ _ + 0 ≤ 7207018; omega) ?_
    intro zb u H locs hmq hP hD hS
    obtain ⟨y_mthr, rfl⟩ : ∃ q, q = u := ⟨_, rfl⟩
    have hP : va_P D vwCl ([xOut tA o og, xOud tA od dg, xMod tA am ms mbef msav misv mpast mpm y_mthr mways mnds mtkp mline mlm mtxt mlen mat mwr merr mfail mcmd mcm, xObj ad hsv mal fai, xOff tA ad v shrt grp seen tp shr need ordr size, xScr tA K ad pos cmd vals txt len, xHis tA ad hc hn hs, xBef tA ad bt, xSav tA ad sv, xLin tA ad lnb lml lct]).flatten H := hP
    have hD : va_D (lwA s) ([xOut tA o og, xOud tA od dg, xMod tA am ms mbef msav misv mpast mpm y_mthr mways mnds mtkp mline mlm mtxt mlen mat mwr merr mfail mcmd mcm, xObj ad hsv mal fai, xOff tA ad v shrt grp seen tp shr need ordr size, xScr tA K ad pos cmd vals txt len, xHis tA ad hc hn hs, xBef tA ad bt, xSav tA ad sv, xLin tA ad lnb lml lct]).flatten := hD
    have mq : (y_mthr = 1 ∧ ¬ inP (ms 0) (xz xs (i + 1)) (xz xs (i + 2))) ∨ (inP (ms 0) (xz xs (i + 1)) (xz xs (i + 2)) ∧ ((y_mthr = 2 ∧ lgM ms (xz xs (i + 1)) (xz xs (i + 2)) 0 = 0) ∨ (y_mthr = 0 ∧ lgM ms (xz xs (i + 1)) (xz xs (i + 2)) 0 ≠ 0 ∧ zb = lgM ms (xz xs (i + 1)) (xz xs (i + 2)) 1))) := hmq
    clear hmq
    refine lv_istore (lv' := [(7, .int (iI zb)), (6, .int (iI z6)), (0, .ref b), (1, .ref (ad 0)), (2, .ref (am 0)), (3, .ref o), (4, .ref od), (5, .int (iI i))]) hx hb dL_law_684 hl (by decide) rfl (fun ls hl => ?_)
    have hT : y_mthr = z6 := by
      exact x_leg3 hch hr kq kc mq
    have hI2 : LInv (n + 1) v hs sv pos cmd vals txt len hc hn hsv mal fai lnb lct ms msav misv mpast mpm mline mlm mtxt mlen merr mfail mcmd := by
      exact LI_q hn9 hI
    refine lv_aload_n hx hb dL_law_686 rfl (lv_at hl 4 rfl) ?_
    refine zz_callVi_ch (As := []) (rest := []) (L := [xOut tA o og, xOud tA od dg, xMod tA am ms mbef msav misv mpast mpm y_mthr mways mnds mtkp mline mlm mtxt mlen mat mwr merr mfail mcmd mcm, xObj ad hsv mal fai, xOff tA ad v shrt grp seen tp shr need ordr size, xScr tA K ad pos cmd vals txt len, xHis tA ad hc hn hs, xBef tA ad bt, xSav tA ad sv, xLin tA ad lnb lml lct]) (Lc := [xMod tA am ms mbef msav misv mpast mpm y_mthr mways mnds mtkp mline mlm mtxt mlen mat mwr merr mfail mcmd mcm]) (Lr := [xOut tA o og, xOud tA od dg, xObj ad hsv mal fai, xOff tA ad v shrt grp seen tp shr need ordr size, xScr tA K ad pos cmd vals txt len, xHis tA ad hc hn hs, xBef tA ad bt, xSav tA ad sv, xLin tA ad lnb lml lct]) (Lc' := fun u => [xMod tA am ms mbef msav misv mpast mpm y_mthr mways mnds mtkp mline mlm mtxt mlen mat mwr merr mfail mcmd mcm]) (Lf := fun u => [xOut tA o og, xOud tA od dg, xMod tA am ms mbef msav misv mpast mpm y_mthr mways mnds mtkp mline mlm mtxt mlen mat mwr merr mfail mcmd mcm, xObj ad hsv mal fai, xOff tA ad v shrt grp seen tp shr need ordr size, xScr tA K ad pos cmd vals txt len, xHis tA ad hc hn hs, xBef tA ad bt, xSav tA ad sv, xLin tA ad lnb lml lct]) (is := [2, 0, 1, 3, 4, 5, 6, 7, 8, 9]) (isF := [0, 1, 9, 2, 3, 4, 5, 6, 7, 8]) ⟨hx, hb, hml, hown, hts⟩ (c_X11_thrown l D tA (am 0) (am 1) (am 2) (am 3) (am 4) (am 5) (am 6) (am 7) (am 8) (am 9) (am 10) H.size ms mbef msav misv mpast mpm y_mthr mways mnds mtkp mline mlm mtxt mlen mat mwr merr mfail mcmd mcm) (cwV 0 hts (gx_tbl gL_law_X11_thrown) rfl rfl rfl (by decide +kernel) ⟨Nat.le_of_ble_eq_true rfl, Nat.le_of_ble_eq_true rfl⟩) hK hP hD hS hA ⟨rfl, rfl, (by decide)⟩ ⟨fun _ => rfl, fun _ => rfl, (by decide)⟩ (ci := 13) (q0 := 0) rfl rfl rfl rfl rfl hl.1 (Nat.le_of_ble_eq_true rfl) dL_law_687 (by show _ + 0 ≤ 603072 ∧ _ + 0 ≤ 7207018; omega) ?_
    intro zt u H locs hzt hP hD hS
    have hP : va_P D vwCl ([xOut tA o og, xOud tA od dg, xMod tA am ms mbef msav misv mpast mpm y_mthr mways mnds mtkp mline mlm mtxt mlen mat mwr merr mfail mcmd mcm, xObj ad hsv mal fai, xOff tA ad v shrt grp seen tp shr need ordr size, xScr tA K ad pos cmd vals txt len, xHis tA ad hc hn hs, xBef tA ad bt, xSav tA ad sv, xLin tA ad lnb lml lct]).flatten H := hP
    have hD : va_D (lwA s) ([xOut tA o og, xOud tA od dg, xMod tA am ms mbef msav misv mpast mpm y_mthr mways mnds mtkp mline mlm mtxt mlen mat mwr merr mfail mcmd mcm, xObj ad hsv mal fai, xOff tA ad v shrt grp seen tp shr need ordr size, xScr tA K ad pos cmd vals txt len, xHis tA ad hc hn hs, xBef tA ad bt, xSav tA ad sv, xLin tA ad lnb lml lct]).flatten := hD
    have hzt : zt = y_mthr := hzt
    have hz69 : 0 ≤ z6 ∧ z6 ≤ 9 := by omega
    refine lv_iload hx hb dL_law_690 (lv_at hl 1 rfl) ?_
    refine zz_icmp_eq (tgt := 697) hx hb dL_law_692 (by decide) (by omega) (by omega) (fun _ => ?_) (fun c9 => absurd (by omega) c9)
    refine lv_iload hx hb dL_law_697 (lv_at hl 1 rfl) ?_
    refine zz_if_ne (tgt := 714) hx hb dL_law_699 (by decide) (by omega) (fun _ => ?_) (fun c9 => absurd c9 (by omega))
    refine lv_goto (tgt := 2917) hx hb dL_law_714 (by decide) ?_
    refine W.widen (k := k9 + 20) (n := n9 + 200) (by omega) (by omega) ?_
    exact kk v shrt grp seen tp shr need ordr size pos cmd vals txt len hc hn hs bt sv hsv mal fai lnb lml lct ms mbef msav misv mpast mpm y_mthr mways mnds mtkp mline mlm mtxt mlen mat mwr merr mfail mcmd mcm og dg _ _ _ hI2 hP hD hS (lv_sub hl [2, 3, 4, 5, 6, 7] rfl)

set_option maxHeartbeats 8000000 in
set_option maxRecDepth 100000 in
theorem law_c8 {p : Program} {l : Launch} (hst : l.stackTraces = false) {e : Env} {s : State} {m : MethodId} {below : List Frame} {meth : Method} {c : Code} {D : va_G} {tA : Nat → ClassId} {K : Nat → Nat} {b L : Nat} {xs : Nat → Int32} (hL : L ≤ 2560) (C0 : lw_At p s m meth c b L xs) (hK : zK D tA s) (hZ : zT K (lwA s) s) {ad am : Nat → Nat} {o od : Nat} {i n : Int} (hi : 0 ≤ i ∧ i + 5 ≤ L) (hn9 : n < 600) {k9 n9 : Nat} (hk9 : k9 + 20 ≤ 603072 ∧ n9 + 200 ≤ 7207018) {v : Nat → Int → Int} {shrt : Int → Int} {grp : Int → Int} {seen : Int → Int} {tp : Int → Int} {shr : Int → Int} {need : Int → Int} {ordr : Int → Int} {size : Int} {pos : Int} {cmd : Int} {vals : Int → Int} {txt : Int → Int} {len : Int} {hc : Int} {hn : Int} {hs : Nat → Nat → Int → Int} {bt : Nat → Int → Int} {sv : Nat → Int → Int} {hsv : Int} {mal : Int} {fai : Int} {lnb : Int → Int} {lml : Int} {lct : Int} {ms : Int → Int} {mbef : Int → Int} {msav : Int → Int} {misv : Int} {mpast : Int → Int} {mpm : Int} {mthr : Int} {mways : Int → Int} {mnds : Int → Int} {mtkp : Int → Int} {mline : Int → Int} {mlm : Int} {mtxt : Int → Int} {mlen : Int} {mat : Int} {mwr : Int} {merr : Int} {mfail : Int} {mcmd : Int → Int} {mcm : Int} {og : Int → Int} {dg : Nat → UInt64} {H : Heap} {locs : List Loc} {ls : Array Slot} (hI : LInv n v hs sv pos cmd vals txt len hc hn hsv mal fai lnb lct ms msav misv mpast mpm mline mlm mtxt mlen merr mfail mcmd) (hP : va_P D vwCl (xW tA K ad am o od v shrt grp seen tp shr need ordr size pos cmd vals txt len hc hn hs bt sv hsv mal fai lnb lml lct ms mbef msav misv mpast mpm mthr mways mnds mtkp mline mlm mtxt mlen mat mwr merr mfail mcmd mcm og dg).flatten H) (hD : va_D (lwA s) (xW tA K ad am o od v shrt grp seen tp shr need ordr size pos cmd vals txt len hc hn hs bt sv hsv mal fai lnb lml lct ms mbef msav misv mpast mpm mthr mways mnds mtkp mline mlm mtxt mlen mat mwr merr mfail mcmd mcm og dg).flatten) (hS : va_S (lwA s) s.heap H locs) (hl : lv_has ls 9 [(0, .ref b), (1, .ref (ad 0)), (2, .ref (am 0)), (3, .ref o), (4, .ref od), (5, .int (iI i))]) (kk : lwK p l e s m below meth c D tA K ad am o od b i n k9 n9) : W p l e room_1 s m #[Value.ref b] below meth c H locs k9 n9 (lw_Z below #[Value.ref b] s) (F0 m 717 ls []) := by
  obtain ⟨hx, hb, hrt, hml, hown, hts, hX, hbl, hlocks, hgv⟩ := id C0
  have hts := lw_more hts
  have hA : ∀ q : Nat, s.heap.size ≤ q → lwA s q := fun _ h => h
  have hbA : ¬ lwA s b := Nat.not_le.mpr hbl
  have hCn := hZ.2.2.2
  obtain ⟨⟨n0, n6, l0, l6, ln⟩, hLS, ⟨hhn, hhc, hpm, hhi⟩, ⟨hsv01, hmis, hsvv, hsvr⟩, ⟨hlen, htxt, htx⟩, ⟨hlm, hln, hl0, hl16, hlb⟩, ⟨her, hfa, hm1, hm2, hf1, hf2⟩, ⟨hcd0, hcd1, hps0, hps1, hva⟩, hcr⟩ := id hI
  have hv := hLS.1
  have hr := hLS.2
  have hch : ChS v := hv.1
  have hu9 : ChW v := hv.2.1
  obtain ⟨-, -, hcc, hsp, hmo, hfog, hrg, hni, hfd, hmt9, hln9, hsum⟩ := SVk_out (show SVk _ _ (etS v) from hv)
  have hmv := rel_MV hv hr (by omega) (by omega)
  obtain ⟨e0, e1, e2, e3, e4, e5, e6⟩ := id hr.1
  have eE := rel_sE hch hr
  have hmon : ∀ j, 0 ≤ j → j < v 7 0 → 0 ≤ v 10 j ∧ v 10 j ≤ 6000000 := fun j j0 j1 => by have := hmo j j0 j1; omega
  have hlnd : ∀ j, 0 ≤ j → j < v 7 0 → (0 ≤ v 11 j ∧ v 11 j ≤ 600) ∧ (0 ≤ v 12 j ∧ v 12 j ≤ 600) := fun j j0 j1 => by have := hln9 j j0 j1; omega
  refine lv_aload_n hx hb dL_law_717 rfl (lv_at hl 1 rfl) ?_
  refine lv_aload_n hx hb dL_law_718 rfl (lv_at hl 0 rfl) ?_
  refine lv_iload hx hb dL_law_719 (lv_at hl 5 rfl) ?_
  refine zz_iconst hx hb dL_law_721 ?_
  refine zz_iadd hx hb dL_law_722 ?_
  refine zz_sld hx hb hX hbl hbA hS (k := i + 1) (by omega) hL dL_law_723 ?_
  refine lv_aload_n hx hb dL_law_724 rfl (lv_at hl 0 rfl) ?_
  refine lv_iload hx hb dL_law_725 (lv_at hl 5 rfl) ?_
  refine zz_iconst hx hb dL_law_727 ?_
  refine zz_iadd hx hb dL_law_728 ?_
  refine zz_sld hx hb hX hbl hbA hS (k := i + 2) (by omega) hL dL_law_729 ?_
  refine lv_aload_n hx hb dL_law_730 rfl (lv_at hl 3 rfl) ?_
  refine zh_callSi_ch (As := [.ref (ad 0), .int (iI (xz xs (i + 1))), .int (iI (xz xs (i + 2))), .ref o]) (rest := []) (L := [xOut tA o og, xOud tA od dg, xMod tA am ms mbef msav misv mpast mpm mthr mways mnds mtkp mline mlm mtxt mlen mat mwr merr mfail mcmd mcm, xObj ad hsv mal fai, xOff tA ad v shrt grp seen tp shr need ordr size, xScr tA K ad pos cmd vals txt len, xHis tA ad hc hn hs, xBef tA ad bt, xSav tA ad sv, xLin tA ad lnb lml lct]) (Lc := [xOut tA o og, xObj ad hsv mal fai, xOff tA ad v shrt grp seen tp shr need ordr size]) (Lr := [xOud tA od dg, xMod tA am ms mbef msav misv mpast mpm mthr mways mnds mtkp mline mlm mtxt mlen mat mwr merr mfail mcmd mcm, xScr tA K ad pos cmd vals txt len, xHis tA ad hc hn hs, xBef tA ad bt, xSav tA ad sv, xLin tA ad lnb lml lct]) (Lc' := fun u => Sum.elim (fun u => [xOut tA o (zU og 0 u.1), xObj ad hsv mal fai, xOff tA ad v shrt grp seen tp shr need ordr size]) (fun u => [xOut tA o og, xObj ad hsv mal fai, xOff tA ad v shrt grp seen tp shr need ordr size]) u) (Lf := fun u => Sum.elim (fun u => [xOut tA o (zU og 0 u.1), xOud tA od dg, xMod tA am ms mbef msav misv mpast mpm mthr mways mnds mtkp mline mlm mtxt mlen mat mwr merr mfail mcmd mcm, xObj ad hsv mal fai, xOff tA ad v shrt grp seen tp shr need ordr size, xScr tA K ad pos cmd vals txt len, xHis tA ad hc hn hs, xBef tA ad bt, xSav tA ad sv, xLin tA ad lnb lml lct]) (fun u => [xOut tA o og, xOud tA od dg, xMod tA am ms mbef msav misv mpast mpm mthr mways mnds mtkp mline mlm mtxt mlen mat mwr merr mfail mcmd mcm, xObj ad hsv mal fai, xOff tA ad v shrt grp seen tp shr need ordr size, xScr tA K ad pos cmd vals txt len, xHis tA ad hc hn hs, xBef tA ad bt, xSav tA ad sv, xLin tA ad lnb lml lct]) u) (is := [0, 3, 4, 1, 2, 5, 6, 7, 8, 9]) (isF := [7, 0, 1, 8, 9, 2, 3, 4, 5, 6]) ⟨hx, hb, hml, hown, hts⟩ (c_L_meterOf l hst K D tA (ad 0) (ad 1) (ad 2) (ad 3) (ad 4) (ad 5) (ad 6) (ad 7) (ad 8) (ad 9) (ad 10) (ad 11) (ad 12) (ad 13) (ad 14) (ad 15) (ad 16) (ad 17) (ad 18) (ad 19) (ad 20) (ad 21) (ad 22) (ad 23) (ad 24) (ad 27) (ad 146) (ad 133) (ad 159) o H.size og (v 0 0) (v 1 0) (v 2) (v 3) (v 4) (v 5) (v 6) (v 7 0) (v 8) (v 9) (v 10) (v 11) (v 12) (v 13 0) (v 14 0) (v 15 0) (v 16 0) (v 17 0) (v 18 0) shrt grp seen tp shr need ordr size hsv mal fai  (xz xs (i + 1)) (xz xs (i + 2)) (xz_in _ _) (xz_in _ _) hch (fun j j0 j1 => by have := hmt9 j j0 j1; omega)) (vx_cwSW 4 hts (gx_wr gL_law_L_meterOf) rfl rfl rfl (by decide +kernel) ⟨Nat.le_of_ble_eq_true rfl, Nat.le_of_ble_eq_true rfl⟩) hK hP hD hS hA hZ ⟨rfl, rfl, (by decide)⟩ ⟨fun u => by cases u <;> rfl, fun u => by cases u <;> rfl, (by decide)⟩ rfl rfl hl.1 (Nat.le_of_ble_eq_true rfl) dL_law_731 (by show k9 + 2 ≤ 603072 ∧ n9 + 12 ≤ 7207018; omega) ?_
  intro z6 u H locs hq hP hD hS
  rcases u with ⟨zc, u⟩ | u
  · skip
    obtain ⟨hz6, kq, hzr⟩ := hq
    have kq : inP (v 0 0) (xz xs (i + 1)) (xz xs (i + 2)) ∧ ∃ p, 0 ≤ p ∧ p < (v 1 0) ∧ (v 2) p = min (xz xs (i + 1)) (xz xs (i + 2)) ∧ (v 3) p = max (xz xs (i + 1)) (xz xs (i + 2)) ∧ zc = (v 6) p := kq
    have hz6 : z6 = 0 := hz6
    have hzr : -2147483648 ≤ zc ∧ zc ≤ 2147483647 := hzr
    have hP : va_P D vwCl ([xOut tA o (zU og 0 zc), xOud tA od dg, xMod tA am ms mbef msav misv mpast mpm mthr mways mnds mtkp mline mlm mtxt mlen mat mwr merr mfail mcmd mcm, xObj ad hsv mal fai, xOff tA ad v shrt grp seen tp shr need ordr size, xScr tA K ad pos cmd vals txt len, xHis tA ad hc hn hs, xBef tA ad bt, xSav tA ad sv, xLin tA ad lnb lml lct]).flatten H := hP
    have hD : va_D (lwA s) ([xOut tA o (zU og 0 zc), xOud tA od dg, xMod tA am ms mbef msav misv mpast mpm mthr mways mnds mtkp mline mlm mtxt mlen mat mwr merr mfail mcmd mcm, xObj ad hsv mal fai, xOff tA ad v shrt grp seen tp shr need ordr size, xScr tA K ad pos cmd vals txt len, xHis tA ad hc hn hs, xBef tA ad bt, xSav tA ad sv, xLin tA ad lnb lml lct]).flatten := hD
    refine lv_istore (lv' := [(6, .int (iI z6)), (0, .ref b), (1, .ref (ad 0)), (2, .ref (am 0)), (3, .ref o), (4, .ref od), (5, .int (iI i))]) hx hb dL_law_734 hl (by decide) rfl (fun ls hl => ?_)
    refine lv_aload_n hx hb dL_law_736 rfl (lv_at hl 3 rfl) ?_
    refine lv_aload_n hx hb dL_law_737 rfl (lv_at hl 1 rfl) ?_
    refine lv_iload hx hb dL_law_738 (lv_at hl 6 rfl) ?_
    refine zz_iconst hx hb dL_law_740 ?_
    refine zz_iadd hx hb dL_law_741 ?_
    refine zz_sld hx hb hX hbl hbA hS (k := i + 1) (by omega) hL dL_law_742 ?_
    refine lv_aload_n hx hb dL_law_743 rfl (lv_at hl 1 rfl) ?_
    refine lv_iload hx hb dL_law_744 (lv_at hl 6 rfl) ?_
    refine zz_iconst hx hb dL_law_746 ?_
    refine zz_iadd hx hb dL_law_747 ?_
    refine zz_sld hx hb hX hbl hbA hS (k := i + 2) (by omega) hL dL_law_748 ?_
    refine zz_callVi_ch (As := [.int (iI (xz xs (i + 1))), .int (iI (xz xs (i + 2)))]) (rest := []) (L := [xOut tA o (zU og 0 zc), xOud tA od dg, xMod tA am ms mbef msav misv mpast mpm mthr mways mnds mtkp mline mlm mtxt mlen mat mwr merr mfail mcmd mcm, xObj ad hsv mal fai, xOff tA ad v shrt grp seen tp shr need ordr size, xScr tA K ad pos cmd vals txt len, xHis tA ad hc hn hs, xBef tA ad bt, xSav tA ad sv, xLin tA ad lnb lml lct]) (Lc := [xMod tA am ms mbef msav misv mpast mpm mthr mways mnds mtkp mline mlm mtxt mlen mat mwr merr mfail mcmd mcm]) (Lr := [xOut tA o (zU og 0 zc), xOud tA od dg, xObj ad hsv mal fai, xOff tA ad v shrt grp seen tp shr need ordr size, xScr tA K ad pos cmd vals txt len, xHis tA ad hc hn hs, xBef tA ad bt, xSav tA ad sv, xLin tA ad lnb lml lct]) (Lc' := fun u => [xMod tA am ms mbef msav misv mpast mpm u mways mnds mtkp mline mlm mtxt mlen mat mwr merr mfail mcmd mcm]) (Lf := fun u => [xOut tA o (zU og 0 zc), xOud tA od dg, xMod tA am ms mbef msav misv mpast mpm u mways mnds mtkp mline mlm mtxt mlen mat mwr merr mfail mcmd mcm, xObj ad hsv mal fai, xOff tA ad v shrt grp seen tp shr need ordr size, xScr tA K ad pos cmd vals txt len, xHis tA ad hc hn hs, xBef tA ad bt, xSav tA ad sv, xLin tA ad lnb lml lct]) (is := [2, 0, 1, 3, 4, 5, 6, 7, 8, 9]) (isF := [0, 1, 9, 2, 3, 4, 5, 6, 7, 8]) ⟨hx, hb, hml, hown, hts⟩ (c_X11_meterOf l D tA (am 0) (am 1) (am 2) (am 3) (am 4) (am 5) (am 6) (am 7) (am 8) (am 9) (am 10) H.size ms mbef msav misv mpast mpm mthr mways mnds mtkp mline mlm mtxt mlen mat mwr merr mfail mcmd mcm (xz xs (i + 1)) (xz xs (i + 2)) (xz_in _ _) (xz_in _ _) ⟨hmv.1.1.1, hmv.1.1.2.1⟩ hmv.1.2.1) (cwV 2 hts (gx_tbl gL_law_X11_meterOf) rfl rfl rfl (by decide +kernel) ⟨Nat.le_of_ble_eq_true rfl, Nat.le_of_ble_eq_true rfl⟩) hK hP hD hS hA ⟨rfl, rfl, (by decide)⟩ ⟨fun _ => rfl, fun _ => rfl, (by decide)⟩ (ci := 13) (q0 := 0) rfl rfl rfl rfl rfl hl.1 (Nat.le_of_ble_eq_true rfl) dL_law_749 (by show _ + 0 ≤ 603072 ∧ _ + 0 ≤ 7207018; omega) ?_
    intro zb u H locs hmq hP hD hS
    obtain ⟨y_mthr, rfl⟩ : ∃ q, q = u := ⟨_, rfl⟩
    have hP : va_P D vwCl ([xOut tA o (zU og 0 zc), xOud tA od dg, xMod tA am ms mbef msav misv mpast mpm y_mthr mways mnds mtkp mline mlm mtxt mlen mat mwr merr mfail mcmd mcm, xObj ad hsv mal fai, xOff tA ad v shrt grp seen tp shr need ordr size, xScr tA K ad pos cmd vals txt len, xHis tA ad hc hn hs, xBef tA ad bt, xSav tA ad sv, xLin tA ad lnb lml lct]).flatten H := hP
    have hD : va_D (lwA s) ([xOut tA o (zU og 0 zc), xOud tA od dg, xMod tA am ms mbef msav misv mpast mpm y_mthr mways mnds mtkp mline mlm mtxt mlen mat mwr merr mfail mcmd mcm, xObj ad hsv mal fai, xOff tA ad v shrt grp seen tp shr need ordr size, xScr tA K ad pos cmd vals txt len, xHis tA ad hc hn hs, xBef tA ad bt, xSav tA ad sv, xLin tA ad lnb lml lct]).flatten := hD
    have mq : (y_mthr = 1 ∧ ¬ inP (ms 0) (xz xs (i + 1)) (xz xs (i + 2))) ∨ (inP (ms 0) (xz xs (i + 1)) (xz xs (i + 2)) ∧ ((y_mthr = 2 ∧ lgM ms (xz xs (i + 1)) (xz xs (i + 2)) 0 = 0) ∨ (y_mthr = 0 ∧ lgM ms (xz xs (i + 1)) (xz xs (i + 2)) 0 ≠ 0 ∧ zb = lgM ms (xz xs (i + 1)) (xz xs (i + 2)) 2))) := hmq
    clear hmq
    refine lv_istore (lv' := [(7, .int (iI zb)), (6, .int (iI z6)), (0, .ref b), (1, .ref (ad 0)), (2, .ref (am 0)), (3, .ref o), (4, .ref od), (5, .int (iI i))]) hx hb dL_law_752 hl (by decide) rfl (fun ls hl => ?_)
    have hTV : y_mthr = 0 ∧ zb = zc := by
      exact q_leg3 hch hr (x := 2) (by omega) kq mq
    have hT : y_mthr = z6 := hTV.1.trans hz6.symm
    have hI2 : LInv (n + 1) v hs sv pos cmd vals txt len hc hn hsv mal fai lnb lct ms msav misv mpast mpm mline mlm mtxt mlen merr mfail mcmd := by
      exact LI_q hn9 hI
    refine lv_aload_n hx hb dL_law_754 rfl (lv_at hl 4 rfl) ?_
    refine zz_callVi_ch (As := []) (rest := []) (L := [xOut tA o (zU og 0 zc), xOud tA od dg, xMod tA am ms mbef msav misv mpast mpm y_mthr mways mnds mtkp mline mlm mtxt mlen mat mwr merr mfail mcmd mcm, xObj ad hsv mal fai, xOff tA ad v shrt grp seen tp shr need ordr size, xScr tA K ad pos cmd vals txt len, xHis tA ad hc hn hs, xBef tA ad bt, xSav tA ad sv, xLin tA ad lnb lml lct]) (Lc := [xMod tA am ms mbef msav misv mpast mpm y_mthr mways mnds mtkp mline mlm mtxt mlen mat mwr merr mfail mcmd mcm]) (Lr := [xOut tA o (zU og 0 zc), xOud tA od dg, xObj ad hsv mal fai, xOff tA ad v shrt grp seen tp shr need ordr size, xScr tA K ad pos cmd vals txt len, xHis tA ad hc hn hs, xBef tA ad bt, xSav tA ad sv, xLin tA ad lnb lml lct]) (Lc' := fun u => [xMod tA am ms mbef msav misv mpast mpm y_mthr mways mnds mtkp mline mlm mtxt mlen mat mwr merr mfail mcmd mcm]) (Lf := fun u => [xOut tA o (zU og 0 zc), xOud tA od dg, xMod tA am ms mbef msav misv mpast mpm y_mthr mways mnds mtkp mline mlm mtxt mlen mat mwr merr mfail mcmd mcm, xObj ad hsv mal fai, xOff tA ad v shrt grp seen tp shr need ordr size, xScr tA K ad pos cmd vals txt len, xHis tA ad hc hn hs, xBef tA ad bt, xSav tA ad sv, xLin tA ad lnb lml lct]) (is := [2, 0, 1, 3, 4, 5, 6, 7, 8, 9]) (isF := [0, 1, 9, 2, 3, 4, 5, 6, 7, 8]) ⟨hx, hb, hml, hown, hts⟩ (c_X11_thrown l D tA (am 0) (am 1) (am 2) (am 3) (am 4) (am 5) (am 6) (am 7) (am 8) (am 9) (am 10) H.size ms mbef msav misv mpast mpm y_mthr mways mnds mtkp mline mlm mtxt mlen mat mwr merr mfail mcmd mcm) (cwV 0 hts (gx_tbl gL_law_X11_thrown) rfl rfl rfl (by decide +kernel) ⟨Nat.le_of_ble_eq_true rfl, Nat.le_of_ble_eq_true rfl⟩) hK hP hD hS hA ⟨rfl, rfl, (by decide)⟩ ⟨fun _ => rfl, fun _ => rfl, (by decide)⟩ (ci := 13) (q0 := 0) rfl rfl rfl rfl rfl hl.1 (Nat.le_of_ble_eq_true rfl) dL_law_755 (by show _ + 0 ≤ 603072 ∧ _ + 0 ≤ 7207018; omega) ?_
    intro zt u H locs hzt hP hD hS
    have hP : va_P D vwCl ([xOut tA o (zU og 0 zc), xOud tA od dg, xMod tA am ms mbef msav misv mpast mpm y_mthr mways mnds mtkp mline mlm mtxt mlen mat mwr merr mfail mcmd mcm, xObj ad hsv mal fai, xOff tA ad v shrt grp seen tp shr need ordr size, xScr tA K ad pos cmd vals txt len, xHis tA ad hc hn hs, xBef tA ad bt, xSav tA ad sv, xLin tA ad lnb lml lct]).flatten H := hP
    have hD : va_D (lwA s) ([xOut tA o (zU og 0 zc), xOud tA od dg, xMod tA am ms mbef msav misv mpast mpm y_mthr mways mnds mtkp mline mlm mtxt mlen mat mwr merr mfail mcmd mcm, xObj ad hsv mal fai, xOff tA ad v shrt grp seen tp shr need ordr size, xScr tA K ad pos cmd vals txt len, xHis tA ad hc hn hs, xBef tA ad bt, xSav tA ad sv, xLin tA ad lnb lml lct]).flatten := hD
    have hzt : zt = y_mthr := hzt
    have hz69 : 0 ≤ z6 ∧ z6 ≤ 9 := by omega
    refine lv_iload hx hb dL_law_758 (lv_at hl 1 rfl) ?_
    refine zz_icmp_eq (tgt := 765) hx hb dL_law_760 (by decide) (by omega) (by omega) (fun _ => ?_) (fun c9 => absurd (by omega) c9)
    refine lv_iload hx hb dL_law_765 (lv_at hl 1 rfl) ?_
    refine zz_if_ne (tgt := 782) hx hb dL_law_767 (by decide) (by omega) (fun c9 => absurd hz6 c9) (fun _ => ?_)
    refine lv_aload_n hx hb dL_law_770 rfl (lv_at hl 5 rfl) ?_
    refine zz_iconst hx hb dL_law_771 ?_
    refine zz_lald hx hb hK hP 0 rfl (by decide) (by decide) dL_law_772 ?_
    rw [zU_same]
    refine lv_iload hx hb dL_law_773 (lv_at hl 0 rfl) ?_
    refine zz_i2l hx hb dL_law_775 (by omega) ?_
    rw [hTV.2]
    refine zz_lcmp hx hb dL_law_776 (by omega) (by omega) ?_
    rw [cmpZ_s]
    refine zz_if_eq (tgt := 782) hx hb dL_law_777 (by decide) (by decide) (fun _ => ?_) (fun c9 => absurd rfl c9)
    refine lv_goto (tgt := 2917) hx hb dL_law_782 (by decide) ?_
    refine W.widen (k := k9 + 20) (n := n9 + 200) (by omega) (by omega) ?_
    exact kk v shrt grp seen tp shr need ordr size pos cmd vals txt len hc hn hs bt sv hsv mal fai lnb lml lct ms mbef msav misv mpast mpm y_mthr mways mnds mtkp mline mlm mtxt mlen mat mwr merr mfail mcmd mcm (zU og 0 zc) dg _ _ _ hI2 hP hD hS (lv_sub hl [2, 3, 4, 5, 6, 7] rfl)
  · obtain ⟨kx, rfl⟩ : ∃ q, q = u := ⟨_, rfl⟩
    have kq : (kx = 1 ∧ ¬ inP (v 0 0) (xz xs (i + 1)) (xz xs (i + 2))) ∨ (kx = 4 ∧ inP (v 0 0) (xz xs (i + 1)) (xz xs (i + 2)) ∧ ¬ hasL (v 1 0) (v 2) (v 3) (xz xs (i + 1)) (xz xs (i + 2))) := hq.1
    have kc : (kx = 1 ∧ z6 = 1) ∨ (kx = 4 ∧ z6 = 2) := hq.2
    have hP : va_P D vwCl ([xOut tA o og, xOud tA od dg, xMod tA am ms mbef msav misv mpast mpm mthr mways mnds mtkp mline mlm mtxt mlen mat mwr merr mfail mcmd mcm, xObj ad hsv mal fai, xOff tA ad v shrt grp seen tp shr need ordr size, xScr tA K ad pos cmd vals txt len, xHis tA ad hc hn hs, xBef tA ad bt, xSav tA ad sv, xLin tA ad lnb lml lct]).flatten H := hP
    have hD : va_D (lwA s) ([xOut tA o og, xOud tA od dg, xMod tA am ms mbef msav misv mpast mpm mthr mways mnds mtkp mline mlm mtxt mlen mat mwr merr mfail mcmd mcm, xObj ad hsv mal fai, xOff tA ad v shrt grp seen tp shr need ordr size, xScr tA K ad pos cmd vals txt len, xHis tA ad hc hn hs, xBef tA ad bt, xSav tA ad sv, xLin tA ad lnb lml lct]).flatten := hD
    refine lv_istore (lv' := [(6, .int (iI z6)), (0, .ref b), (1, .ref (ad 0)), (2, .ref (am 0)), (3, .ref o), (4, .ref od), (5, .int (iI i))]) hx hb dL_law_734 hl (by decide) rfl (fun ls hl => ?_)
    refine lv_aload_n hx hb dL_law_736 rfl (lv_at hl 3 rfl) ?_
    refine lv_aload_n hx hb dL_law_737 rfl (lv_at hl 1 rfl) ?_
    refine lv_iload hx hb dL_law_738 (lv_at hl 6 rfl) ?_
    refine zz_iconst hx hb dL_law_740 ?_
    refine zz_iadd hx hb dL_law_741 ?_
    refine zz_sld hx hb hX hbl hbA hS (k := i + 1) (by omega) hL dL_law_742 ?_
    refine lv_aload_n hx hb dL_law_743 rfl (lv_at hl 1 rfl) ?_
    refine lv_iload hx hb dL_law_744 (lv_at hl 6 rfl) ?_
    refine zz_iconst hx hb dL_law_746 ?_
    refine zz_iadd hx hb dL_law_747 ?_
    refine zz_sld hx hb hX hbl hbA hS (k := i + 2) (by omega) hL dL_law_748 ?_
    refine zz_callVi_ch (As := [.int (iI (xz xs (i + 1))), .int (iI (xz xs (i + 2)))]) (rest := []) (L := [xOut tA o og, xOud tA od dg, xMod tA am ms mbef msav misv mpast mpm mthr mways mnds mtkp mline mlm mtxt mlen mat mwr merr mfail mcmd mcm, xObj ad hsv mal fai, xOff tA ad v shrt grp seen tp shr need ordr size, xScr tA K ad pos cmd vals txt len, xHis tA ad hc hn hs, xBef tA ad bt, xSav tA ad sv, xLin tA ad lnb lml lct]) (Lc := [xMod tA am ms mbef msav misv mpast mpm mthr mways mnds mtkp mline mlm mtxt mlen mat mwr merr mfail mcmd mcm]) (Lr := [xOut tA o og, xOud tA od dg, xObj ad hsv mal fai, xOff tA ad v shrt grp seen tp shr need ordr size, xScr tA K ad pos cmd vals txt len, xHis tA ad hc hn hs, xBef tA ad bt, xSav tA ad sv, xLin tA ad lnb lml lct]) (Lc' := fun u => [xMod tA am ms mbef msav misv mpast mpm u mways mnds mtkp mline mlm mtxt mlen mat mwr merr mfail mcmd mcm]) (Lf := fun u => [xOut tA o og, xOud tA od dg, xMod tA am ms mbef msav misv mpast mpm u mways mnds mtkp mline mlm mtxt mlen mat mwr merr mfail mcmd mcm, xObj ad hsv mal fai, xOff tA ad v shrt grp seen tp shr need ordr size, xScr tA K ad pos cmd vals txt len, xHis tA ad hc hn hs, xBef tA ad bt, xSav tA ad sv, xLin tA ad lnb lml lct]) (is := [2, 0, 1, 3, 4, 5, 6, 7, 8, 9]) (isF := [0, 1, 9, 2, 3, 4, 5, 6, 7, 8]) ⟨hx, hb, hml, hown, hts⟩ (c_X11_meterOf l D tA (am 0) (am 1) (am 2) (am 3) (am 4) (am 5) (am 6) (am 7) (am 8) (am 9) (am 10) H.size ms mbef msav misv mpast mpm mthr mways mnds mtkp mline mlm mtxt mlen mat mwr merr mfail mcmd mcm (xz xs (i + 1)) (xz xs (i + 2)) (xz_in _ _) (xz_in _ _) ⟨hmv.1.1.1, hmv.1.1.2.1⟩ hmv.1.2.1) (cwV 2 hts (gx_tbl gL_law_X11_meterOf) rfl rfl rfl (by decide +kernel) ⟨Nat.le_of_ble_eq_true rfl, Nat.le_of_ble_eq_true rfl⟩) hK hP hD hS hA ⟨rfl, rfl, (by decide)⟩ ⟨fun _ => rfl, fun _ => rfl, (by decide)⟩ (ci := 13) (q0 := 0) rfl rfl rfl rfl rfl hl.1 (Nat.le_of_ble_eq_true rfl) dL_law_749 (by show _ + 0 ≤ 603072 ∧ _ + 0 ≤ 7207018; omega) ?_
    intro zb u H locs hmq hP hD hS
    obtain ⟨y_mthr, rfl⟩ : ∃ q, q = u := ⟨_, rfl⟩
    have hP : va_P D vwCl ([xOut tA o og, xOud tA od dg, xMod tA am ms mbef msav misv mpast mpm y_mthr mways mnds mtkp mline mlm mtxt mlen mat mwr merr mfail mcmd mcm, xObj ad hsv mal fai, xOff tA ad v shrt grp seen tp shr need ordr size, xScr tA K ad pos cmd vals txt len, xHis tA ad hc hn hs, xBef tA ad bt, xSav tA ad sv, xLin tA ad lnb lml lct]).flatten H := hP
    have hD : va_D (lwA s) ([xOut tA o og, xOud tA od dg, xMod tA am ms mbef msav misv mpast mpm y_mthr mways mnds mtkp mline mlm mtxt mlen mat mwr merr mfail mcmd mcm, xObj ad hsv mal fai, xOff tA ad v shrt grp seen tp shr need ordr size, xScr tA K ad pos cmd vals txt len, xHis tA ad hc hn hs, xBef tA ad bt, xSav tA ad sv, xLin tA ad lnb lml lct]).flatten := hD
    have mq : (y_mthr = 1 ∧ ¬ inP (ms 0) (xz xs (i + 1)) (xz xs (i + 2))) ∨ (inP (ms 0) (xz xs (i + 1)) (xz xs (i + 2)) ∧ ((y_mthr = 2 ∧ lgM ms (xz xs (i + 1)) (xz xs (i + 2)) 0 = 0) ∨ (y_mthr = 0 ∧ lgM ms (xz xs (i + 1)) (xz xs (i + 2)) 0 ≠ 0 ∧ zb = lgM ms (xz xs (i + 1)) (xz xs (i + 2)) 2))) := hmq
    clear hmq
    refine lv_istore (lv' := [(7, .int (iI zb)), (6, .int (iI z6)), (0, .ref b), (1, .ref (ad 0)), (2, .ref (am 0)), (3, .ref o), (4, .ref od), (5, .int (iI i))]) hx hb dL_law_752 hl (by decide) rfl (fun ls hl => ?_)
    have hT : y_mthr = z6 := by
      exact x_leg3 hch hr kq kc mq
    have hI2 : LInv (n + 1) v hs sv pos cmd vals txt len hc hn hsv mal fai lnb lct ms msav misv mpast mpm mline mlm mtxt mlen merr mfail mcmd := by
      exact LI_q hn9 hI
    refine lv_aload_n hx hb dL_law_754 rfl (lv_at hl 4 rfl) ?_
    refine zz_callVi_ch (As := []) (rest := []) (L := [xOut tA o og, xOud tA od dg, xMod tA am ms mbef msav misv mpast mpm y_mthr mways mnds mtkp mline mlm mtxt mlen mat mwr merr mfail mcmd mcm, xObj ad hsv mal fai, xOff tA ad v shrt grp seen tp shr need ordr size, xScr tA K ad pos cmd vals txt len, xHis tA ad hc hn hs, xBef tA ad bt, xSav tA ad sv, xLin tA ad lnb lml lct]) (Lc := [xMod tA am ms mbef msav misv mpast mpm y_mthr mways mnds mtkp mline mlm mtxt mlen mat mwr merr mfail mcmd mcm]) (Lr := [xOut tA o og, xOud tA od dg, xObj ad hsv mal fai, xOff tA ad v shrt grp seen tp shr need ordr size, xScr tA K ad pos cmd vals txt len, xHis tA ad hc hn hs, xBef tA ad bt, xSav tA ad sv, xLin tA ad lnb lml lct]) (Lc' := fun u => [xMod tA am ms mbef msav misv mpast mpm y_mthr mways mnds mtkp mline mlm mtxt mlen mat mwr merr mfail mcmd mcm]) (Lf := fun u => [xOut tA o og, xOud tA od dg, xMod tA am ms mbef msav misv mpast mpm y_mthr mways mnds mtkp mline mlm mtxt mlen mat mwr merr mfail mcmd mcm, xObj ad hsv mal fai, xOff tA ad v shrt grp seen tp shr need ordr size, xScr tA K ad pos cmd vals txt len, xHis tA ad hc hn hs, xBef tA ad bt, xSav tA ad sv, xLin tA ad lnb lml lct]) (is := [2, 0, 1, 3, 4, 5, 6, 7, 8, 9]) (isF := [0, 1, 9, 2, 3, 4, 5, 6, 7, 8]) ⟨hx, hb, hml, hown, hts⟩ (c_X11_thrown l D tA (am 0) (am 1) (am 2) (am 3) (am 4) (am 5) (am 6) (am 7) (am 8) (am 9) (am 10) H.size ms mbef msav misv mpast mpm y_mthr mways mnds mtkp mline mlm mtxt mlen mat mwr merr mfail mcmd mcm) (cwV 0 hts (gx_tbl gL_law_X11_thrown) rfl rfl rfl (by decide +kernel) ⟨Nat.le_of_ble_eq_true rfl, Nat.le_of_ble_eq_true rfl⟩) hK hP hD hS hA ⟨rfl, rfl, (by decide)⟩ ⟨fun _ => rfl, fun _ => rfl, (by decide)⟩ (ci := 13) (q0 := 0) rfl rfl rfl rfl rfl hl.1 (Nat.le_of_ble_eq_true rfl) dL_law_755 (by show _ + 0 ≤ 603072 ∧ _ + 0 ≤ 7207018; omega) ?_
    intro zt u H locs hzt hP hD hS
    have hP : va_P D vwCl ([xOut tA o og, xOud tA od dg, xMod tA am ms mbef msav misv mpast mpm y_mthr mways mnds mtkp mline mlm mtxt mlen mat mwr merr mfail mcmd mcm, xObj ad hsv mal fai, xOff tA ad v shrt grp seen tp shr need ordr size, xScr tA K ad pos cmd vals txt len, xHis tA ad hc hn hs, xBef tA ad bt, xSav tA ad sv, xLin tA ad lnb lml lct]).flatten H := hP
    have hD : va_D (lwA s) ([xOut tA o og, xOud tA od dg, xMod tA am ms mbef msav misv mpast mpm y_mthr mways mnds mtkp mline mlm mtxt mlen mat mwr merr mfail mcmd mcm, xObj ad hsv mal fai, xOff tA ad v shrt grp seen tp shr need ordr size, xScr tA K ad pos cmd vals txt len, xHis tA ad hc hn hs, xBef tA ad bt, xSav tA ad sv, xLin tA ad lnb lml lct]).flatten := hD
    have hzt : zt = y_mthr := hzt
    have hz69 : 0 ≤ z6 ∧ z6 ≤ 9 := by omega
    refine lv_iload hx hb dL_law_758 (lv_at hl 1 rfl) ?_
    refine zz_icmp_eq (tgt := 765) hx hb dL_law_760 (by decide) (by omega) (by omega) (fun _ => ?_) (fun c9 => absurd (by omega) c9)
    refine lv_iload hx hb dL_law_765 (lv_at hl 1 rfl) ?_
    refine zz_if_ne (tgt := 782) hx hb dL_law_767 (by decide) (by omega) (fun _ => ?_) (fun c9 => absurd c9 (by omega))
    refine lv_goto (tgt := 2917) hx hb dL_law_782 (by decide) ?_
    refine W.widen (k := k9 + 20) (n := n9 + 200) (by omega) (by omega) ?_
    exact kk v shrt grp seen tp shr need ordr size pos cmd vals txt len hc hn hs bt sv hsv mal fai lnb lml lct ms mbef msav misv mpast mpm y_mthr mways mnds mtkp mline mlm mtxt mlen mat mwr merr mfail mcmd mcm og dg _ _ _ hI2 hP hD hS (lv_sub hl [2, 3, 4, 5, 6, 7] rfl)

set_option maxHeartbeats 8000000 in
set_option maxRecDepth 100000 in
theorem law_c9 {p : Program} {l : Launch} (hst : l.stackTraces = false) {e : Env} {s : State} {m : MethodId} {below : List Frame} {meth : Method} {c : Code} {D : va_G} {tA : Nat → ClassId} {K : Nat → Nat} {b L : Nat} {xs : Nat → Int32} (hL : L ≤ 2560) (C0 : lw_At p s m meth c b L xs) (hK : zK D tA s) (hZ : zT K (lwA s) s) {ad am : Nat → Nat} {o od : Nat} {i n : Int} (hi : 0 ≤ i ∧ i + 5 ≤ L) (hn9 : n < 600) {k9 n9 : Nat} (hk9 : k9 + 20 ≤ 603072 ∧ n9 + 200 ≤ 7207018) {v : Nat → Int → Int} {shrt : Int → Int} {grp : Int → Int} {seen : Int → Int} {tp : Int → Int} {shr : Int → Int} {need : Int → Int} {ordr : Int → Int} {size : Int} {pos : Int} {cmd : Int} {vals : Int → Int} {txt : Int → Int} {len : Int} {hc : Int} {hn : Int} {hs : Nat → Nat → Int → Int} {bt : Nat → Int → Int} {sv : Nat → Int → Int} {hsv : Int} {mal : Int} {fai : Int} {lnb : Int → Int} {lml : Int} {lct : Int} {ms : Int → Int} {mbef : Int → Int} {msav : Int → Int} {misv : Int} {mpast : Int → Int} {mpm : Int} {mthr : Int} {mways : Int → Int} {mnds : Int → Int} {mtkp : Int → Int} {mline : Int → Int} {mlm : Int} {mtxt : Int → Int} {mlen : Int} {mat : Int} {mwr : Int} {merr : Int} {mfail : Int} {mcmd : Int → Int} {mcm : Int} {og : Int → Int} {dg : Nat → UInt64} {H : Heap} {locs : List Loc} {ls : Array Slot} (hI : LInv n v hs sv pos cmd vals txt len hc hn hsv mal fai lnb lct ms msav misv mpast mpm mline mlm mtxt mlen merr mfail mcmd) (hP : va_P D vwCl (xW tA K ad am o od v shrt grp seen tp shr need ordr size pos cmd vals txt len hc hn hs bt sv hsv mal fai lnb lml lct ms mbef msav misv mpast mpm mthr mways mnds mtkp mline mlm mtxt mlen mat mwr merr mfail mcmd mcm og dg).flatten H) (hD : va_D (lwA s) (xW tA K ad am o od v shrt grp seen tp shr need ordr size pos cmd vals txt len hc hn hs bt sv hsv mal fai lnb lml lct ms mbef msav misv mpast mpm mthr mways mnds mtkp mline mlm mtxt mlen mat mwr merr mfail mcmd mcm og dg).flatten) (hS : va_S (lwA s) s.heap H locs) (hl : lv_has ls 9 [(0, .ref b), (1, .ref (ad 0)), (2, .ref (am 0)), (3, .ref o), (4, .ref od), (5, .int (iI i))]) (kk : lwK p l e s m below meth c D tA K ad am o od b i n k9 n9) : W p l e room_1 s m #[Value.ref b] below meth c H locs k9 n9 (lw_Z below #[Value.ref b] s) (F0 m 785 ls []) := by
  obtain ⟨hx, hb, hrt, hml, hown, hts, hX, hbl, hlocks, hgv⟩ := id C0
  have hts := lw_more hts
  have hA : ∀ q : Nat, s.heap.size ≤ q → lwA s q := fun _ h => h
  have hbA : ¬ lwA s b := Nat.not_le.mpr hbl
  have hCn := hZ.2.2.2
  obtain ⟨⟨n0, n6, l0, l6, ln⟩, hLS, ⟨hhn, hhc, hpm, hhi⟩, ⟨hsv01, hmis, hsvv, hsvr⟩, ⟨hlen, htxt, htx⟩, ⟨hlm, hln, hl0, hl16, hlb⟩, ⟨her, hfa, hm1, hm2, hf1, hf2⟩, ⟨hcd0, hcd1, hps0, hps1, hva⟩, hcr⟩ := id hI
  have hv := hLS.1
  have hr := hLS.2
  have hch : ChS v := hv.1
  have hu9 : ChW v := hv.2.1
  obtain ⟨-, -, hcc, hsp, hmo, hfog, hrg, hni, hfd, hmt9, hln9, hsum⟩ := SVk_out (show SVk _ _ (etS v) from hv)
  have hmv := rel_MV hv hr (by omega) (by omega)
  obtain ⟨e0, e1, e2, e3, e4, e5, e6⟩ := id hr.1
  have eE := rel_sE hch hr
  have hmon : ∀ j, 0 ≤ j → j < v 7 0 → 0 ≤ v 10 j ∧ v 10 j ≤ 6000000 := fun j j0 j1 => by have := hmo j j0 j1; omega
  have hlnd : ∀ j, 0 ≤ j → j < v 7 0 → (0 ≤ v 11 j ∧ v 11 j ≤ 600) ∧ (0 ≤ v 12 j ∧ v 12 j ≤ 600) := fun j j0 j1 => by have := hln9 j j0 j1; omega
  refine lv_aload_n hx hb dL_law_785 rfl (lv_at hl 1 rfl) ?_
  refine lv_aload_n hx hb dL_law_786 rfl (lv_at hl 0 rfl) ?_
  refine lv_iload hx hb dL_law_787 (lv_at hl 5 rfl) ?_
  refine zz_iconst hx hb dL_law_789 ?_
  refine zz_iadd hx hb dL_law_790 ?_
  refine zz_sld hx hb hX hbl hbA hS (k := i + 1) (by omega) hL dL_law_791 ?_
  refine lv_aload_n hx hb dL_law_792 rfl (lv_at hl 0 rfl) ?_
  refine lv_iload hx hb dL_law_793 (lv_at hl 5 rfl) ?_
  refine zz_iconst hx hb dL_law_795 ?_
  refine zz_iadd hx hb dL_law_796 ?_
  refine zz_sld hx hb hX hbl hbA hS (k := i + 2) (by omega) hL dL_law_797 ?_
  refine lv_aload_n hx hb dL_law_798 rfl (lv_at hl 3 rfl) ?_
  refine zh_callSi_ch (As := [.ref (ad 0), .int (iI (xz xs (i + 1))), .int (iI (xz xs (i + 2))), .ref o]) (rest := []) (L := [xOut tA o og, xOud tA od dg, xMod tA am ms mbef msav misv mpast mpm mthr mways mnds mtkp mline mlm mtxt mlen mat mwr merr mfail mcmd mcm, xObj ad hsv mal fai, xOff tA ad v shrt grp seen tp shr need ordr size, xScr tA K ad pos cmd vals txt len, xHis tA ad hc hn hs, xBef tA ad bt, xSav tA ad sv, xLin tA ad lnb lml lct]) (Lc := [xOut tA o og, xObj ad hsv mal fai, xOff tA ad v shrt grp seen tp shr need ordr size]) (Lr := [xOud tA od dg, xMod tA am ms mbef msav misv mpast mpm mthr mways mnds mtkp mline mlm mtxt mlen mat mwr merr mfail mcmd mcm, xScr tA K ad pos cmd vals txt len, xHis tA ad hc hn hs, xBef tA ad bt, xSav tA ad sv, xLin tA ad lnb lml lct]) (Lc' := fun u => Sum.elim (fun u => [xOut tA o (zU og 0 u.1), xObj ad hsv mal fai, xOff tA ad v shrt grp seen tp shr need ordr size]) (fun u => [xOut tA o og, xObj ad hsv mal fai, xOff tA ad v shrt grp seen tp shr need ordr size]) u) (Lf := fun u => Sum.elim (fun u => [xOut tA o (zU og 0 u.1), xOud tA od dg, xMod tA am ms mbef msav misv mpast mpm mthr mways mnds mtkp mline mlm mtxt mlen mat mwr merr mfail mcmd mcm, xObj ad hsv mal fai, xOff tA ad v shrt grp seen tp shr need ordr size, xScr tA K ad pos cmd vals txt len, xHis tA ad hc hn hs, xBef tA ad bt, xSav tA ad sv, xLin tA ad lnb lml lct]) (fun u => [xOut tA o og, xOud tA od dg, xMod tA am ms mbef msav misv mpast mpm mthr mways mnds mtkp mline mlm mtxt mlen mat mwr merr mfail mcmd mcm, xObj ad hsv mal fai, xOff tA ad v shrt grp seen tp shr need ordr size, xScr tA K ad pos cmd vals txt len, xHis tA ad hc hn hs, xBef tA ad bt, xSav tA ad sv, xLin tA ad lnb lml lct]) u) (is := [0, 3, 4, 1, 2, 5, 6, 7, 8, 9]) (isF := [7, 0, 1, 8, 9, 2, 3, 4, 5, 6]) ⟨hx, hb, hml, hown, hts⟩ (c_L_isLit l hst K D tA (ad 0) (ad 1) (ad 2) (ad 3) (ad 4) (ad 5) (ad 6) (ad 7) (ad 8) (ad 9) (ad 10) (ad 11) (ad 12) (ad 13) (ad 14) (ad 15) (ad 16) (ad 17) (ad 18) (ad 19) (ad 20) (ad 21) (ad 22) (ad 23) (ad 24) (ad 27) (ad 146) (ad 133) (ad 159) o H.size og (v 0 0) (v 1 0) (v 2) (v 3) (v 4) (v 5) (v 6) (v 7 0) (v 8) (v 9) (v 10) (v 11) (v 12) (v 13 0) (v 14 0) (v 15 0) (v 16 0) (v 17 0) (v 18 0) shrt grp seen tp shr need ordr size hsv mal fai  (xz xs (i + 1)) (xz xs (i + 2)) (xz_in _ _) (xz_in _ _) hch hrg) (vx_cwSW 4 hts (gx_wr gL_law_L_isLit) rfl rfl rfl (by decide +kernel) ⟨Nat.le_of_ble_eq_true rfl, Nat.le_of_ble_eq_true rfl⟩) hK hP hD hS hA hZ ⟨rfl, rfl, (by decide)⟩ ⟨fun u => by cases u <;> rfl, fun u => by cases u <;> rfl, (by decide)⟩ rfl rfl hl.1 (Nat.le_of_ble_eq_true rfl) dL_law_799 (by show k9 + 2 ≤ 603072 ∧ n9 + 12 ≤ 7207018; omega) ?_
  intro z6 u H locs hq hP hD hS
  rcases u with ⟨zc, u⟩ | u
  · skip
    obtain ⟨hz6, kq, hzr⟩ := hq
    have kq : inP (v 0 0) (xz xs (i + 1)) (xz xs (i + 2)) ∧ ∃ p, 0 ≤ p ∧ p < (v 1 0) ∧ (v 2) p = min (xz xs (i + 1)) (xz xs (i + 2)) ∧ (v 3) p = max (xz xs (i + 1)) (xz xs (i + 2)) ∧ ((zc = 1 ∧ (v 5) p ≤ (v 13 0)) ∨ (zc = 0 ∧ ¬ (v 5) p ≤ (v 13 0))) := kq
    have hz6 : z6 = 0 := hz6
    have hzr : -2147483648 ≤ zc ∧ zc ≤ 2147483647 := hzr
    have hP : va_P D vwCl ([xOut tA o (zU og 0 zc), xOud tA od dg, xMod tA am ms mbef msav misv mpast mpm mthr mways mnds mtkp mline mlm mtxt mlen mat mwr merr mfail mcmd mcm, xObj ad hsv mal fai, xOff tA ad v shrt grp seen tp shr need ordr size, xScr tA K ad pos cmd vals txt len, xHis tA ad hc hn hs, xBef tA ad bt, xSav tA ad sv, xLin tA ad lnb lml lct]).flatten H := hP
    have hD : va_D (lwA s) ([xOut tA o (zU og 0 zc), xOud tA od dg, xMod tA am ms mbef msav misv mpast mpm mthr mways mnds mtkp mline mlm mtxt mlen mat mwr merr mfail mcmd mcm, xObj ad hsv mal fai, xOff tA ad v shrt grp seen tp shr need ordr size, xScr tA K ad pos cmd vals txt len, xHis tA ad hc hn hs, xBef tA ad bt, xSav tA ad sv, xLin tA ad lnb lml lct]).flatten := hD
    refine lv_istore (lv' := [(6, .int (iI z6)), (0, .ref b), (1, .ref (ad 0)), (2, .ref (am 0)), (3, .ref o), (4, .ref od), (5, .int (iI i))]) hx hb dL_law_802 hl (by decide) rfl (fun ls hl => ?_)
    refine lv_aload_n hx hb dL_law_804 rfl (lv_at hl 3 rfl) ?_
    refine lv_aload_n hx hb dL_law_805 rfl (lv_at hl 1 rfl) ?_
    refine lv_iload hx hb dL_law_806 (lv_at hl 6 rfl) ?_
    refine zz_iconst hx hb dL_law_808 ?_
    refine zz_iadd hx hb dL_law_809 ?_
    refine zz_sld hx hb hX hbl hbA hS (k := i + 1) (by omega) hL dL_law_810 ?_
    refine lv_aload_n hx hb dL_law_811 rfl (lv_at hl 1 rfl) ?_
    refine lv_iload hx hb dL_law_812 (lv_at hl 6 rfl) ?_
    refine zz_iconst hx hb dL_law_814 ?_
    refine zz_iadd hx hb dL_law_815 ?_
    refine zz_sld hx hb hX hbl hbA hS (k := i + 2) (by omega) hL dL_law_816 ?_
    refine zz_callVi_ch (As := [.int (iI (xz xs (i + 1))), .int (iI (xz xs (i + 2)))]) (rest := []) (L := [xOut tA o (zU og 0 zc), xOud tA od dg, xMod tA am ms mbef msav misv mpast mpm mthr mways mnds mtkp mline mlm mtxt mlen mat mwr merr mfail mcmd mcm, xObj ad hsv mal fai, xOff tA ad v shrt grp seen tp shr need ordr size, xScr tA K ad pos cmd vals txt len, xHis tA ad hc hn hs, xBef tA ad bt, xSav tA ad sv, xLin tA ad lnb lml lct]) (Lc := [xMod tA am ms mbef msav misv mpast mpm mthr mways mnds mtkp mline mlm mtxt mlen mat mwr merr mfail mcmd mcm]) (Lr := [xOut tA o (zU og 0 zc), xOud tA od dg, xObj ad hsv mal fai, xOff tA ad v shrt grp seen tp shr need ordr size, xScr tA K ad pos cmd vals txt len, xHis tA ad hc hn hs, xBef tA ad bt, xSav tA ad sv, xLin tA ad lnb lml lct]) (Lc' := fun u => [xMod tA am ms mbef msav misv mpast mpm u mways mnds mtkp mline mlm mtxt mlen mat mwr merr mfail mcmd mcm]) (Lf := fun u => [xOut tA o (zU og 0 zc), xOud tA od dg, xMod tA am ms mbef msav misv mpast mpm u mways mnds mtkp mline mlm mtxt mlen mat mwr merr mfail mcmd mcm, xObj ad hsv mal fai, xOff tA ad v shrt grp seen tp shr need ordr size, xScr tA K ad pos cmd vals txt len, xHis tA ad hc hn hs, xBef tA ad bt, xSav tA ad sv, xLin tA ad lnb lml lct]) (is := [2, 0, 1, 3, 4, 5, 6, 7, 8, 9]) (isF := [0, 1, 9, 2, 3, 4, 5, 6, 7, 8]) ⟨hx, hb, hml, hown, hts⟩ (c_X11_isLit l D tA (am 0) (am 1) (am 2) (am 3) (am 4) (am 5) (am 6) (am 7) (am 8) (am 9) (am 10) H.size ms mbef msav misv mpast mpm mthr mways mnds mtkp mline mlm mtxt mlen mat mwr merr mfail mcmd mcm (xz xs (i + 1)) (xz xs (i + 2)) (xz_in _ _) (xz_in _ _) ⟨hmv.1.1.1, hmv.1.1.2.1⟩ hmv.1.2.1 (by have h9 := hmv.1.1.2.2.2.2.2.2; omega)) (cwV 2 hts (gx_tbl gL_law_X11_isLit) rfl rfl rfl (by decide +kernel) ⟨Nat.le_of_ble_eq_true rfl, Nat.le_of_ble_eq_true rfl⟩) hK hP hD hS hA ⟨rfl, rfl, (by decide)⟩ ⟨fun _ => rfl, fun _ => rfl, (by decide)⟩ (ci := 13) (q0 := 0) rfl rfl rfl rfl rfl hl.1 (Nat.le_of_ble_eq_true rfl) dL_law_817 (by show _ + 0 ≤ 603072 ∧ _ + 0 ≤ 7207018; omega) ?_
    intro zb u H locs hmq hP hD hS
    obtain ⟨y_mthr, rfl⟩ : ∃ q, q = u := ⟨_, rfl⟩
    have hP : va_P D vwCl ([xOut tA o (zU og 0 zc), xOud tA od dg, xMod tA am ms mbef msav misv mpast mpm y_mthr mways mnds mtkp mline mlm mtxt mlen mat mwr merr mfail mcmd mcm, xObj ad hsv mal fai, xOff tA ad v shrt grp seen tp shr need ordr size, xScr tA K ad pos cmd vals txt len, xHis tA ad hc hn hs, xBef tA ad bt, xSav tA ad sv, xLin tA ad lnb lml lct]).flatten H := hP
    have hD : va_D (lwA s) ([xOut tA o (zU og 0 zc), xOud tA od dg, xMod tA am ms mbef msav misv mpast mpm y_mthr mways mnds mtkp mline mlm mtxt mlen mat mwr merr mfail mcmd mcm, xObj ad hsv mal fai, xOff tA ad v shrt grp seen tp shr need ordr size, xScr tA K ad pos cmd vals txt len, xHis tA ad hc hn hs, xBef tA ad bt, xSav tA ad sv, xLin tA ad lnb lml lct]).flatten := hD
    have mqz : zb = 0 ∨ zb = 1 := hmq.1
    have mq : (y_mthr = 1 ∧ ¬ inP (ms 0) (xz xs (i + 1)) (xz xs (i + 2))) ∨ (inP (ms 0) (xz xs (i + 1)) (xz xs (i + 2)) ∧ ((y_mthr = 2 ∧ lgM ms (xz xs (i + 1)) (xz xs (i + 2)) 0 = 0) ∨ (y_mthr = 0 ∧ lgM ms (xz xs (i + 1)) (xz xs (i + 2)) 0 ≠ 0 ∧ ((zb = 1 ∧ 0 < lgM ms (xz xs (i + 1)) (xz xs (i + 2)) 0 ∧ lgM ms (xz xs (i + 1)) (xz xs (i + 2)) 1 ≤ ms 3) ∨ (zb = 0 ∧ ¬ (0 < lgM ms (xz xs (i + 1)) (xz xs (i + 2)) 0 ∧ lgM ms (xz xs (i + 1)) (xz xs (i + 2)) 1 ≤ ms 3)))))) := hmq.2
    clear hmq
    refine lv_istore (lv' := [(7, .int (iI zb)), (6, .int (iI z6)), (0, .ref b), (1, .ref (ad 0)), (2, .ref (am 0)), (3, .ref o), (4, .ref od), (5, .int (iI i))]) hx hb dL_law_820 hl (by decide) rfl (fun ls hl => ?_)
    have hTV : y_mthr = 0 ∧ zb = zc := by
      rw [e0, e3] at mq
      obtain ⟨kp, p, p0, p1, p2, p3, p4⟩ := kq
      have q := rel_at hch hr kp p0 p1 p2 p3
      rcases mq with ⟨-, m⟩ | ⟨-, ⟨-, m⟩ | ⟨m0, m1, m2⟩⟩
      · exact absurd kp m
      · exfalso; omega
      · exact ⟨m0, by omega⟩
    have hT : y_mthr = z6 := hTV.1.trans hz6.symm
    have hI2 : LInv (n + 1) v hs sv pos cmd vals txt len hc hn hsv mal fai lnb lct ms msav misv mpast mpm mline mlm mtxt mlen merr mfail mcmd := by
      exact LI_q hn9 hI
    refine lv_aload_n hx hb dL_law_822 rfl (lv_at hl 4 rfl) ?_
    refine zz_callVi_ch (As := []) (rest := []) (L := [xOut tA o (zU og 0 zc), xOud tA od dg, xMod tA am ms mbef msav misv mpast mpm y_mthr mways mnds mtkp mline mlm mtxt mlen mat mwr merr mfail mcmd mcm, xObj ad hsv mal fai, xOff tA ad v shrt grp seen tp shr need ordr size, xScr tA K ad pos cmd vals txt len, xHis tA ad hc hn hs, xBef tA ad bt, xSav tA ad sv, xLin tA ad lnb lml lct]) (Lc := [xMod tA am ms mbef msav misv mpast mpm y_mthr mways mnds mtkp mline mlm mtxt mlen mat mwr merr mfail mcmd mcm]) (Lr := [xOut tA o (zU og 0 zc), xOud tA od dg, xObj ad hsv mal fai, xOff tA ad v shrt grp seen tp shr need ordr size, xScr tA K ad pos cmd vals txt len, xHis tA ad hc hn hs, xBef tA ad bt, xSav tA ad sv, xLin tA ad lnb lml lct]) (Lc' := fun u => [xMod tA am ms mbef msav misv mpast mpm y_mthr mways mnds mtkp mline mlm mtxt mlen mat mwr merr mfail mcmd mcm]) (Lf := fun u => [xOut tA o (zU og 0 zc), xOud tA od dg, xMod tA am ms mbef msav misv mpast mpm y_mthr mways mnds mtkp mline mlm mtxt mlen mat mwr merr mfail mcmd mcm, xObj ad hsv mal fai, xOff tA ad v shrt grp seen tp shr need ordr size, xScr tA K ad pos cmd vals txt len, xHis tA ad hc hn hs, xBef tA ad bt, xSav tA ad sv, xLin tA ad lnb lml lct]) (is := [2, 0, 1, 3, 4, 5, 6, 7, 8, 9]) (isF := [0, 1, 9, 2, 3, 4, 5, 6, 7, 8]) ⟨hx, hb, hml, hown, hts⟩ (c_X11_thrown l D tA (am 0) (am 1) (am 2) (am 3) (am 4) (am 5) (am 6) (am 7) (am 8) (am 9) (am 10) H.size ms mbef msav misv mpast mpm y_mthr mways mnds mtkp mline mlm mtxt mlen mat mwr merr mfail mcmd mcm) (cwV 0 hts (gx_tbl gL_law_X11_thrown) rfl rfl rfl (by decide +kernel) ⟨Nat.le_of_ble_eq_true rfl, Nat.le_of_ble_eq_true rfl⟩) hK hP hD hS hA ⟨rfl, rfl, (by decide)⟩ ⟨fun _ => rfl, fun _ => rfl, (by decide)⟩ (ci := 13) (q0 := 0) rfl rfl rfl rfl rfl hl.1 (Nat.le_of_ble_eq_true rfl) dL_law_823 (by show _ + 0 ≤ 603072 ∧ _ + 0 ≤ 7207018; omega) ?_
    intro zt u H locs hzt hP hD hS
    have hP : va_P D vwCl ([xOut tA o (zU og 0 zc), xOud tA od dg, xMod tA am ms mbef msav misv mpast mpm y_mthr mways mnds mtkp mline mlm mtxt mlen mat mwr merr mfail mcmd mcm, xObj ad hsv mal fai, xOff tA ad v shrt grp seen tp shr need ordr size, xScr tA K ad pos cmd vals txt len, xHis tA ad hc hn hs, xBef tA ad bt, xSav tA ad sv, xLin tA ad lnb lml lct]).flatten H := hP
    have hD : va_D (lwA s) ([xOut tA o (zU og 0 zc), xOud tA od dg, xMod tA am ms mbef msav misv mpast mpm y_mthr mways mnds mtkp mline mlm mtxt mlen mat mwr merr mfail mcmd mcm, xObj ad hsv mal fai, xOff tA ad v shrt grp seen tp shr need ordr size, xScr tA K ad pos cmd vals txt len, xHis tA ad hc hn hs, xBef tA ad bt, xSav tA ad sv, xLin tA ad lnb lml lct]).flatten := hD
    have hzt : zt = y_mthr := hzt
    have hz69 : 0 ≤ z6 ∧ z6 ≤ 9 := by omega
    refine lv_iload hx hb dL_law_826 (lv_at hl 1 rfl) ?_
    refine zz_icmp_eq (tgt := 833) hx hb dL_law_828 (by decide) (by omega) (by omega) (fun _ => ?_) (fun c9 => absurd (by omega) c9)
    refine lv_iload hx hb dL_law_833 (lv_at hl 1 rfl) ?_
    refine zz_if_ne (tgt := 857) hx hb dL_law_835 (by decide) (by omega) (fun c9 => absurd hz6 c9) (fun _ => ?_)
    refine lv_aload_n hx hb dL_law_838 rfl (lv_at hl 5 rfl) ?_
    refine zz_iconst hx hb dL_law_839 ?_
    refine zz_lald hx hb hK hP 0 rfl (by decide) (by decide) dL_law_840 ?_
    rw [zU_same]
    refine lv_iload hx hb dL_law_841 (lv_at hl 0 rfl) ?_
    have hb01 : zc = 0 ∨ zc = 1 := by (obtain ⟨-, p9, -, -, -, -, h⟩ := kq; omega)
    refine zz_if_eq (tgt := 850) hx hb dL_law_843 (by decide) (by omega) (fun c9 => ?_) (fun c9 => ?_)
    · refine zz_lconst0 hx hb dL_law_850 ?_
      rw [show zc = 0 by omega]
      refine zz_lcmp hx hb dL_law_851 (by omega) (by omega) ?_
      rw [cmpZ_s]
      refine zz_if_eq (tgt := 857) hx hb dL_law_852 (by decide) (by decide) (fun _ => ?_) (fun c9 => absurd rfl c9)
      refine lv_goto (tgt := 2917) hx hb dL_law_857 (by decide) ?_
      refine W.widen (k := k9 + 20) (n := n9 + 200) (by omega) (by omega) ?_
      exact kk v shrt grp seen tp shr need ordr size pos cmd vals txt len hc hn hs bt sv hsv mal fai lnb lml lct ms mbef msav misv mpast mpm y_mthr mways mnds mtkp mline mlm mtxt mlen mat mwr merr mfail mcmd mcm (zU og 0 zc) dg _ _ _ hI2 hP hD hS (lv_sub hl [2, 3, 4, 5, 6, 7] rfl)
    · refine zz_lconst1 hx hb dL_law_846 ?_
      refine lv_goto (tgt := 851) hx hb dL_law_847 (by decide) ?_
      rw [show zc = 1 by omega]
      refine zz_lcmp hx hb dL_law_851 (by omega) (by omega) ?_
      rw [cmpZ_s]
      refine zz_if_eq (tgt := 857) hx hb dL_law_852 (by decide) (by decide) (fun _ => ?_) (fun c9 => absurd rfl c9)
      refine lv_goto (tgt := 2917) hx hb dL_law_857 (by decide) ?_
      refine W.widen (k := k9 + 20) (n := n9 + 200) (by omega) (by omega) ?_
      exact kk v shrt grp seen tp shr need ordr size pos cmd vals txt len hc hn hs bt sv hsv mal fai lnb lml lct ms mbef msav misv mpast mpm y_mthr mways mnds mtkp mline mlm mtxt mlen mat mwr merr mfail mcmd mcm (zU og 0 zc) dg _ _ _ hI2 hP hD hS (lv_sub hl [2, 3, 4, 5, 6, 7] rfl)
  · obtain ⟨kx, rfl⟩ : ∃ q, q = u := ⟨_, rfl⟩
    have kq : (kx = 1 ∧ ¬ inP (v 0 0) (xz xs (i + 1)) (xz xs (i + 2))) ∨ (kx = 4 ∧ inP (v 0 0) (xz xs (i + 1)) (xz xs (i + 2)) ∧ ¬ hasL (v 1 0) (v 2) (v 3) (xz xs (i + 1)) (xz xs (i + 2))) := hq.1
    have kc : (kx = 1 ∧ z6 = 1) ∨ (kx = 4 ∧ z6 = 2) := hq.2
    have hP : va_P D vwCl ([xOut tA o og, xOud tA od dg, xMod tA am ms mbef msav misv mpast mpm mthr mways mnds mtkp mline mlm mtxt mlen mat mwr merr mfail mcmd mcm, xObj ad hsv mal fai, xOff tA ad v shrt grp seen tp shr need ordr size, xScr tA K ad pos cmd vals txt len, xHis tA ad hc hn hs, xBef tA ad bt, xSav tA ad sv, xLin tA ad lnb lml lct]).flatten H := hP
    have hD : va_D (lwA s) ([xOut tA o og, xOud tA od dg, xMod tA am ms mbef msav misv mpast mpm mthr mways mnds mtkp mline mlm mtxt mlen mat mwr merr mfail mcmd mcm, xObj ad hsv mal fai, xOff tA ad v shrt grp seen tp shr need ordr size, xScr tA K ad pos cmd vals txt len, xHis tA ad hc hn hs, xBef tA ad bt, xSav tA ad sv, xLin tA ad lnb lml lct]).flatten := hD
    refine lv_istore (lv' := [(6, .int (iI z6)), (0, .ref b), (1, .ref (ad 0)), (2, .ref (am 0)), (3, .ref o), (4, .ref od), (5, .int (iI i))]) hx hb dL_law_802 hl (by decide) rfl (fun ls hl => ?_)
    refine lv_aload_n hx hb dL_law_804 rfl (lv_at hl 3 rfl) ?_
    refine lv_aload_n hx hb dL_law_805 rfl (lv_at hl 1 rfl) ?_
    refine lv_iload hx hb dL_law_806 (lv_at hl 6 rfl) ?_
    refine zz_iconst hx hb dL_law_808 ?_
    refine zz_iadd hx hb dL_law_809 ?_
    refine zz_sld hx hb hX hbl hbA hS (k := i + 1) (by omega) hL dL_law_810 ?_
    refine lv_aload_n hx hb dL_law_811 rfl (lv_at hl 1 rfl) ?_
    refine lv_iload hx hb dL_law_812 (lv_at hl 6 rfl) ?_
    refine zz_iconst hx hb dL_law_814 ?_
    refine zz_iadd hx hb dL_law_815 ?_
    refine zz_sld hx hb hX hbl hbA hS (k := i + 2) (by omega) hL dL_law_816 ?_
    refine zz_callVi_ch (As := [.int (iI (xz xs (i + 1))), .int (iI (xz xs (i + 2)))]) (rest := []) (L := [xOut tA o og, xOud tA od dg, xMod tA am ms mbef msav misv mpast mpm mthr mways mnds mtkp mline mlm mtxt mlen mat mwr merr mfail mcmd mcm, xObj ad hsv mal fai, xOff tA ad v shrt grp seen tp shr need ordr size, xScr tA K ad pos cmd vals txt len, xHis tA ad hc hn hs, xBef tA ad bt, xSav tA ad sv, xLin tA ad lnb lml lct]) (Lc := [xMod tA am ms mbef msav misv mpast mpm mthr mways mnds mtkp mline mlm mtxt mlen mat mwr merr mfail mcmd mcm]) (Lr := [xOut tA o og, xOud tA od dg, xObj ad hsv mal fai, xOff tA ad v shrt grp seen tp shr need ordr size, xScr tA K ad pos cmd vals txt len, xHis tA ad hc hn hs, xBef tA ad bt, xSav tA ad sv, xLin tA ad lnb lml lct]) (Lc' := fun u => [xMod tA am ms mbef msav misv mpast mpm u mways mnds mtkp mline mlm mtxt mlen mat mwr merr mfail mcmd mcm]) (Lf := fun u => [xOut tA o og, xOud tA od dg, xMod tA am ms mbef msav misv mpast mpm u mways mnds mtkp mline mlm mtxt mlen mat mwr merr mfail mcmd mcm, xObj ad hsv mal fai, xOff tA ad v shrt grp seen tp shr need ordr size, xScr tA K ad pos cmd vals txt len, xHis tA ad hc hn hs, xBef tA ad bt, xSav tA ad sv, xLin tA ad lnb lml lct]) (is := [2, 0, 1, 3, 4, 5, 6, 7, 8, 9]) (isF := [0, 1, 9, 2, 3, 4, 5, 6, 7, 8]) ⟨hx, hb, hml, hown, hts⟩ (c_X11_isLit l D tA (am 0) (am 1) (am 2) (am 3) (am 4) (am 5) (am 6) (am 7) (am 8) (am 9) (am 10) H.size ms mbef msav misv mpast mpm mthr mways mnds mtkp mline mlm mtxt mlen mat mwr merr mfail mcmd mcm (xz xs (i + 1)) (xz xs (i + 2)) (xz_in _ _) (xz_in _ _) ⟨hmv.1.1.1, hmv.1.1.2.1⟩ hmv.1.2.1 (by have h9 := hmv.1.1.2.2.2.2.2.2; omega)) (cwV 2 hts (gx_tbl gL_law_X11_isLit) rfl rfl rfl (by decide +kernel) ⟨Nat.le_of_ble_eq_true rfl, Nat.le_of_ble_eq_true rfl⟩) hK hP hD hS hA ⟨rfl, rfl, (by decide)⟩ ⟨fun _ => rfl, fun _ => rfl, (by decide)⟩ (ci := 13) (q0 := 0) rfl rfl rfl rfl rfl hl.1 (Nat.le_of_ble_eq_true rfl) dL_law_817 (by show _ + 0 ≤ 603072 ∧ _ + 0 ≤ 7207018; omega) ?_
    intro zb u H locs hmq hP hD hS
    obtain ⟨y_mthr, rfl⟩ : ∃ q, q = u := ⟨_, rfl⟩
    have hP : va_P D vwCl ([xOut tA o og, xOud tA od dg, xMod tA am ms mbef msav misv mpast mpm y_mthr mways mnds mtkp mline mlm mtxt mlen mat mwr merr mfail mcmd mcm, xObj ad hsv mal fai, xOff tA ad v shrt grp seen tp shr need ordr size, xScr tA K ad pos cmd vals txt len, xHis tA ad hc hn hs, xBef tA ad bt, xSav tA ad sv, xLin tA ad lnb lml lct]).flatten H := hP
    have hD : va_D (lwA s) ([xOut tA o og, xOud tA od dg, xMod tA am ms mbef msav misv mpast mpm y_mthr mways mnds mtkp mline mlm mtxt mlen mat mwr merr mfail mcmd mcm, xObj ad hsv mal fai, xOff tA ad v shrt grp seen tp shr need ordr size, xScr tA K ad pos cmd vals txt len, xHis tA ad hc hn hs, xBef tA ad bt, xSav tA ad sv, xLin tA ad lnb lml lct]).flatten := hD
    have mqz : zb = 0 ∨ zb = 1 := hmq.1
    have mq : (y_mthr = 1 ∧ ¬ inP (ms 0) (xz xs (i + 1)) (xz xs (i + 2))) ∨ (inP (ms 0) (xz xs (i + 1)) (xz xs (i + 2)) ∧ ((y_mthr = 2 ∧ lgM ms (xz xs (i + 1)) (xz xs (i + 2)) 0 = 0) ∨ (y_mthr = 0 ∧ lgM ms (xz xs (i + 1)) (xz xs (i + 2)) 0 ≠ 0 ∧ ((zb = 1 ∧ 0 < lgM ms (xz xs (i + 1)) (xz xs (i + 2)) 0 ∧ lgM ms (xz xs (i + 1)) (xz xs (i + 2)) 1 ≤ ms 3) ∨ (zb = 0 ∧ ¬ (0 < lgM ms (xz xs (i + 1)) (xz xs (i + 2)) 0 ∧ lgM ms (xz xs (i + 1)) (xz xs (i + 2)) 1 ≤ ms 3)))))) := hmq.2
    clear hmq
    refine lv_istore (lv' := [(7, .int (iI zb)), (6, .int (iI z6)), (0, .ref b), (1, .ref (ad 0)), (2, .ref (am 0)), (3, .ref o), (4, .ref od), (5, .int (iI i))]) hx hb dL_law_820 hl (by decide) rfl (fun ls hl => ?_)
    have hT : y_mthr = z6 := by
      exact x_leg3 hch hr kq kc mq
    have hI2 : LInv (n + 1) v hs sv pos cmd vals txt len hc hn hsv mal fai lnb lct ms msav misv mpast mpm mline mlm mtxt mlen merr mfail mcmd := by
      exact LI_q hn9 hI
    refine lv_aload_n hx hb dL_law_822 rfl (lv_at hl 4 rfl) ?_
    refine zz_callVi_ch (As := []) (rest := []) (L := [xOut tA o og, xOud tA od dg, xMod tA am ms mbef msav misv mpast mpm y_mthr mways mnds mtkp mline mlm mtxt mlen mat mwr merr mfail mcmd mcm, xObj ad hsv mal fai, xOff tA ad v shrt grp seen tp shr need ordr size, xScr tA K ad pos cmd vals txt len, xHis tA ad hc hn hs, xBef tA ad bt, xSav tA ad sv, xLin tA ad lnb lml lct]) (Lc := [xMod tA am ms mbef msav misv mpast mpm y_mthr mways mnds mtkp mline mlm mtxt mlen mat mwr merr mfail mcmd mcm]) (Lr := [xOut tA o og, xOud tA od dg, xObj ad hsv mal fai, xOff tA ad v shrt grp seen tp shr need ordr size, xScr tA K ad pos cmd vals txt len, xHis tA ad hc hn hs, xBef tA ad bt, xSav tA ad sv, xLin tA ad lnb lml lct]) (Lc' := fun u => [xMod tA am ms mbef msav misv mpast mpm y_mthr mways mnds mtkp mline mlm mtxt mlen mat mwr merr mfail mcmd mcm]) (Lf := fun u => [xOut tA o og, xOud tA od dg, xMod tA am ms mbef msav misv mpast mpm y_mthr mways mnds mtkp mline mlm mtxt mlen mat mwr merr mfail mcmd mcm, xObj ad hsv mal fai, xOff tA ad v shrt grp seen tp shr need ordr size, xScr tA K ad pos cmd vals txt len, xHis tA ad hc hn hs, xBef tA ad bt, xSav tA ad sv, xLin tA ad lnb lml lct]) (is := [2, 0, 1, 3, 4, 5, 6, 7, 8, 9]) (isF := [0, 1, 9, 2, 3, 4, 5, 6, 7, 8]) ⟨hx, hb, hml, hown, hts⟩ (c_X11_thrown l D tA (am 0) (am 1) (am 2) (am 3) (am 4) (am 5) (am 6) (am 7) (am 8) (am 9) (am 10) H.size ms mbef msav misv mpast mpm y_mthr mways mnds mtkp mline mlm mtxt mlen mat mwr merr mfail mcmd mcm) (cwV 0 hts (gx_tbl gL_law_X11_thrown) rfl rfl rfl (by decide +kernel) ⟨Nat.le_of_ble_eq_true rfl, Nat.le_of_ble_eq_true rfl⟩) hK hP hD hS hA ⟨rfl, rfl, (by decide)⟩ ⟨fun _ => rfl, fun _ => rfl, (by decide)⟩ (ci := 13) (q0 := 0) rfl rfl rfl rfl rfl hl.1 (Nat.le_of_ble_eq_true rfl) dL_law_823 (by show _ + 0 ≤ 603072 ∧ _ + 0 ≤ 7207018; omega) ?_
    intro zt u H locs hzt hP hD hS
    have hP : va_P D vwCl ([xOut tA o og, xOud tA od dg, xMod tA am ms mbef msav misv mpast mpm y_mthr mways mnds mtkp mline mlm mtxt mlen mat mwr merr mfail mcmd mcm, xObj ad hsv mal fai, xOff tA ad v shrt grp seen tp shr need ordr size, xScr tA K ad pos cmd vals txt len, xHis tA ad hc hn hs, xBef tA ad bt, xSav tA ad sv, xLin tA ad lnb lml lct]).flatten H := hP
    have hD : va_D (lwA s) ([xOut tA o og, xOud tA od dg, xMod tA am ms mbef msav misv mpast mpm y_mthr mways mnds mtkp mline mlm mtxt mlen mat mwr merr mfail mcmd mcm, xObj ad hsv mal fai, xOff tA ad v shrt grp seen tp shr need ordr size, xScr tA K ad pos cmd vals txt len, xHis tA ad hc hn hs, xBef tA ad bt, xSav tA ad sv, xLin tA ad lnb lml lct]).flatten := hD
    have hzt : zt = y_mthr := hzt
    have hz69 : 0 ≤ z6 ∧ z6 ≤ 9 := by omega
    refine lv_iload hx hb dL_law_826 (lv_at hl 1 rfl) ?_
    refine zz_icmp_eq (tgt := 833) hx hb dL_law_828 (by decide) (by omega) (by omega) (fun _ => ?_) (fun c9 => absurd (by omega) c9)
    refine lv_iload hx hb dL_law_833 (lv_at hl 1 rfl) ?_
    refine zz_if_ne (tgt := 857) hx hb dL_law_835 (by decide) (by omega) (fun _ => ?_) (fun c9 => absurd c9 (by omega))
    refine lv_goto (tgt := 2917) hx hb dL_law_857 (by decide) ?_
    refine W.widen (k := k9 + 20) (n := n9 + 200) (by omega) (by omega) ?_
    exact kk v shrt grp seen tp shr need ordr size pos cmd vals txt len hc hn hs bt sv hsv mal fai lnb lml lct ms mbef msav misv mpast mpm y_mthr mways mnds mtkp mline mlm mtxt mlen mat mwr merr mfail mcmd mcm og dg _ _ _ hI2 hP hD hS (lv_sub hl [2, 3, 4, 5, 6, 7] rfl)

set_option maxHeartbeats 8000000 in
set_option maxRecDepth 100000 in
theorem law_c10 {p : Program} {l : Launch} (hst : l.stackTraces = false) {e : Env} {s : State} {m : MethodId} {below : List Frame} {meth : Method} {c : Code} {D : va_G} {tA : Nat → ClassId} {K : Nat → Nat} {b L : Nat} {xs : Nat → Int32} (hL : L ≤ 2560) (C0 : lw_At p s m meth c b L xs) (hK : zK D tA s) (hZ : zT K (lwA s) s) {ad am : Nat → Nat} {o od : Nat} {i n : Int} (hi : 0 ≤ i ∧ i + 5 ≤ L) (hn9 : n < 600) {k9 n9 : Nat} (hk9 : k9 + 20 ≤ 603072 ∧ n9 + 200 ≤ 7207018) {v : Nat → Int → Int} {shrt : Int → Int} {grp : Int → Int} {seen : Int → Int} {tp : Int → Int} {shr : Int → Int} {need : Int → Int} {ordr : Int → Int} {size : Int} {pos : Int} {cmd : Int} {vals : Int → Int} {txt : Int → Int} {len : Int} {hc : Int} {hn : Int} {hs : Nat → Nat → Int → Int} {bt : Nat → Int → Int} {sv : Nat → Int → Int} {hsv : Int} {mal : Int} {fai : Int} {lnb : Int → Int} {lml : Int} {lct : Int} {ms : Int → Int} {mbef : Int → Int} {msav : Int → Int} {misv : Int} {mpast : Int → Int} {mpm : Int} {mthr : Int} {mways : Int → Int} {mnds : Int → Int} {mtkp : Int → Int} {mline : Int → Int} {mlm : Int} {mtxt : Int → Int} {mlen : Int} {mat : Int} {mwr : Int} {merr : Int} {mfail : Int} {mcmd : Int → Int} {mcm : Int} {og : Int → Int} {dg : Nat → UInt64} {H : Heap} {locs : List Loc} {ls : Array Slot} (hI : LInv n v hs sv pos cmd vals txt len hc hn hsv mal fai lnb lct ms msav misv mpast mpm mline mlm mtxt mlen merr mfail mcmd) (hP : va_P D vwCl (xW tA K ad am o od v shrt grp seen tp shr need ordr size pos cmd vals txt len hc hn hs bt sv hsv mal fai lnb lml lct ms mbef msav misv mpast mpm mthr mways mnds mtkp mline mlm mtxt mlen mat mwr merr mfail mcmd mcm og dg).flatten H) (hD : va_D (lwA s) (xW tA K ad am o od v shrt grp seen tp shr need ordr size pos cmd vals txt len hc hn hs bt sv hsv mal fai lnb lml lct ms mbef msav misv mpast mpm mthr mways mnds mtkp mline mlm mtxt mlen mat mwr merr mfail mcmd mcm og dg).flatten) (hS : va_S (lwA s) s.heap H locs) (hl : lv_has ls 9 [(0, .ref b), (1, .ref (ad 0)), (2, .ref (am 0)), (3, .ref o), (4, .ref od), (5, .int (iI i))]) (kk : lwK p l e s m below meth c D tA K ad am o od b i n k9 n9) : W p l e room_1 s m #[Value.ref b] below meth c H locs k9 n9 (lw_Z below #[Value.ref b] s) (F0 m 860 ls []) := by
  obtain ⟨hx, hb, hrt, hml, hown, hts, hX, hbl, hlocks, hgv⟩ := id C0
  have hts := lw_more hts
  have hA : ∀ q : Nat, s.heap.size ≤ q → lwA s q := fun _ h => h
  have hbA : ¬ lwA s b := Nat.not_le.mpr hbl
  have hCn := hZ.2.2.2
  obtain ⟨⟨n0, n6, l0, l6, ln⟩, hLS, ⟨hhn, hhc, hpm, hhi⟩, ⟨hsv01, hmis, hsvv, hsvr⟩, ⟨hlen, htxt, htx⟩, ⟨hlm, hln, hl0, hl16, hlb⟩, ⟨her, hfa, hm1, hm2, hf1, hf2⟩, ⟨hcd0, hcd1, hps0, hps1, hva⟩, hcr⟩ := id hI
  have hv := hLS.1
  have hr := hLS.2
  have hch : ChS v := hv.1
  have hu9 : ChW v := hv.2.1
  obtain ⟨-, -, hcc, hsp, hmo, hfog, hrg, hni, hfd, hmt9, hln9, hsum⟩ := SVk_out (show SVk _ _ (etS v) from hv)
  have hmv := rel_MV hv hr (by omega) (by omega)
  obtain ⟨e0, e1, e2, e3, e4, e5, e6⟩ := id hr.1
  have eE := rel_sE hch hr
  have hmon : ∀ j, 0 ≤ j → j < v 7 0 → 0 ≤ v 10 j ∧ v 10 j ≤ 6000000 := fun j j0 j1 => by have := hmo j j0 j1; omega
  have hlnd : ∀ j, 0 ≤ j → j < v 7 0 → (0 ≤ v 11 j ∧ v 11 j ≤ 600) ∧ (0 ≤ v 12 j ∧ v 12 j ≤ 600) := fun j j0 j1 => by have := hln9 j j0 j1; omega
  refine lv_aload_n hx hb dL_law_860 rfl (lv_at hl 1 rfl) ?_
  refine lv_aload_n hx hb dL_law_861 rfl (lv_at hl 0 rfl) ?_
  refine lv_iload hx hb dL_law_862 (lv_at hl 5 rfl) ?_
  refine zz_iconst hx hb dL_law_864 ?_
  refine zz_iadd hx hb dL_law_865 ?_
  refine zz_sld hx hb hX hbl hbA hS (k := i + 1) (by omega) hL dL_law_866 ?_
  refine lv_aload_n hx hb dL_law_867 rfl (lv_at hl 3 rfl) ?_
  refine zh_callSi_ch (As := [.ref (ad 0), .int (iI (xz xs (i + 1))), .ref o]) (rest := []) (L := [xOut tA o og, xOud tA od dg, xMod tA am ms mbef msav misv mpast mpm mthr mways mnds mtkp mline mlm mtxt mlen mat mwr merr mfail mcmd mcm, xObj ad hsv mal fai, xOff tA ad v shrt grp seen tp shr need ordr size, xScr tA K ad pos cmd vals txt len, xHis tA ad hc hn hs, xBef tA ad bt, xSav tA ad sv, xLin tA ad lnb lml lct]) (Lc := [xOut tA o og, xObj ad hsv mal fai, xOff tA ad v shrt grp seen tp shr need ordr size]) (Lr := [xOud tA od dg, xMod tA am ms mbef msav misv mpast mpm mthr mways mnds mtkp mline mlm mtxt mlen mat mwr merr mfail mcmd mcm, xScr tA K ad pos cmd vals txt len, xHis tA ad hc hn hs, xBef tA ad bt, xSav tA ad sv, xLin tA ad lnb lml lct]) (Lc' := fun u => Sum.elim (fun u => [xOut tA o (zU og 0 u.1), xObj ad hsv mal fai, xOff tA ad v shrt grp seen tp shr need ordr size]) (fun u => [xOut tA o og, xObj ad hsv mal fai, xOff tA ad v shrt grp seen tp shr need ordr size]) u) (Lf := fun u => Sum.elim (fun u => [xOut tA o (zU og 0 u.1), xOud tA od dg, xMod tA am ms mbef msav misv mpast mpm mthr mways mnds mtkp mline mlm mtxt mlen mat mwr merr mfail mcmd mcm, xObj ad hsv mal fai, xOff tA ad v shrt grp seen tp shr need ordr size, xScr tA K ad pos cmd vals txt len, xHis tA ad hc hn hs, xBef tA ad bt, xSav tA ad sv, xLin tA ad lnb lml lct]) (fun u => [xOut tA o og, xOud tA od dg, xMod tA am ms mbef msav misv mpast mpm mthr mways mnds mtkp mline mlm mtxt mlen mat mwr merr mfail mcmd mcm, xObj ad hsv mal fai, xOff tA ad v shrt grp seen tp shr need ordr size, xScr tA K ad pos cmd vals txt len, xHis tA ad hc hn hs, xBef tA ad bt, xSav tA ad sv, xLin tA ad lnb lml lct]) u) (is := [0, 3, 4, 1, 2, 5, 6, 7, 8, 9]) (isF := [7, 0, 1, 8, 9, 2, 3, 4, 5, 6]) ⟨hx, hb, hml, hown, hts⟩ (c_L_lowerPortAt l hst K D tA (ad 0) (ad 1) (ad 2) (ad 3) (ad 4) (ad 5) (ad 6) (ad 7) (ad 8) (ad 9) (ad 10) (ad 11) (ad 12) (ad 13) (ad 14) (ad 15) (ad 16) (ad 17) (ad 18) (ad 19) (ad 20) (ad 21) (ad 22) (ad 23) (ad 24) (ad 27) (ad 146) (ad 133) (ad 159) o H.size og (v 0 0) (v 1 0) (v 2) (v 3) (v 4) (v 5) (v 6) (v 7 0) (v 8) (v 9) (v 10) (v 11) (v 12) (v 13 0) (v 14 0) (v 15 0) (v 16 0) (v 17 0) (v 18 0) shrt grp seen tp shr need ordr size hsv mal fai  (xz xs (i + 1)) (xz_in _ _) hch) (vx_cwSW 3 hts (gx_wr gL_law_L_lowerPortAt) rfl rfl rfl (by decide +kernel) ⟨Nat.le_of_ble_eq_true rfl, Nat.le_of_ble_eq_true rfl⟩) hK hP hD hS hA hZ ⟨rfl, rfl, (by decide)⟩ ⟨fun u => by cases u <;> rfl, fun u => by cases u <;> rfl, (by decide)⟩ rfl rfl hl.1 (Nat.le_of_ble_eq_true rfl) dL_law_868 (by show k9 + 1 ≤ 603072 ∧ n9 + 6 ≤ 7207018; omega) ?_
  intro z6 u H locs hq hP hD hS
  rcases u with ⟨zc, u⟩ | u
  · skip
    obtain ⟨hz6, kq, hzr⟩ := hq
    have kq : 0 ≤ (xz xs (i + 1)) ∧ (xz xs (i + 1)) < (v 1 0) ∧ zc = (v 2) (xz xs (i + 1)) := kq
    have hz6 : z6 = 0 := hz6
    have hzr : -2147483648 ≤ zc ∧ zc ≤ 2147483647 := hzr
    have hP : va_P D vwCl ([xOut tA o (zU og 0 zc), xOud tA od dg, xMod tA am ms mbef msav misv mpast mpm mthr mways mnds mtkp mline mlm mtxt mlen mat mwr merr mfail mcmd mcm, xObj ad hsv mal fai, xOff tA ad v shrt grp seen tp shr need ordr size, xScr tA K ad pos cmd vals txt len, xHis tA ad hc hn hs, xBef tA ad bt, xSav tA ad sv, xLin tA ad lnb lml lct]).flatten H := hP
    have hD : va_D (lwA s) ([xOut tA o (zU og 0 zc), xOud tA od dg, xMod tA am ms mbef msav misv mpast mpm mthr mways mnds mtkp mline mlm mtxt mlen mat mwr merr mfail mcmd mcm, xObj ad hsv mal fai, xOff tA ad v shrt grp seen tp shr need ordr size, xScr tA K ad pos cmd vals txt len, xHis tA ad hc hn hs, xBef tA ad bt, xSav tA ad sv, xLin tA ad lnb lml lct]).flatten := hD
    refine lv_istore (lv' := [(6, .int (iI z6)), (0, .ref b), (1, .ref (ad 0)), (2, .ref (am 0)), (3, .ref o), (4, .ref od), (5, .int (iI i))]) hx hb dL_law_871 hl (by decide) rfl (fun ls hl => ?_)
    refine lv_aload_n hx hb dL_law_873 rfl (lv_at hl 3 rfl) ?_
    refine lv_aload_n hx hb dL_law_874 rfl (lv_at hl 1 rfl) ?_
    refine lv_iload hx hb dL_law_875 (lv_at hl 6 rfl) ?_
    refine zz_iconst hx hb dL_law_877 ?_
    refine zz_iadd hx hb dL_law_878 ?_
    refine zz_sld hx hb hX hbl hbA hS (k := i + 1) (by omega) hL dL_law_879 ?_
    refine zz_callVi_ch (As := [.int (iI (xz xs (i + 1)))]) (rest := []) (L := [xOut tA o (zU og 0 zc), xOud tA od dg, xMod tA am ms mbef msav misv mpast mpm mthr mways mnds mtkp mline mlm mtxt mlen mat mwr merr mfail mcmd mcm, xObj ad hsv mal fai, xOff tA ad v shrt grp seen tp shr need ordr size, xScr tA K ad pos cmd vals txt len, xHis tA ad hc hn hs, xBef tA ad bt, xSav tA ad sv, xLin tA ad lnb lml lct]) (Lc := [xMod tA am ms mbef msav misv mpast mpm mthr mways mnds mtkp mline mlm mtxt mlen mat mwr merr mfail mcmd mcm]) (Lr := [xOut tA o (zU og 0 zc), xOud tA od dg, xObj ad hsv mal fai, xOff tA ad v shrt grp seen tp shr need ordr size, xScr tA K ad pos cmd vals txt len, xHis tA ad hc hn hs, xBef tA ad bt, xSav tA ad sv, xLin tA ad lnb lml lct]) (Lc' := fun u => [xMod tA am ms mbef msav misv mpast mpm u mways mnds mtkp mline mlm mtxt mlen mat mwr merr mfail mcmd mcm]) (Lf := fun u => [xOut tA o (zU og 0 zc), xOud tA od dg, xMod tA am ms mbef msav misv mpast mpm u mways mnds mtkp mline mlm mtxt mlen mat mwr merr mfail mcmd mcm, xObj ad hsv mal fai, xOff tA ad v shrt grp seen tp shr need ordr size, xScr tA K ad pos cmd vals txt len, xHis tA ad hc hn hs, xBef tA ad bt, xSav tA ad sv, xLin tA ad lnb lml lct]) (is := [2, 0, 1, 3, 4, 5, 6, 7, 8, 9]) (isF := [0, 1, 9, 2, 3, 4, 5, 6, 7, 8]) ⟨hx, hb, hml, hown, hts⟩ (c_X11_lowerPortAt l D tA (am 0) (am 1) (am 2) (am 3) (am 4) (am 5) (am 6) (am 7) (am 8) (am 9) (am 10) H.size ms mbef msav misv mpast mpm mthr mways mnds mtkp mline mlm mtxt mlen mat mwr merr mfail mcmd mcm (xz xs (i + 1)) (xz_in _ _) hmv.1.2.1) (cwV 1 hts (gx_tbl gL_law_X11_lowerPortAt) rfl rfl rfl (by decide +kernel) ⟨Nat.le_of_ble_eq_true rfl, Nat.le_of_ble_eq_true rfl⟩) hK hP hD hS hA ⟨rfl, rfl, (by decide)⟩ ⟨fun _ => rfl, fun _ => rfl, (by decide)⟩ (ci := 13) (q0 := 0) rfl rfl rfl rfl rfl hl.1 (Nat.le_of_ble_eq_true rfl) dL_law_880 (by show _ + 0 ≤ 603072 ∧ _ + 0 ≤ 7207018; omega) ?_
    intro zb u H locs hmq hP hD hS
    obtain ⟨y_mthr, rfl⟩ : ∃ q, q = u := ⟨_, rfl⟩
    have hP : va_P D vwCl ([xOut tA o (zU og 0 zc), xOud tA od dg, xMod tA am ms mbef msav misv mpast mpm y_mthr mways mnds mtkp mline mlm mtxt mlen mat mwr merr mfail mcmd mcm, xObj ad hsv mal fai, xOff tA ad v shrt grp seen tp shr need ordr size, xScr tA K ad pos cmd vals txt len, xHis tA ad hc hn hs, xBef tA ad bt, xSav tA ad sv, xLin tA ad lnb lml lct]).flatten H := hP
    have hD : va_D (lwA s) ([xOut tA o (zU og 0 zc), xOud tA od dg, xMod tA am ms mbef msav misv mpast mpm y_mthr mways mnds mtkp mline mlm mtxt mlen mat mwr merr mfail mcmd mcm, xObj ad hsv mal fai, xOff tA ad v shrt grp seen tp shr need ordr size, xScr tA K ad pos cmd vals txt len, xHis tA ad hc hn hs, xBef tA ad bt, xSav tA ad sv, xLin tA ad lnb lml lct]).flatten := hD
    have mq : ∃ c, LatK ms (xz xs (i + 1)) 100 c ∧ ((y_mthr = 1 ∧ c = -1) ∨ (y_mthr = 0 ∧ 0 ≤ c ∧ c < 100 ∧ zb = c / 10)) := hmq
    clear hmq
    refine lv_istore (lv' := [(7, .int (iI zb)), (6, .int (iI z6)), (0, .ref b), (1, .ref (ad 0)), (2, .ref (am 0)), (3, .ref o), (4, .ref od), (5, .int (iI i))]) hx hb dL_law_883 hl (by decide) rfl (fun ls hl => ?_)
    have hTV : y_mthr = 0 ∧ zb = zc := by
      obtain ⟨cq, m1, m2⟩ := mq
      rcases rel_latK hch hu9 hr m1 with ⟨q1, q2⟩ | ⟨q1, q2, q3, q4, q5, q6⟩
      · exact absurd ⟨kq.1, kq.2.1⟩ q2
      · have := kq.2.2
        omega
    have hT : y_mthr = z6 := hTV.1.trans hz6.symm
    have hI2 : LInv (n + 1) v hs sv pos cmd vals txt len hc hn hsv mal fai lnb lct ms msav misv mpast mpm mline mlm mtxt mlen merr mfail mcmd := by
      exact LI_q hn9 hI
    refine lv_aload_n hx hb dL_law_885 rfl (lv_at hl 4 rfl) ?_
    refine zz_callVi_ch (As := []) (rest := []) (L := [xOut tA o (zU og 0 zc), xOud tA od dg, xMod tA am ms mbef msav misv mpast mpm y_mthr mways mnds mtkp mline mlm mtxt mlen mat mwr merr mfail mcmd mcm, xObj ad hsv mal fai, xOff tA ad v shrt grp seen tp shr need ordr size, xScr tA K ad pos cmd vals txt len, xHis tA ad hc hn hs, xBef tA ad bt, xSav tA ad sv, xLin tA ad lnb lml lct]) (Lc := [xMod tA am ms mbef msav misv mpast mpm y_mthr mways mnds mtkp mline mlm mtxt mlen mat mwr merr mfail mcmd mcm]) (Lr := [xOut tA o (zU og 0 zc), xOud tA od dg, xObj ad hsv mal fai, xOff tA ad v shrt grp seen tp shr need ordr size, xScr tA K ad pos cmd vals txt len, xHis tA ad hc hn hs, xBef tA ad bt, xSav tA ad sv, xLin tA ad lnb lml lct]) (Lc' := fun u => [xMod tA am ms mbef msav misv mpast mpm y_mthr mways mnds mtkp mline mlm mtxt mlen mat mwr merr mfail mcmd mcm]) (Lf := fun u => [xOut tA o (zU og 0 zc), xOud tA od dg, xMod tA am ms mbef msav misv mpast mpm y_mthr mways mnds mtkp mline mlm mtxt mlen mat mwr merr mfail mcmd mcm, xObj ad hsv mal fai, xOff tA ad v shrt grp seen tp shr need ordr size, xScr tA K ad pos cmd vals txt len, xHis tA ad hc hn hs, xBef tA ad bt, xSav tA ad sv, xLin tA ad lnb lml lct]) (is := [2, 0, 1, 3, 4, 5, 6, 7, 8, 9]) (isF := [0, 1, 9, 2, 3, 4, 5, 6, 7, 8]) ⟨hx, hb, hml, hown, hts⟩ (c_X11_thrown l D tA (am 0) (am 1) (am 2) (am 3) (am 4) (am 5) (am 6) (am 7) (am 8) (am 9) (am 10) H.size ms mbef msav misv mpast mpm y_mthr mways mnds mtkp mline mlm mtxt mlen mat mwr merr mfail mcmd mcm) (cwV 0 hts (gx_tbl gL_law_X11_thrown) rfl rfl rfl (by decide +kernel) ⟨Nat.le_of_ble_eq_true rfl, Nat.le_of_ble_eq_true rfl⟩) hK hP hD hS hA ⟨rfl, rfl, (by decide)⟩ ⟨fun _ => rfl, fun _ => rfl, (by decide)⟩ (ci := 13) (q0 := 0) rfl rfl rfl rfl rfl hl.1 (Nat.le_of_ble_eq_true rfl) dL_law_886 (by show _ + 0 ≤ 603072 ∧ _ + 0 ≤ 7207018; omega) ?_
    intro zt u H locs hzt hP hD hS
    have hP : va_P D vwCl ([xOut tA o (zU og 0 zc), xOud tA od dg, xMod tA am ms mbef msav misv mpast mpm y_mthr mways mnds mtkp mline mlm mtxt mlen mat mwr merr mfail mcmd mcm, xObj ad hsv mal fai, xOff tA ad v shrt grp seen tp shr need ordr size, xScr tA K ad pos cmd vals txt len, xHis tA ad hc hn hs, xBef tA ad bt, xSav tA ad sv, xLin tA ad lnb lml lct]).flatten H := hP
    have hD : va_D (lwA s) ([xOut tA o (zU og 0 zc), xOud tA od dg, xMod tA am ms mbef msav misv mpast mpm y_mthr mways mnds mtkp mline mlm mtxt mlen mat mwr merr mfail mcmd mcm, xObj ad hsv mal fai, xOff tA ad v shrt grp seen tp shr need ordr size, xScr tA K ad pos cmd vals txt len, xHis tA ad hc hn hs, xBef tA ad bt, xSav tA ad sv, xLin tA ad lnb lml lct]).flatten := hD
    have hzt : zt = y_mthr := hzt
    have hz69 : 0 ≤ z6 ∧ z6 ≤ 9 := by omega
    refine lv_iload hx hb dL_law_889 (lv_at hl 1 rfl) ?_
    refine zz_icmp_eq (tgt := 896) hx hb dL_law_891 (by decide) (by omega) (by omega) (fun _ => ?_) (fun c9 => absurd (by omega) c9)
    refine lv_iload hx hb dL_law_896 (lv_at hl 1 rfl) ?_
    refine zz_if_ne (tgt := 913) hx hb dL_law_898 (by decide) (by omega) (fun c9 => absurd hz6 c9) (fun _ => ?_)
    refine lv_aload_n hx hb dL_law_901 rfl (lv_at hl 5 rfl) ?_
    refine zz_iconst hx hb dL_law_902 ?_
    refine zz_lald hx hb hK hP 0 rfl (by decide) (by decide) dL_law_903 ?_
    rw [zU_same]
    refine lv_iload hx hb dL_law_904 (lv_at hl 0 rfl) ?_
    refine zz_i2l hx hb dL_law_906 (by omega) ?_
    rw [hTV.2]
    refine zz_lcmp hx hb dL_law_907 (by omega) (by omega) ?_
    rw [cmpZ_s]
    refine zz_if_eq (tgt := 913) hx hb dL_law_908 (by decide) (by decide) (fun _ => ?_) (fun c9 => absurd rfl c9)
    refine lv_goto (tgt := 2917) hx hb dL_law_913 (by decide) ?_
    refine W.widen (k := k9 + 20) (n := n9 + 200) (by omega) (by omega) ?_
    exact kk v shrt grp seen tp shr need ordr size pos cmd vals txt len hc hn hs bt sv hsv mal fai lnb lml lct ms mbef msav misv mpast mpm y_mthr mways mnds mtkp mline mlm mtxt mlen mat mwr merr mfail mcmd mcm (zU og 0 zc) dg _ _ _ hI2 hP hD hS (lv_sub hl [2, 3, 4, 5, 6, 7] rfl)
  · obtain ⟨kx, rfl⟩ : ∃ q, q = u := ⟨_, rfl⟩
    have kq : kx = 1 ∧ ¬ (0 ≤ (xz xs (i + 1)) ∧ (xz xs (i + 1)) < (v 1 0)) := hq.1
    have kc : (kx = 1 ∧ z6 = 1) := hq.2
    have hP : va_P D vwCl ([xOut tA o og, xOud tA od dg, xMod tA am ms mbef msav misv mpast mpm mthr mways mnds mtkp mline mlm mtxt mlen mat mwr merr mfail mcmd mcm, xObj ad hsv mal fai, xOff tA ad v shrt grp seen tp shr need ordr size, xScr tA K ad pos cmd vals txt len, xHis tA ad hc hn hs, xBef tA ad bt, xSav tA ad sv, xLin tA ad lnb lml lct]).flatten H := hP
    have hD : va_D (lwA s) ([xOut tA o og, xOud tA od dg, xMod tA am ms mbef msav misv mpast mpm mthr mways mnds mtkp mline mlm mtxt mlen mat mwr merr mfail mcmd mcm, xObj ad hsv mal fai, xOff tA ad v shrt grp seen tp shr need ordr size, xScr tA K ad pos cmd vals txt len, xHis tA ad hc hn hs, xBef tA ad bt, xSav tA ad sv, xLin tA ad lnb lml lct]).flatten := hD
    refine lv_istore (lv' := [(6, .int (iI z6)), (0, .ref b), (1, .ref (ad 0)), (2, .ref (am 0)), (3, .ref o), (4, .ref od), (5, .int (iI i))]) hx hb dL_law_871 hl (by decide) rfl (fun ls hl => ?_)
    refine lv_aload_n hx hb dL_law_873 rfl (lv_at hl 3 rfl) ?_
    refine lv_aload_n hx hb dL_law_874 rfl (lv_at hl 1 rfl) ?_
    refine lv_iload hx hb dL_law_875 (lv_at hl 6 rfl) ?_
    refine zz_iconst hx hb dL_law_877 ?_
    refine zz_iadd hx hb dL_law_878 ?_
    refine zz_sld hx hb hX hbl hbA hS (k := i + 1) (by omega) hL dL_law_879 ?_
    refine zz_callVi_ch (As := [.int (iI (xz xs (i + 1)))]) (rest := []) (L := [xOut tA o og, xOud tA od dg, xMod tA am ms mbef msav misv mpast mpm mthr mways mnds mtkp mline mlm mtxt mlen mat mwr merr mfail mcmd mcm, xObj ad hsv mal fai, xOff tA ad v shrt grp seen tp shr need ordr size, xScr tA K ad pos cmd vals txt len, xHis tA ad hc hn hs, xBef tA ad bt, xSav tA ad sv, xLin tA ad lnb lml lct]) (Lc := [xMod tA am ms mbef msav misv mpast mpm mthr mways mnds mtkp mline mlm mtxt mlen mat mwr merr mfail mcmd mcm]) (Lr := [xOut tA o og, xOud tA od dg, xObj ad hsv mal fai, xOff tA ad v shrt grp seen tp shr need ordr size, xScr tA K ad pos cmd vals txt len, xHis tA ad hc hn hs, xBef tA ad bt, xSav tA ad sv, xLin tA ad lnb lml lct]) (Lc' := fun u => [xMod tA am ms mbef msav misv mpast mpm u mways mnds mtkp mline mlm mtxt mlen mat mwr merr mfail mcmd mcm]) (Lf := fun u => [xOut tA o og, xOud tA od dg, xMod tA am ms mbef msav misv mpast mpm u mways mnds mtkp mline mlm mtxt mlen mat mwr merr mfail mcmd mcm, xObj ad hsv mal fai, xOff tA ad v shrt grp seen tp shr need ordr size, xScr tA K ad pos cmd vals txt len, xHis tA ad hc hn hs, xBef tA ad bt, xSav tA ad sv, xLin tA ad lnb lml lct]) (is := [2, 0, 1, 3, 4, 5, 6, 7, 8, 9]) (isF := [0, 1, 9, 2, 3, 4, 5, 6, 7, 8]) ⟨hx, hb, hml, hown, hts⟩ (c_X11_lowerPortAt l D tA (am 0) (am 1) (am 2) (am 3) (am 4) (am 5) (am 6) (am 7) (am 8) (am 9) (am 10) H.size ms mbef msav misv mpast mpm mthr mways mnds mtkp mline mlm mtxt mlen mat mwr merr mfail mcmd mcm (xz xs (i + 1)) (xz_in _ _) hmv.1.2.1) (cwV 1 hts (gx_tbl gL_law_X11_lowerPortAt) rfl rfl rfl (by decide +kernel) ⟨Nat.le_of_ble_eq_true rfl, Nat.le_of_ble_eq_true rfl⟩) hK hP hD hS hA ⟨rfl, rfl, (by decide)⟩ ⟨fun _ => rfl, fun _ => rfl, (by decide)⟩ (ci := 13) (q0 := 0) rfl rfl rfl rfl rfl hl.1 (Nat.le_of_ble_eq_true rfl) dL_law_880 (by show _ + 0 ≤ 603072 ∧ _ + 0 ≤ 7207018; omega) ?_
    intro zb u H locs hmq hP hD hS
    obtain ⟨y_mthr, rfl⟩ : ∃ q, q = u := ⟨_, rfl⟩
    have hP : va_P D vwCl ([xOut tA o og, xOud tA od dg, xMod tA am ms mbef msav misv mpast mpm y_mthr mways mnds mtkp mline mlm mtxt mlen mat mwr merr mfail mcmd mcm, xObj ad hsv mal fai, xOff tA ad v shrt grp seen tp shr need ordr size, xScr tA K ad pos cmd vals txt len, xHis tA ad hc hn hs, xBef tA ad bt, xSav tA ad sv, xLin tA ad lnb lml lct]).flatten H := hP
    have hD : va_D (lwA s) ([xOut tA o og, xOud tA od dg, xMod tA am ms mbef msav misv mpast mpm y_mthr mways mnds mtkp mline mlm mtxt mlen mat mwr merr mfail mcmd mcm, xObj ad hsv mal fai, xOff tA ad v shrt grp seen tp shr need ordr size, xScr tA K ad pos cmd vals txt len, xHis tA ad hc hn hs, xBef tA ad bt, xSav tA ad sv, xLin tA ad lnb lml lct]).flatten := hD
    have mq : ∃ c, LatK ms (xz xs (i + 1)) 100 c ∧ ((y_mthr = 1 ∧ c = -1) ∨ (y_mthr = 0 ∧ 0 ≤ c ∧ c < 100 ∧ zb = c / 10)) := hmq
    clear hmq
    refine lv_istore (lv' := [(7, .int (iI zb)), (6, .int (iI z6)), (0, .ref b), (1, .ref (ad 0)), (2, .ref (am 0)), (3, .ref o), (4, .ref od), (5, .int (iI i))]) hx hb dL_law_883 hl (by decide) rfl (fun ls hl => ?_)
    have hT : y_mthr = z6 := by
      obtain ⟨cq, m1, m2⟩ := mq
      rcases rel_latK hch hu9 hr m1 with ⟨q1, q2⟩ | ⟨q1, q2, q3, q4, q5, q6⟩
      · omega
      · exact absurd q1 kq.2
    have hI2 : LInv (n + 1) v hs sv pos cmd vals txt len hc hn hsv mal fai lnb lct ms msav misv mpast mpm mline mlm mtxt mlen merr mfail mcmd := by
      exact LI_q hn9 hI
    refine lv_aload_n hx hb dL_law_885 rfl (lv_at hl 4 rfl) ?_
    refine zz_callVi_ch (As := []) (rest := []) (L := [xOut tA o og, xOud tA od dg, xMod tA am ms mbef msav misv mpast mpm y_mthr mways mnds mtkp mline mlm mtxt mlen mat mwr merr mfail mcmd mcm, xObj ad hsv mal fai, xOff tA ad v shrt grp seen tp shr need ordr size, xScr tA K ad pos cmd vals txt len, xHis tA ad hc hn hs, xBef tA ad bt, xSav tA ad sv, xLin tA ad lnb lml lct]) (Lc := [xMod tA am ms mbef msav misv mpast mpm y_mthr mways mnds mtkp mline mlm mtxt mlen mat mwr merr mfail mcmd mcm]) (Lr := [xOut tA o og, xOud tA od dg, xObj ad hsv mal fai, xOff tA ad v shrt grp seen tp shr need ordr size, xScr tA K ad pos cmd vals txt len, xHis tA ad hc hn hs, xBef tA ad bt, xSav tA ad sv, xLin tA ad lnb lml lct]) (Lc' := fun u => [xMod tA am ms mbef msav misv mpast mpm y_mthr mways mnds mtkp mline mlm mtxt mlen mat mwr merr mfail mcmd mcm]) (Lf := fun u => [xOut tA o og, xOud tA od dg, xMod tA am ms mbef msav misv mpast mpm y_mthr mways mnds mtkp mline mlm mtxt mlen mat mwr merr mfail mcmd mcm, xObj ad hsv mal fai, xOff tA ad v shrt grp seen tp shr need ordr size, xScr tA K ad pos cmd vals txt len, xHis tA ad hc hn hs, xBef tA ad bt, xSav tA ad sv, xLin tA ad lnb lml lct]) (is := [2, 0, 1, 3, 4, 5, 6, 7, 8, 9]) (isF := [0, 1, 9, 2, 3, 4, 5, 6, 7, 8]) ⟨hx, hb, hml, hown, hts⟩ (c_X11_thrown l D tA (am 0) (am 1) (am 2) (am 3) (am 4) (am 5) (am 6) (am 7) (am 8) (am 9) (am 10) H.size ms mbef msav misv mpast mpm y_mthr mways mnds mtkp mline mlm mtxt mlen mat mwr merr mfail mcmd mcm) (cwV 0 hts (gx_tbl gL_law_X11_thrown) rfl rfl rfl (by decide +kernel) ⟨Nat.le_of_ble_eq_true rfl, Nat.le_of_ble_eq_true rfl⟩) hK hP hD hS hA ⟨rfl, rfl, (by decide)⟩ ⟨fun _ => rfl, fun _ => rfl, (by decide)⟩ (ci := 13) (q0 := 0) rfl rfl rfl rfl rfl hl.1 (Nat.le_of_ble_eq_true rfl) dL_law_886 (by show _ + 0 ≤ 603072 ∧ _ + 0 ≤ 7207018; omega) ?_
    intro zt u H locs hzt hP hD hS
    have hP : va_P D vwCl ([xOut tA o og, xOud tA od dg, xMod tA am ms mbef msav misv mpast mpm y_mthr mways mnds mtkp mline mlm mtxt mlen mat mwr merr mfail mcmd mcm, xObj ad hsv mal fai, xOff tA ad v shrt grp seen tp shr need ordr size, xScr tA K ad pos cmd vals txt len, xHis tA ad hc hn hs, xBef tA ad bt, xSav tA ad sv, xLin tA ad lnb lml lct]).flatten H := hP
    have hD : va_D (lwA s) ([xOut tA o og, xOud tA od dg, xMod tA am ms mbef msav misv mpast mpm y_mthr mways mnds mtkp mline mlm mtxt mlen mat mwr merr mfail mcmd mcm, xObj ad hsv mal fai, xOff tA ad v shrt grp seen tp shr need ordr size, xScr tA K ad pos cmd vals txt len, xHis tA ad hc hn hs, xBef tA ad bt, xSav tA ad sv, xLin tA ad lnb lml lct]).flatten := hD
    have hzt : zt = y_mthr := hzt
    have hz69 : 0 ≤ z6 ∧ z6 ≤ 9 := by omega
    refine lv_iload hx hb dL_law_889 (lv_at hl 1 rfl) ?_
    refine zz_icmp_eq (tgt := 896) hx hb dL_law_891 (by decide) (by omega) (by omega) (fun _ => ?_) (fun c9 => absurd (by omega) c9)
    refine lv_iload hx hb dL_law_896 (lv_at hl 1 rfl) ?_
    refine zz_if_ne (tgt := 913) hx hb dL_law_898 (by decide) (by omega) (fun _ => ?_) (fun c9 => absurd c9 (by omega))
    refine lv_goto (tgt := 2917) hx hb dL_law_913 (by decide) ?_
    refine W.widen (k := k9 + 20) (n := n9 + 200) (by omega) (by omega) ?_
    exact kk v shrt grp seen tp shr need ordr size pos cmd vals txt len hc hn hs bt sv hsv mal fai lnb lml lct ms mbef msav misv mpast mpm y_mthr mways mnds mtkp mline mlm mtxt mlen mat mwr merr mfail mcmd mcm og dg _ _ _ hI2 hP hD hS (lv_sub hl [2, 3, 4, 5, 6, 7] rfl)

set_option maxHeartbeats 8000000 in
set_option maxRecDepth 100000 in
theorem law_c11 {p : Program} {l : Launch} (hst : l.stackTraces = false) {e : Env} {s : State} {m : MethodId} {below : List Frame} {meth : Method} {c : Code} {D : va_G} {tA : Nat → ClassId} {K : Nat → Nat} {b L : Nat} {xs : Nat → Int32} (hL : L ≤ 2560) (C0 : lw_At p s m meth c b L xs) (hK : zK D tA s) (hZ : zT K (lwA s) s) {ad am : Nat → Nat} {o od : Nat} {i n : Int} (hi : 0 ≤ i ∧ i + 5 ≤ L) (hn9 : n < 600) {k9 n9 : Nat} (hk9 : k9 + 20 ≤ 603072 ∧ n9 + 200 ≤ 7207018) {v : Nat → Int → Int} {shrt : Int → Int} {grp : Int → Int} {seen : Int → Int} {tp : Int → Int} {shr : Int → Int} {need : Int → Int} {ordr : Int → Int} {size : Int} {pos : Int} {cmd : Int} {vals : Int → Int} {txt : Int → Int} {len : Int} {hc : Int} {hn : Int} {hs : Nat → Nat → Int → Int} {bt : Nat → Int → Int} {sv : Nat → Int → Int} {hsv : Int} {mal : Int} {fai : Int} {lnb : Int → Int} {lml : Int} {lct : Int} {ms : Int → Int} {mbef : Int → Int} {msav : Int → Int} {misv : Int} {mpast : Int → Int} {mpm : Int} {mthr : Int} {mways : Int → Int} {mnds : Int → Int} {mtkp : Int → Int} {mline : Int → Int} {mlm : Int} {mtxt : Int → Int} {mlen : Int} {mat : Int} {mwr : Int} {merr : Int} {mfail : Int} {mcmd : Int → Int} {mcm : Int} {og : Int → Int} {dg : Nat → UInt64} {H : Heap} {locs : List Loc} {ls : Array Slot} (hI : LInv n v hs sv pos cmd vals txt len hc hn hsv mal fai lnb lct ms msav misv mpast mpm mline mlm mtxt mlen merr mfail mcmd) (hP : va_P D vwCl (xW tA K ad am o od v shrt grp seen tp shr need ordr size pos cmd vals txt len hc hn hs bt sv hsv mal fai lnb lml lct ms mbef msav misv mpast mpm mthr mways mnds mtkp mline mlm mtxt mlen mat mwr merr mfail mcmd mcm og dg).flatten H) (hD : va_D (lwA s) (xW tA K ad am o od v shrt grp seen tp shr need ordr size pos cmd vals txt len hc hn hs bt sv hsv mal fai lnb lml lct ms mbef msav misv mpast mpm mthr mways mnds mtkp mline mlm mtxt mlen mat mwr merr mfail mcmd mcm og dg).flatten) (hS : va_S (lwA s) s.heap H locs) (hl : lv_has ls 9 [(0, .ref b), (1, .ref (ad 0)), (2, .ref (am 0)), (3, .ref o), (4, .ref od), (5, .int (iI i))]) (kk : lwK p l e s m below meth c D tA K ad am o od b i n k9 n9) : W p l e room_1 s m #[Value.ref b] below meth c H locs k9 n9 (lw_Z below #[Value.ref b] s) (F0 m 916 ls []) := by
  obtain ⟨hx, hb, hrt, hml, hown, hts, hX, hbl, hlocks, hgv⟩ := id C0
  have hts := lw_more hts
  have hA : ∀ q : Nat, s.heap.size ≤ q → lwA s q := fun _ h => h
  have hbA : ¬ lwA s b := Nat.not_le.mpr hbl
  have hCn := hZ.2.2.2
  obtain ⟨⟨n0, n6, l0, l6, ln⟩, hLS, ⟨hhn, hhc, hpm, hhi⟩, ⟨hsv01, hmis, hsvv, hsvr⟩, ⟨hlen, htxt, htx⟩, ⟨hlm, hln, hl0, hl16, hlb⟩, ⟨her, hfa, hm1, hm2, hf1, hf2⟩, ⟨hcd0, hcd1, hps0, hps1, hva⟩, hcr⟩ := id hI
  have hv := hLS.1
  have hr := hLS.2
  have hch : ChS v := hv.1
  have hu9 : ChW v := hv.2.1
  obtain ⟨-, -, hcc, hsp, hmo, hfog, hrg, hni, hfd, hmt9, hln9, hsum⟩ := SVk_out (show SVk _ _ (etS v) from hv)
  have hmv := rel_MV hv hr (by omega) (by omega)
  obtain ⟨e0, e1, e2, e3, e4, e5, e6⟩ := id hr.1
  have eE := rel_sE hch hr
  have hmon : ∀ j, 0 ≤ j → j < v 7 0 → 0 ≤ v 10 j ∧ v 10 j ≤ 6000000 := fun j j0 j1 => by have := hmo j j0 j1; omega
  have hlnd : ∀ j, 0 ≤ j → j < v 7 0 → (0 ≤ v 11 j ∧ v 11 j ≤ 600) ∧ (0 ≤ v 12 j ∧ v 12 j ≤ 600) := fun j j0 j1 => by have := hln9 j j0 j1; omega
  refine lv_aload_n hx hb dL_law_916 rfl (lv_at hl 1 rfl) ?_
  refine lv_aload_n hx hb dL_law_917 rfl (lv_at hl 0 rfl) ?_
  refine lv_iload hx hb dL_law_918 (lv_at hl 5 rfl) ?_
  refine zz_iconst hx hb dL_law_920 ?_
  refine zz_iadd hx hb dL_law_921 ?_
  refine zz_sld hx hb hX hbl hbA hS (k := i + 1) (by omega) hL dL_law_922 ?_
  refine lv_aload_n hx hb dL_law_923 rfl (lv_at hl 3 rfl) ?_
  refine zh_callSi_ch (As := [.ref (ad 0), .int (iI (xz xs (i + 1))), .ref o]) (rest := []) (L := [xOut tA o og, xOud tA od dg, xMod tA am ms mbef msav misv mpast mpm mthr mways mnds mtkp mline mlm mtxt mlen mat mwr merr mfail mcmd mcm, xObj ad hsv mal fai, xOff tA ad v shrt grp seen tp shr need ordr size, xScr tA K ad pos cmd vals txt len, xHis tA ad hc hn hs, xBef tA ad bt, xSav tA ad sv, xLin tA ad lnb lml lct]) (Lc := [xOut tA o og, xObj ad hsv mal fai, xOff tA ad v shrt grp seen tp shr need ordr size]) (Lr := [xOud tA od dg, xMod tA am ms mbef msav misv mpast mpm mthr mways mnds mtkp mline mlm mtxt mlen mat mwr merr mfail mcmd mcm, xScr tA K ad pos cmd vals txt len, xHis tA ad hc hn hs, xBef tA ad bt, xSav tA ad sv, xLin tA ad lnb lml lct]) (Lc' := fun u => Sum.elim (fun u => [xOut tA o (zU og 0 u.1), xObj ad hsv mal fai, xOff tA ad v shrt grp seen tp shr need ordr size]) (fun u => [xOut tA o og, xObj ad hsv mal fai, xOff tA ad v shrt grp seen tp shr need ordr size]) u) (Lf := fun u => Sum.elim (fun u => [xOut tA o (zU og 0 u.1), xOud tA od dg, xMod tA am ms mbef msav misv mpast mpm mthr mways mnds mtkp mline mlm mtxt mlen mat mwr merr mfail mcmd mcm, xObj ad hsv mal fai, xOff tA ad v shrt grp seen tp shr need ordr size, xScr tA K ad pos cmd vals txt len, xHis tA ad hc hn hs, xBef tA ad bt, xSav tA ad sv, xLin tA ad lnb lml lct]) (fun u => [xOut tA o og, xOud tA od dg, xMod tA am ms mbef msav misv mpast mpm mthr mways mnds mtkp mline mlm mtxt mlen mat mwr merr mfail mcmd mcm, xObj ad hsv mal fai, xOff tA ad v shrt grp seen tp shr need ordr size, xScr tA K ad pos cmd vals txt len, xHis tA ad hc hn hs, xBef tA ad bt, xSav tA ad sv, xLin tA ad lnb lml lct]) u) (is := [0, 3, 4, 1, 2, 5, 6, 7, 8, 9]) (isF := [7, 0, 1, 8, 9, 2, 3, 4, 5, 6]) ⟨hx, hb, hml, hown, hts⟩ (c_L_upperPortAt l hst K D tA (ad 0) (ad 1) (ad 2) (ad 3) (ad 4) (ad 5) (ad 6) (ad 7) (ad 8) (ad 9) (ad 10) (ad 11) (ad 12) (ad 13) (ad 14) (ad 15) (ad 16) (ad 17) (ad 18) (ad 19) (ad 20) (ad 21) (ad 22) (ad 23) (ad 24) (ad 27) (ad 146) (ad 133) (ad 159) o H.size og (v 0 0) (v 1 0) (v 2) (v 3) (v 4) (v 5) (v 6) (v 7 0) (v 8) (v 9) (v 10) (v 11) (v 12) (v 13 0) (v 14 0) (v 15 0) (v 16 0) (v 17 0) (v 18 0) shrt grp seen tp shr need ordr size hsv mal fai  (xz xs (i + 1)) (xz_in _ _) hch) (vx_cwSW 3 hts (gx_wr gL_law_L_upperPortAt) rfl rfl rfl (by decide +kernel) ⟨Nat.le_of_ble_eq_true rfl, Nat.le_of_ble_eq_true rfl⟩) hK hP hD hS hA hZ ⟨rfl, rfl, (by decide)⟩ ⟨fun u => by cases u <;> rfl, fun u => by cases u <;> rfl, (by decide)⟩ rfl rfl hl.1 (Nat.le_of_ble_eq_true rfl) dL_law_924 (by show k9 + 1 ≤ 603072 ∧ n9 + 6 ≤ 7207018; omega) ?_
  intro z6 u H locs hq hP hD hS
  rcases u with ⟨zc, u⟩ | u
  · skip
    obtain ⟨hz6, kq, hzr⟩ := hq
    have kq : 0 ≤ (xz xs (i + 1)) ∧ (xz xs (i + 1)) < (v 1 0) ∧ zc = (v 3) (xz xs (i + 1)) := kq
    have hz6 : z6 = 0 := hz6
    have hzr : -2147483648 ≤ zc ∧ zc ≤ 2147483647 := hzr
    have hP : va_P D vwCl ([xOut tA o (zU og 0 zc), xOud tA od dg, xMod tA am ms mbef msav misv mpast mpm mthr mways mnds mtkp mline mlm mtxt mlen mat mwr merr mfail mcmd mcm, xObj ad hsv mal fai, xOff tA ad v shrt grp seen tp shr need ordr size, xScr tA K ad pos cmd vals txt len, xHis tA ad hc hn hs, xBef tA ad bt, xSav tA ad sv, xLin tA ad lnb lml lct]).flatten H := hP
    have hD : va_D (lwA s) ([xOut tA o (zU og 0 zc), xOud tA od dg, xMod tA am ms mbef msav misv mpast mpm mthr mways mnds mtkp mline mlm mtxt mlen mat mwr merr mfail mcmd mcm, xObj ad hsv mal fai, xOff tA ad v shrt grp seen tp shr need ordr size, xScr tA K ad pos cmd vals txt len, xHis tA ad hc hn hs, xBef tA ad bt, xSav tA ad sv, xLin tA ad lnb lml lct]).flatten := hD
    refine lv_istore (lv' := [(6, .int (iI z6)), (0, .ref b), (1, .ref (ad 0)), (2, .ref (am 0)), (3, .ref o), (4, .ref od), (5, .int (iI i))]) hx hb dL_law_927 hl (by decide) rfl (fun ls hl => ?_)
    refine lv_aload_n hx hb dL_law_929 rfl (lv_at hl 3 rfl) ?_
    refine lv_aload_n hx hb dL_law_930 rfl (lv_at hl 1 rfl) ?_
    refine lv_iload hx hb dL_law_931 (lv_at hl 6 rfl) ?_
    refine zz_iconst hx hb dL_law_933 ?_
    refine zz_iadd hx hb dL_law_934 ?_
    refine zz_sld hx hb hX hbl hbA hS (k := i + 1) (by omega) hL dL_law_935 ?_
    refine zz_callVi_ch (As := [.int (iI (xz xs (i + 1)))]) (rest := []) (L := [xOut tA o (zU og 0 zc), xOud tA od dg, xMod tA am ms mbef msav misv mpast mpm mthr mways mnds mtkp mline mlm mtxt mlen mat mwr merr mfail mcmd mcm, xObj ad hsv mal fai, xOff tA ad v shrt grp seen tp shr need ordr size, xScr tA K ad pos cmd vals txt len, xHis tA ad hc hn hs, xBef tA ad bt, xSav tA ad sv, xLin tA ad lnb lml lct]) (Lc := [xMod tA am ms mbef msav misv mpast mpm mthr mways mnds mtkp mline mlm mtxt mlen mat mwr merr mfail mcmd mcm]) (Lr := [xOut tA o (zU og 0 zc), xOud tA od dg, xObj ad hsv mal fai, xOff tA ad v shrt grp seen tp shr need ordr size, xScr tA K ad pos cmd vals txt len, xHis tA ad hc hn hs, xBef tA ad bt, xSav tA ad sv, xLin tA ad lnb lml lct]) (Lc' := fun u => [xMod tA am ms mbef msav misv mpast mpm u mways mnds mtkp mline mlm mtxt mlen mat mwr merr mfail mcmd mcm]) (Lf := fun u => [xOut tA o (zU og 0 zc), xOud tA od dg, xMod tA am ms mbef msav misv mpast mpm u mways mnds mtkp mline mlm mtxt mlen mat mwr merr mfail mcmd mcm, xObj ad hsv mal fai, xOff tA ad v shrt grp seen tp shr need ordr size, xScr tA K ad pos cmd vals txt len, xHis tA ad hc hn hs, xBef tA ad bt, xSav tA ad sv, xLin tA ad lnb lml lct]) (is := [2, 0, 1, 3, 4, 5, 6, 7, 8, 9]) (isF := [0, 1, 9, 2, 3, 4, 5, 6, 7, 8]) ⟨hx, hb, hml, hown, hts⟩ (c_X11_upperPortAt l D tA (am 0) (am 1) (am 2) (am 3) (am 4) (am 5) (am 6) (am 7) (am 8) (am 9) (am 10) H.size ms mbef msav misv mpast mpm mthr mways mnds mtkp mline mlm mtxt mlen mat mwr merr mfail mcmd mcm (xz xs (i + 1)) (xz_in _ _) hmv.1.2.1) (cwV 1 hts (gx_tbl gL_law_X11_upperPortAt) rfl rfl rfl (by decide +kernel) ⟨Nat.le_of_ble_eq_true rfl, Nat.le_of_ble_eq_true rfl⟩) hK hP hD hS hA ⟨rfl, rfl, (by decide)⟩ ⟨fun _ => rfl, fun _ => rfl, (by decide)⟩ (ci := 13) (q0 := 0) rfl rfl rfl rfl rfl hl.1 (Nat.le_of_ble_eq_true rfl) dL_law_936 (by show _ + 0 ≤ 603072 ∧ _ + 0 ≤ 7207018; omega) ?_
    intro zb u H locs hmq hP hD hS
    obtain ⟨y_mthr, rfl⟩ : ∃ q, q = u := ⟨_, rfl⟩
    have hP : va_P D vwCl ([xOut tA o (zU og 0 zc), xOud tA od dg, xMod tA am ms mbef msav misv mpast mpm y_mthr mways mnds mtkp mline mlm mtxt mlen mat mwr merr mfail mcmd mcm, xObj ad hsv mal fai, xOff tA ad v shrt grp seen tp shr need ordr size, xScr tA K ad pos cmd vals txt len, xHis tA ad hc hn hs, xBef tA ad bt, xSav tA ad sv, xLin tA ad lnb lml lct]).flatten H := hP
    have hD : va_D (lwA s) ([xOut tA o (zU og 0 zc), xOud tA od dg, xMod tA am ms mbef msav misv mpast mpm y_mthr mways mnds mtkp mline mlm mtxt mlen mat mwr merr mfail mcmd mcm, xObj ad hsv mal fai, xOff tA ad v shrt grp seen tp shr need ordr size, xScr tA K ad pos cmd vals txt len, xHis tA ad hc hn hs, xBef tA ad bt, xSav tA ad sv, xLin tA ad lnb lml lct]).flatten := hD
    have mq : ∃ c, LatK ms (xz xs (i + 1)) 100 c ∧ ((y_mthr = 1 ∧ c = -1) ∨ (y_mthr = 0 ∧ 0 ≤ c ∧ c < 100 ∧ zb = c % 10)) := hmq
    clear hmq
    refine lv_istore (lv' := [(7, .int (iI zb)), (6, .int (iI z6)), (0, .ref b), (1, .ref (ad 0)), (2, .ref (am 0)), (3, .ref o), (4, .ref od), (5, .int (iI i))]) hx hb dL_law_939 hl (by decide) rfl (fun ls hl => ?_)
    have hTV : y_mthr = 0 ∧ zb = zc := by
      obtain ⟨cq, m1, m2⟩ := mq
      rcases rel_latK hch hu9 hr m1 with ⟨q1, q2⟩ | ⟨q1, q2, q3, q4, q5, q6⟩
      · exact absurd ⟨kq.1, kq.2.1⟩ q2
      · have := kq.2.2
        omega
    have hT : y_mthr = z6 := hTV.1.trans hz6.symm
    have hI2 : LInv (n + 1) v hs sv pos cmd vals txt len hc hn hsv mal fai lnb lct ms msav misv mpast mpm mline mlm mtxt mlen merr mfail mcmd := by
      exact LI_q hn9 hI
    refine lv_aload_n hx hb dL_law_941 rfl (lv_at hl 4 rfl) ?_
    refine zz_callVi_ch (As := []) (rest := []) (L := [xOut tA o (zU og 0 zc), xOud tA od dg, xMod tA am ms mbef msav misv mpast mpm y_mthr mways mnds mtkp mline mlm mtxt mlen mat mwr merr mfail mcmd mcm, xObj ad hsv mal fai, xOff tA ad v shrt grp seen tp shr need ordr size, xScr tA K ad pos cmd vals txt len, xHis tA ad hc hn hs, xBef tA ad bt, xSav tA ad sv, xLin tA ad lnb lml lct]) (Lc := [xMod tA am ms mbef msav misv mpast mpm y_mthr mways mnds mtkp mline mlm mtxt mlen mat mwr merr mfail mcmd mcm]) (Lr := [xOut tA o (zU og 0 zc), xOud tA od dg, xObj ad hsv mal fai, xOff tA ad v shrt grp seen tp shr need ordr size, xScr tA K ad pos cmd vals txt len, xHis tA ad hc hn hs, xBef tA ad bt, xSav tA ad sv, xLin tA ad lnb lml lct]) (Lc' := fun u => [xMod tA am ms mbef msav misv mpast mpm y_mthr mways mnds mtkp mline mlm mtxt mlen mat mwr merr mfail mcmd mcm]) (Lf := fun u => [xOut tA o (zU og 0 zc), xOud tA od dg, xMod tA am ms mbef msav misv mpast mpm y_mthr mways mnds mtkp mline mlm mtxt mlen mat mwr merr mfail mcmd mcm, xObj ad hsv mal fai, xOff tA ad v shrt grp seen tp shr need ordr size, xScr tA K ad pos cmd vals txt len, xHis tA ad hc hn hs, xBef tA ad bt, xSav tA ad sv, xLin tA ad lnb lml lct]) (is := [2, 0, 1, 3, 4, 5, 6, 7, 8, 9]) (isF := [0, 1, 9, 2, 3, 4, 5, 6, 7, 8]) ⟨hx, hb, hml, hown, hts⟩ (c_X11_thrown l D tA (am 0) (am 1) (am 2) (am 3) (am 4) (am 5) (am 6) (am 7) (am 8) (am 9) (am 10) H.size ms mbef msav misv mpast mpm y_mthr mways mnds mtkp mline mlm mtxt mlen mat mwr merr mfail mcmd mcm) (cwV 0 hts (gx_tbl gL_law_X11_thrown) rfl rfl rfl (by decide +kernel) ⟨Nat.le_of_ble_eq_true rfl, Nat.le_of_ble_eq_true rfl⟩) hK hP hD hS hA ⟨rfl, rfl, (by decide)⟩ ⟨fun _ => rfl, fun _ => rfl, (by decide)⟩ (ci := 13) (q0 := 0) rfl rfl rfl rfl rfl hl.1 (Nat.le_of_ble_eq_true rfl) dL_law_942 (by show _ + 0 ≤ 603072 ∧ _ + 0 ≤ 7207018; omega) ?_
    intro zt u H locs hzt hP hD hS
    have hP : va_P D vwCl ([xOut tA o (zU og 0 zc), xOud tA od dg, xMod tA am ms mbef msav misv mpast mpm y_mthr mways mnds mtkp mline mlm mtxt mlen mat mwr merr mfail mcmd mcm, xObj ad hsv mal fai, xOff tA ad v shrt grp seen tp shr need ordr size, xScr tA K ad pos cmd vals txt len, xHis tA ad hc hn hs, xBef tA ad bt, xSav tA ad sv, xLin tA ad lnb lml lct]).flatten H := hP
    have hD : va_D (lwA s) ([xOut tA o (zU og 0 zc), xOud tA od dg, xMod tA am ms mbef msav misv mpast mpm y_mthr mways mnds mtkp mline mlm mtxt mlen mat mwr merr mfail mcmd mcm, xObj ad hsv mal fai, xOff tA ad v shrt grp seen tp shr need ordr size, xScr tA K ad pos cmd vals txt len, xHis tA ad hc hn hs, xBef tA ad bt, xSav tA ad sv, xLin tA ad lnb lml lct]).flatten := hD
    have hzt : zt = y_mthr := hzt
    have hz69 : 0 ≤ z6 ∧ z6 ≤ 9 := by omega
    refine lv_iload hx hb dL_law_945 (lv_at hl 1 rfl) ?_
    refine zz_icmp_eq (tgt := 952) hx hb dL_law_947 (by decide) (by omega) (by omega) (fun _ => ?_) (fun c9 => absurd (by omega) c9)
    refine lv_iload hx hb dL_law_952 (lv_at hl 1 rfl) ?_
    refine zz_if_ne (tgt := 969) hx hb dL_law_954 (by decide) (by omega) (fun c9 => absurd hz6 c9) (fun _ => ?_)
    refine lv_aload_n hx hb dL_law_957 rfl (lv_at hl 5 rfl) ?_
    refine zz_iconst hx hb dL_law_958 ?_
    refine zz_lald hx hb hK hP 0 rfl (by decide) (by decide) dL_law_959 ?_
    rw [zU_same]
    refine lv_iload hx hb dL_law_960 (lv_at hl 0 rfl) ?_
    refine zz_i2l hx hb dL_law_962 (by omega) ?_
    rw [hTV.2]
    refine zz_lcmp hx hb dL_law_963 (by omega) (by omega) ?_
    rw [cmpZ_s]
    refine zz_if_eq (tgt := 969) hx hb dL_law_964 (by decide) (by decide) (fun _ => ?_) (fun c9 => absurd rfl c9)
    refine lv_goto (tgt := 2917) hx hb dL_law_969 (by decide) ?_
    refine W.widen (k := k9 + 20) (n := n9 + 200) (by omega) (by omega) ?_
    exact kk v shrt grp seen tp shr need ordr size pos cmd vals txt len hc hn hs bt sv hsv mal fai lnb lml lct ms mbef msav misv mpast mpm y_mthr mways mnds mtkp mline mlm mtxt mlen mat mwr merr mfail mcmd mcm (zU og 0 zc) dg _ _ _ hI2 hP hD hS (lv_sub hl [2, 3, 4, 5, 6, 7] rfl)
  · obtain ⟨kx, rfl⟩ : ∃ q, q = u := ⟨_, rfl⟩
    have kq : kx = 1 ∧ ¬ (0 ≤ (xz xs (i + 1)) ∧ (xz xs (i + 1)) < (v 1 0)) := hq.1
    have kc : (kx = 1 ∧ z6 = 1) := hq.2
    have hP : va_P D vwCl ([xOut tA o og, xOud tA od dg, xMod tA am ms mbef msav misv mpast mpm mthr mways mnds mtkp mline mlm mtxt mlen mat mwr merr mfail mcmd mcm, xObj ad hsv mal fai, xOff tA ad v shrt grp seen tp shr need ordr size, xScr tA K ad pos cmd vals txt len, xHis tA ad hc hn hs, xBef tA ad bt, xSav tA ad sv, xLin tA ad lnb lml lct]).flatten H := hP
    have hD : va_D (lwA s) ([xOut tA o og, xOud tA od dg, xMod tA am ms mbef msav misv mpast mpm mthr mways mnds mtkp mline mlm mtxt mlen mat mwr merr mfail mcmd mcm, xObj ad hsv mal fai, xOff tA ad v shrt grp seen tp shr need ordr size, xScr tA K ad pos cmd vals txt len, xHis tA ad hc hn hs, xBef tA ad bt, xSav tA ad sv, xLin tA ad lnb lml lct]).flatten := hD
    refine lv_istore (lv' := [(6, .int (iI z6)), (0, .ref b), (1, .ref (ad 0)), (2, .ref (am 0)), (3, .ref o), (4, .ref od), (5, .int (iI i))]) hx hb dL_law_927 hl (by decide) rfl (fun ls hl => ?_)
    refine lv_aload_n hx hb dL_law_929 rfl (lv_at hl 3 rfl) ?_
    refine lv_aload_n hx hb dL_law_930 rfl (lv_at hl 1 rfl) ?_
    refine lv_iload hx hb dL_law_931 (lv_at hl 6 rfl) ?_
    refine zz_iconst hx hb dL_law_933 ?_
    refine zz_iadd hx hb dL_law_934 ?_
    refine zz_sld hx hb hX hbl hbA hS (k := i + 1) (by omega) hL dL_law_935 ?_
    refine zz_callVi_ch (As := [.int (iI (xz xs (i + 1)))]) (rest := []) (L := [xOut tA o og, xOud tA od dg, xMod tA am ms mbef msav misv mpast mpm mthr mways mnds mtkp mline mlm mtxt mlen mat mwr merr mfail mcmd mcm, xObj ad hsv mal fai, xOff tA ad v shrt grp seen tp shr need ordr size, xScr tA K ad pos cmd vals txt len, xHis tA ad hc hn hs, xBef tA ad bt, xSav tA ad sv, xLin tA ad lnb lml lct]) (Lc := [xMod tA am ms mbef msav misv mpast mpm mthr mways mnds mtkp mline mlm mtxt mlen mat mwr merr mfail mcmd mcm]) (Lr := [xOut tA o og, xOud tA od dg, xObj ad hsv mal fai, xOff tA ad v shrt grp seen tp shr need ordr size, xScr tA K ad pos cmd vals txt len, xHis tA ad hc hn hs, xBef tA ad bt, xSav tA ad sv, xLin tA ad lnb lml lct]) (Lc' := fun u => [xMod tA am ms mbef msav misv mpast mpm u mways mnds mtkp mline mlm mtxt mlen mat mwr merr mfail mcmd mcm]) (Lf := fun u => [xOut tA o og, xOud tA od dg, xMod tA am ms mbef msav misv mpast mpm u mways mnds mtkp mline mlm mtxt mlen mat mwr merr mfail mcmd mcm, xObj ad hsv mal fai, xOff tA ad v shrt grp seen tp shr need ordr size, xScr tA K ad pos cmd vals txt len, xHis tA ad hc hn hs, xBef tA ad bt, xSav tA ad sv, xLin tA ad lnb lml lct]) (is := [2, 0, 1, 3, 4, 5, 6, 7, 8, 9]) (isF := [0, 1, 9, 2, 3, 4, 5, 6, 7, 8]) ⟨hx, hb, hml, hown, hts⟩ (c_X11_upperPortAt l D tA (am 0) (am 1) (am 2) (am 3) (am 4) (am 5) (am 6) (am 7) (am 8) (am 9) (am 10) H.size ms mbef msav misv mpast mpm mthr mways mnds mtkp mline mlm mtxt mlen mat mwr merr mfail mcmd mcm (xz xs (i + 1)) (xz_in _ _) hmv.1.2.1) (cwV 1 hts (gx_tbl gL_law_X11_upperPortAt) rfl rfl rfl (by decide +kernel) ⟨Nat.le_of_ble_eq_true rfl, Nat.le_of_ble_eq_true rfl⟩) hK hP hD hS hA ⟨rfl, rfl, (by decide)⟩ ⟨fun _ => rfl, fun _ => rfl, (by decide)⟩ (ci := 13) (q0 := 0) rfl rfl rfl rfl rfl hl.1 (Nat.le_of_ble_eq_true rfl) dL_law_936 (by show _ + 0 ≤ 603072 ∧ _ + 0 ≤ 7207018; omega) ?_
    intro zb u H locs hmq hP hD hS
    obtain ⟨y_mthr, rfl⟩ : ∃ q, q = u := ⟨_, rfl⟩
    have hP : va_P D vwCl ([xOut tA o og, xOud tA od dg, xMod tA am ms mbef msav misv mpast mpm y_mthr mways mnds mtkp mline mlm mtxt mlen mat mwr merr mfail mcmd mcm, xObj ad hsv mal fai, xOff tA ad v shrt grp seen tp shr need ordr size, xScr tA K ad pos cmd vals txt len, xHis tA ad hc hn hs, xBef tA ad bt, xSav tA ad sv, xLin tA ad lnb lml lct]).flatten H := hP
    have hD : va_D (lwA s) ([xOut tA o og, xOud tA od dg, xMod tA am ms mbef msav misv mpast mpm y_mthr mways mnds mtkp mline mlm mtxt mlen mat mwr merr mfail mcmd mcm, xObj ad hsv mal fai, xOff tA ad v shrt grp seen tp shr need ordr size, xScr tA K ad pos cmd vals txt len, xHis tA ad hc hn hs, xBef tA ad bt, xSav tA ad sv, xLin tA ad lnb lml lct]).flatten := hD
    have mq : ∃ c, LatK ms (xz xs (i + 1)) 100 c ∧ ((y_mthr = 1 ∧ c = -1) ∨ (y_mthr = 0 ∧ 0 ≤ c ∧ c < 100 ∧ zb = c % 10)) := hmq
    clear hmq
    refine lv_istore (lv' := [(7, .int (iI zb)), (6, .int (iI z6)), (0, .ref b), (1, .ref (ad 0)), (2, .ref (am 0)), (3, .ref o), (4, .ref od), (5, .int (iI i))]) hx hb dL_law_939 hl (by decide) rfl (fun ls hl => ?_)
    have hT : y_mthr = z6 := by
      obtain ⟨cq, m1, m2⟩ := mq
      rcases rel_latK hch hu9 hr m1 with ⟨q1, q2⟩ | ⟨q1, q2, q3, q4, q5, q6⟩
      · omega
      · exact absurd q1 kq.2
    have hI2 : LInv (n + 1) v hs sv pos cmd vals txt len hc hn hsv mal fai lnb lct ms msav misv mpast mpm mline mlm mtxt mlen merr mfail mcmd := by
      exact LI_q hn9 hI
    refine lv_aload_n hx hb dL_law_941 rfl (lv_at hl 4 rfl) ?_
    refine zz_callVi_ch (As := []) (rest := []) (L := [xOut tA o og, xOud tA od dg, xMod tA am ms mbef msav misv mpast mpm y_mthr mways mnds mtkp mline mlm mtxt mlen mat mwr merr mfail mcmd mcm, xObj ad hsv mal fai, xOff tA ad v shrt grp seen tp shr need ordr size, xScr tA K ad pos cmd vals txt len, xHis tA ad hc hn hs, xBef tA ad bt, xSav tA ad sv, xLin tA ad lnb lml lct]) (Lc := [xMod tA am ms mbef msav misv mpast mpm y_mthr mways mnds mtkp mline mlm mtxt mlen mat mwr merr mfail mcmd mcm]) (Lr := [xOut tA o og, xOud tA od dg, xObj ad hsv mal fai, xOff tA ad v shrt grp seen tp shr need ordr size, xScr tA K ad pos cmd vals txt len, xHis tA ad hc hn hs, xBef tA ad bt, xSav tA ad sv, xLin tA ad lnb lml lct]) (Lc' := fun u => [xMod tA am ms mbef msav misv mpast mpm y_mthr mways mnds mtkp mline mlm mtxt mlen mat mwr merr mfail mcmd mcm]) (Lf := fun u => [xOut tA o og, xOud tA od dg, xMod tA am ms mbef msav misv mpast mpm y_mthr mways mnds mtkp mline mlm mtxt mlen mat mwr merr mfail mcmd mcm, xObj ad hsv mal fai, xOff tA ad v shrt grp seen tp shr need ordr size, xScr tA K ad pos cmd vals txt len, xHis tA ad hc hn hs, xBef tA ad bt, xSav tA ad sv, xLin tA ad lnb lml lct]) (is := [2, 0, 1, 3, 4, 5, 6, 7, 8, 9]) (isF := [0, 1, 9, 2, 3, 4, 5, 6, 7, 8]) ⟨hx, hb, hml, hown, hts⟩ (c_X11_thrown l D tA (am 0) (am 1) (am 2) (am 3) (am 4) (am 5) (am 6) (am 7) (am 8) (am 9) (am 10) H.size ms mbef msav misv mpast mpm y_mthr mways mnds mtkp mline mlm mtxt mlen mat mwr merr mfail mcmd mcm) (cwV 0 hts (gx_tbl gL_law_X11_thrown) rfl rfl rfl (by decide +kernel) ⟨Nat.le_of_ble_eq_true rfl, Nat.le_of_ble_eq_true rfl⟩) hK hP hD hS hA ⟨rfl, rfl, (by decide)⟩ ⟨fun _ => rfl, fun _ => rfl, (by decide)⟩ (ci := 13) (q0 := 0) rfl rfl rfl rfl rfl hl.1 (Nat.le_of_ble_eq_true rfl) dL_law_942 (by show _ + 0 ≤ 603072 ∧ _ + 0 ≤ 7207018; omega) ?_
    intro zt u H locs hzt hP hD hS
    have hP : va_P D vwCl ([xOut tA o og, xOud tA od dg, xMod tA am ms mbef msav misv mpast mpm y_mthr mways mnds mtkp mline mlm mtxt mlen mat mwr merr mfail mcmd mcm, xObj ad hsv mal fai, xOff tA ad v shrt grp seen tp shr need ordr size, xScr tA K ad pos cmd vals txt len, xHis tA ad hc hn hs, xBef tA ad bt, xSav tA ad sv, xLin tA ad lnb lml lct]).flatten H := hP
    have hD : va_D (lwA s) ([xOut tA o og, xOud tA od dg, xMod tA am ms mbef msav misv mpast mpm y_mthr mways mnds mtkp mline mlm mtxt mlen mat mwr merr mfail mcmd mcm, xObj ad hsv mal fai, xOff tA ad v shrt grp seen tp shr need ordr size, xScr tA K ad pos cmd vals txt len, xHis tA ad hc hn hs, xBef tA ad bt, xSav tA ad sv, xLin tA ad lnb lml lct]).flatten := hD
    have hzt : zt = y_mthr := hzt
    have hz69 : 0 ≤ z6 ∧ z6 ≤ 9 := by omega
    refine lv_iload hx hb dL_law_945 (lv_at hl 1 rfl) ?_
    refine zz_icmp_eq (tgt := 952) hx hb dL_law_947 (by decide) (by omega) (by omega) (fun _ => ?_) (fun c9 => absurd (by omega) c9)
    refine lv_iload hx hb dL_law_952 (lv_at hl 1 rfl) ?_
    refine zz_if_ne (tgt := 969) hx hb dL_law_954 (by decide) (by omega) (fun _ => ?_) (fun c9 => absurd c9 (by omega))
    refine lv_goto (tgt := 2917) hx hb dL_law_969 (by decide) ?_
    refine W.widen (k := k9 + 20) (n := n9 + 200) (by omega) (by omega) ?_
    exact kk v shrt grp seen tp shr need ordr size pos cmd vals txt len hc hn hs bt sv hsv mal fai lnb lml lct ms mbef msav misv mpast mpm y_mthr mways mnds mtkp mline mlm mtxt mlen mat mwr merr mfail mcmd mcm og dg _ _ _ hI2 hP hD hS (lv_sub hl [2, 3, 4, 5, 6, 7] rfl)
