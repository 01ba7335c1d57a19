/-! ===== the law, call by call (5) ===== -/
set_option maxHeartbeats 8000000 in
set_option maxRecDepth 100000 in
theorem law_c24 {p : Program} {l : Launch} (hst : l.stackTraces = false) {e : Env} {s : State} {m : MethodId} {below : List Frame} {meth : Method} {c : Code} {D : va_G} {tA : Nat → ClassId} {K : Nat → Nat} {b L : Nat} {xs : Nat → Int32} (hL : L ≤ 2560) (C0 : lw_At p s m meth c b L xs) (hK : zK D tA s) (hZ : zT K (lwA s) s) {ad am : Nat → Nat} {o od : Nat} {i n : Int} (hi : 0 ≤ i ∧ i + 5 ≤ L) (hn9 : n < 600) {k9 n9 : Nat} (hk9 : k9 + 20 ≤ 603072 ∧ n9 + 200 ≤ 7207018) {v : Nat → Int → Int} {shrt : Int → Int} {grp : Int → Int} {seen : Int → Int} {tp : Int → Int} {shr : Int → Int} {need : Int → Int} {ordr : Int → Int} {size : Int} {pos : Int} {cmd : Int} {vals : Int → Int} {txt : Int → Int} {len : Int} {hc : Int} {hn : Int} {hs : Nat → Nat → Int → Int} {bt : Nat → Int → Int} {sv : Nat → Int → Int} {hsv : Int} {mal : Int} {fai : Int} {lnb : Int → Int} {lml : Int} {lct : Int} {ms : Int → Int} {mbef : Int → Int} {msav : Int → Int} {misv : Int} {mpast : Int → Int} {mpm : Int} {mthr : Int} {mways : Int → Int} {mnds : Int → Int} {mtkp : Int → Int} {mline : Int → Int} {mlm : Int} {mtxt : Int → Int} {mlen : Int} {mat : Int} {mwr : Int} {merr : Int} {mfail : Int} {mcmd : Int → Int} {mcm : Int} {og : Int → Int} {dg : Nat → UInt64} {H : Heap} {locs : List Loc} {ls : Array Slot} (hI : LInv n v hs sv pos cmd vals txt len hc hn hsv mal fai lnb lct ms msav misv mpast mpm mline mlm mtxt mlen merr mfail mcmd) (hP : va_P D vwCl (xW tA K ad am o od v shrt grp seen tp shr need ordr size pos cmd vals txt len hc hn hs bt sv hsv mal fai lnb lml lct ms mbef msav misv mpast mpm mthr mways mnds mtkp mline mlm mtxt mlen mat mwr merr mfail mcmd mcm og dg).flatten H) (hD : va_D (lwA s) (xW tA K ad am o od v shrt grp seen tp shr need ordr size pos cmd vals txt len hc hn hs bt sv hsv mal fai lnb lml lct ms mbef msav misv mpast mpm mthr mways mnds mtkp mline mlm mtxt mlen mat mwr merr mfail mcmd mcm og dg).flatten) (hS : va_S (lwA s) s.heap H locs) (hl : lv_has ls 9 [(0, .ref b), (1, .ref (ad 0)), (2, .ref (am 0)), (3, .ref o), (4, .ref od), (5, .int (iI i))]) (kk : lwK p l e s m below meth c D tA K ad am o od b i n k9 n9) : W p l e room_1 s m #[Value.ref b] below meth c H locs k9 n9 (lw_Z below #[Value.ref b] s) (F0 m 1654 ls []) := by
  obtain ⟨hx, hb, hrt, hml, hown, hts, hX, hbl, hlocks, hgv⟩ := id C0
  have hts := lw_more hts
  have hA : ∀ q : Nat, s.heap.size ≤ q → lwA s q := fun _ h => h
  have hbA : ¬ lwA s b := Nat.not_le.mpr hbl
  have hCn := hZ.2.2.2
  obtain ⟨⟨n0, n6, l0, l6, ln⟩, hLS, ⟨hhn, hhc, hpm, hhi⟩, ⟨hsv01, hmis, hsvv, hsvr⟩, ⟨hlen, htxt, htx⟩, ⟨hlm, hln, hl0, hl16, hlb⟩, ⟨her, hfa, hm1, hm2, hf1, hf2⟩, ⟨hcd0, hcd1, hps0, hps1, hva⟩, hcr⟩ := id hI
  have hv := hLS.1
  have hr := hLS.2
  have hch : ChS v := hv.1
  have hu9 : ChW v := hv.2.1
  obtain ⟨-, -, hcc, hsp, hmo, hfog, hrg, hni, hfd, hmt9, hln9, hsum⟩ := SVk_out (show SVk _ _ (etS v) from hv)
  have hmv := rel_MV hv hr (by omega) (by omega)
  obtain ⟨e0, e1, e2, e3, e4, e5, e6⟩ := id hr.1
  have eE := rel_sE hch hr
  have hmon : ∀ j, 0 ≤ j → j < v 7 0 → 0 ≤ v 10 j ∧ v 10 j ≤ 6000000 := fun j j0 j1 => by have := hmo j j0 j1; omega
  have hlnd : ∀ j, 0 ≤ j → j < v 7 0 → (0 ≤ v 11 j ∧ v 11 j ≤ 600) ∧ (0 ≤ v 12 j ∧ v 12 j ≤ 600) := fun j j0 j1 => by have := hln9 j j0 j1; omega
  refine lv_aload_n hx hb dL_law_1654 rfl (lv_at hl 1 rfl) ?_
  refine lv_aload_n hx hb dL_law_1655 rfl (lv_at hl 0 rfl) ?_
  refine lv_iload hx hb dL_law_1656 (lv_at hl 5 rfl) ?_
  refine zz_iconst hx hb dL_law_1658 ?_
  refine zz_iadd hx hb dL_law_1659 ?_
  refine zz_sld hx hb hX hbl hbA hS (k := i + 1) (by omega) hL dL_law_1660 ?_
  refine lv_aload_n hx hb dL_law_1661 rfl (lv_at hl 3 rfl) ?_
  refine zh_callSi_ch (As := [.ref (ad 0), .int (iI (xz xs (i + 1))), .ref o]) (rest := []) (L := [xOut tA o og, xOud tA od dg, xMod tA am ms mbef msav misv mpast mpm mthr mways mnds mtkp mline mlm mtxt mlen mat mwr merr mfail mcmd mcm, xObj ad hsv mal fai, xOff tA ad v shrt grp seen tp shr need ordr size, xScr tA K ad pos cmd vals txt len, xHis tA ad hc hn hs, xBef tA ad bt, xSav tA ad sv, xLin tA ad lnb lml lct]) (Lc := [xOut tA o og, xObj ad hsv mal fai, xOff tA ad v shrt grp seen tp shr need ordr size]) (Lr := [xOud tA od dg, xMod tA am ms mbef msav misv mpast mpm mthr mways mnds mtkp mline mlm mtxt mlen mat mwr merr mfail mcmd mcm, xScr tA K ad pos cmd vals txt len, xHis tA ad hc hn hs, xBef tA ad bt, xSav tA ad sv, xLin tA ad lnb lml lct]) (Lc' := fun u => Sum.elim (fun u => [xOut tA o (zU og 0 u.1), xObj ad hsv mal fai, xOff tA ad v shrt grp seen tp shr need ordr size]) (fun u => [xOut tA o og, xObj ad hsv mal fai, xOff tA ad v shrt grp seen tp shr need ordr size]) u) (Lf := fun u => Sum.elim (fun u => [xOut tA o (zU og 0 u.1), xOud tA od dg, xMod tA am ms mbef msav misv mpast mpm mthr mways mnds mtkp mline mlm mtxt mlen mat mwr merr mfail mcmd mcm, xObj ad hsv mal fai, xOff tA ad v shrt grp seen tp shr need ordr size, xScr tA K ad pos cmd vals txt len, xHis tA ad hc hn hs, xBef tA ad bt, xSav tA ad sv, xLin tA ad lnb lml lct]) (fun u => [xOut tA o og, xOud tA od dg, xMod tA am ms mbef msav misv mpast mpm mthr mways mnds mtkp mline mlm mtxt mlen mat mwr merr mfail mcmd mcm, xObj ad hsv mal fai, xOff tA ad v shrt grp seen tp shr need ordr size, xScr tA K ad pos cmd vals txt len, xHis tA ad hc hn hs, xBef tA ad bt, xSav tA ad sv, xLin tA ad lnb lml lct]) u) (is := [0, 3, 4, 1, 2, 5, 6, 7, 8, 9]) (isF := [7, 0, 1, 8, 9, 2, 3, 4, 5, 6]) ⟨hx, hb, hml, hown, hts⟩ (c_L_moneyOf l hst K D tA (ad 0) (ad 1) (ad 2) (ad 3) (ad 4) (ad 5) (ad 6) (ad 7) (ad 8) (ad 9) (ad 10) (ad 11) (ad 12) (ad 13) (ad 14) (ad 15) (ad 16) (ad 17) (ad 18) (ad 19) (ad 20) (ad 21) (ad 22) (ad 23) (ad 24) (ad 27) (ad 146) (ad 133) (ad 159) o H.size og (v 0 0) (v 1 0) (v 2) (v 3) (v 4) (v 5) (v 6) (v 7 0) (v 8) (v 9) (v 10) (v 11) (v 12) (v 13 0) (v 14 0) (v 15 0) (v 16 0) (v 17 0) (v 18 0) shrt grp seen tp shr need ordr size hsv mal fai  (xz xs (i + 1)) (xz_in _ _) hcc (fun j j0 j1 => by have := hmon j j0 j1; omega)) (vx_cwSW 3 hts (gx_wr gL_law_L_moneyOf) rfl rfl rfl (by decide +kernel) ⟨Nat.le_of_ble_eq_true rfl, Nat.le_of_ble_eq_true rfl⟩) hK hP hD hS hA hZ ⟨rfl, rfl, (by decide)⟩ ⟨fun u => by cases u <;> rfl, fun u => by cases u <;> rfl, (by decide)⟩ rfl rfl hl.1 (Nat.le_of_ble_eq_true rfl) dL_law_1662 (by show k9 + 1 ≤ 603072 ∧ n9 + 6 ≤ 7207018; omega) ?_
  intro z6 u H locs hq hP hD hS
  rcases u with ⟨zc, u⟩ | u
  · skip
    obtain ⟨hz6, kq, hzr⟩ := hq
    have kq : (0 ≤ (xz xs (i + 1)) ∧ (xz xs (i + 1)) < (v 7 0)) ∧ zc = (v 10) (xz xs (i + 1)) := kq
    have hz6 : z6 = 0 := hz6
    have hzr : -2147483648 ≤ zc ∧ zc ≤ 2147483647 := hzr
    have hP : va_P D vwCl ([xOut tA o (zU og 0 zc), xOud tA od dg, xMod tA am ms mbef msav misv mpast mpm mthr mways mnds mtkp mline mlm mtxt mlen mat mwr merr mfail mcmd mcm, xObj ad hsv mal fai, xOff tA ad v shrt grp seen tp shr need ordr size, xScr tA K ad pos cmd vals txt len, xHis tA ad hc hn hs, xBef tA ad bt, xSav tA ad sv, xLin tA ad lnb lml lct]).flatten H := hP
    have hD : va_D (lwA s) ([xOut tA o (zU og 0 zc), xOud tA od dg, xMod tA am ms mbef msav misv mpast mpm mthr mways mnds mtkp mline mlm mtxt mlen mat mwr merr mfail mcmd mcm, xObj ad hsv mal fai, xOff tA ad v shrt grp seen tp shr need ordr size, xScr tA K ad pos cmd vals txt len, xHis tA ad hc hn hs, xBef tA ad bt, xSav tA ad sv, xLin tA ad lnb lml lct]).flatten := hD
    refine lv_istore (lv' := [(6, .int (iI z6)), (0, .ref b), (1, .ref (ad 0)), (2, .ref (am 0)), (3, .ref o), (4, .ref od), (5, .int (iI i))]) hx hb dL_law_1665 hl (by decide) rfl (fun ls hl => ?_)
    refine lv_aload_n hx hb dL_law_1667 rfl (lv_at hl 3 rfl) ?_
    refine lv_aload_n hx hb dL_law_1668 rfl (lv_at hl 1 rfl) ?_
    refine lv_iload hx hb dL_law_1669 (lv_at hl 6 rfl) ?_
    refine zz_iconst hx hb dL_law_1671 ?_
    refine zz_iadd hx hb dL_law_1672 ?_
    refine zz_sld hx hb hX hbl hbA hS (k := i + 1) (by omega) hL dL_law_1673 ?_
    refine zz_callVi_ch (As := [.int (iI (xz xs (i + 1)))]) (rest := []) (L := [xOut tA o (zU og 0 zc), xOud tA od dg, xMod tA am ms mbef msav misv mpast mpm mthr mways mnds mtkp mline mlm mtxt mlen mat mwr merr mfail mcmd mcm, xObj ad hsv mal fai, xOff tA ad v shrt grp seen tp shr need ordr size, xScr tA K ad pos cmd vals txt len, xHis tA ad hc hn hs, xBef tA ad bt, xSav tA ad sv, xLin tA ad lnb lml lct]) (Lc := [xMod tA am ms mbef msav misv mpast mpm mthr mways mnds mtkp mline mlm mtxt mlen mat mwr merr mfail mcmd mcm]) (Lr := [xOut tA o (zU og 0 zc), xOud tA od dg, xObj ad hsv mal fai, xOff tA ad v shrt grp seen tp shr need ordr size, xScr tA K ad pos cmd vals txt len, xHis tA ad hc hn hs, xBef tA ad bt, xSav tA ad sv, xLin tA ad lnb lml lct]) (Lc' := fun u => [xMod tA am ms mbef msav misv mpast mpm u mways mnds mtkp mline mlm mtxt mlen mat mwr merr mfail mcmd mcm]) (Lf := fun u => [xOut tA o (zU og 0 zc), xOud tA od dg, xMod tA am ms mbef msav misv mpast mpm u mways mnds mtkp mline mlm mtxt mlen mat mwr merr mfail mcmd mcm, xObj ad hsv mal fai, xOff tA ad v shrt grp seen tp shr need ordr size, xScr tA K ad pos cmd vals txt len, xHis tA ad hc hn hs, xBef tA ad bt, xSav tA ad sv, xLin tA ad lnb lml lct]) (is := [2, 0, 1, 3, 4, 5, 6, 7, 8, 9]) (isF := [0, 1, 9, 2, 3, 4, 5, 6, 7, 8]) ⟨hx, hb, hml, hown, hts⟩ (c_X11_moneyOf l D tA (am 0) (am 1) (am 2) (am 3) (am 4) (am 5) (am 6) (am 7) (am 8) (am 9) (am 10) H.size ms mbef msav misv mpast mpm mthr mways mnds mtkp mline mlm mtxt mlen mat mwr merr mfail mcmd mcm (xz xs (i + 1)) (xz_in _ _) ⟨hmv.1.1.2.2.1, hmv.1.1.2.2.2.1⟩) (cwV 1 hts (gx_tbl gL_law_X11_moneyOf) rfl rfl rfl (by decide +kernel) ⟨Nat.le_of_ble_eq_true rfl, Nat.le_of_ble_eq_true rfl⟩) hK hP hD hS hA ⟨rfl, rfl, (by decide)⟩ ⟨fun _ => rfl, fun _ => rfl, (by decide)⟩ (ci := 13) (q0 := 0) rfl rfl rfl rfl rfl hl.1 (Nat.le_of_ble_eq_true rfl) dL_law_1674 (by show _ + 0 ≤ 603072 ∧ _ + 0 ≤ 7207018; omega) ?_
    intro zb u H locs hmq hP hD hS
    obtain ⟨y_mthr, rfl⟩ : ∃ q, q = u := ⟨_, rfl⟩
    have hP : va_P D vwCl ([xOut tA o (zU og 0 zc), xOud tA od dg, xMod tA am ms mbef msav misv mpast mpm y_mthr mways mnds mtkp mline mlm mtxt mlen mat mwr merr mfail mcmd mcm, xObj ad hsv mal fai, xOff tA ad v shrt grp seen tp shr need ordr size, xScr tA K ad pos cmd vals txt len, xHis tA ad hc hn hs, xBef tA ad bt, xSav tA ad sv, xLin tA ad lnb lml lct]).flatten H := hP
    have hD : va_D (lwA s) ([xOut tA o (zU og 0 zc), xOud tA od dg, xMod tA am ms mbef msav misv mpast mpm y_mthr mways mnds mtkp mline mlm mtxt mlen mat mwr merr mfail mcmd mcm, xObj ad hsv mal fai, xOff tA ad v shrt grp seen tp shr need ordr size, xScr tA K ad pos cmd vals txt len, xHis tA ad hc hn hs, xBef tA ad bt, xSav tA ad sv, xLin tA ad lnb lml lct]).flatten := hD
    have mq : (y_mthr = 1 ∧ ¬ (0 ≤ (xz xs (i + 1)) ∧ (xz xs (i + 1)) < ms 1)) ∨ (y_mthr = 0 ∧ (0 ≤ (xz xs (i + 1)) ∧ (xz xs (i + 1)) < ms 1) ∧ zb = suM ms (xz xs (i + 1)) 2) := hmq
    clear hmq
    refine lv_istore (lv' := [(7, .int (iI zb)), (6, .int (iI z6)), (0, .ref b), (1, .ref (ad 0)), (2, .ref (am 0)), (3, .ref o), (4, .ref od), (5, .int (iI i))]) hx hb dL_law_1677 hl (by decide) rfl (fun ls hl => ?_)
    have hTV : y_mthr = 0 ∧ zb = zc := by
      rw [e1] at mq
      rcases mq with ⟨-, m⟩ | ⟨m0, m1, m2⟩
      · exact absurd kq.1 m
      · have u9 := hr.2.1 (xz xs (i + 1)) m1.1 m1.2
        exact ⟨m0, m2.trans (u9.2.2.1.trans kq.2.symm)⟩
    have hT : y_mthr = z6 := hTV.1.trans hz6.symm
    have hI2 : LInv (n + 1) v hs sv pos cmd vals txt len hc hn hsv mal fai lnb lct ms msav misv mpast mpm mline mlm mtxt mlen merr mfail mcmd := by
      exact LI_q hn9 hI
    refine lv_aload_n hx hb dL_law_1679 rfl (lv_at hl 4 rfl) ?_
    refine zz_callVi_ch (As := []) (rest := []) (L := [xOut tA o (zU og 0 zc), xOud tA od dg, xMod tA am ms mbef msav misv mpast mpm y_mthr mways mnds mtkp mline mlm mtxt mlen mat mwr merr mfail mcmd mcm, xObj ad hsv mal fai, xOff tA ad v shrt grp seen tp shr need ordr size, xScr tA K ad pos cmd vals txt len, xHis tA ad hc hn hs, xBef tA ad bt, xSav tA ad sv, xLin tA ad lnb lml lct]) (Lc := [xMod tA am ms mbef msav misv mpast mpm y_mthr mways mnds mtkp mline mlm mtxt mlen mat mwr merr mfail mcmd mcm]) (Lr := [xOut tA o (zU og 0 zc), xOud tA od dg, xObj ad hsv mal fai, xOff tA ad v shrt grp seen tp shr need ordr size, xScr tA K ad pos cmd vals txt len, xHis tA ad hc hn hs, xBef tA ad bt, xSav tA ad sv, xLin tA ad lnb lml lct]) (Lc' := fun u => [xMod tA am ms mbef msav misv mpast mpm y_mthr mways mnds mtkp mline mlm mtxt mlen mat mwr merr mfail mcmd mcm]) (Lf := fun u => [xOut tA o (zU og 0 zc), xOud tA od dg, xMod tA am ms mbef msav misv mpast mpm y_mthr mways mnds mtkp mline mlm mtxt mlen mat mwr merr mfail mcmd mcm, xObj ad hsv mal fai, xOff tA ad v shrt grp seen tp shr need ordr size, xScr tA K ad pos cmd vals txt len, xHis tA ad hc hn hs, xBef tA ad bt, xSav tA ad sv, xLin tA ad lnb lml lct]) (is := [2, 0, 1, 3, 4, 5, 6, 7, 8, 9]) (isF := [0, 1, 9, 2, 3, 4, 5, 6, 7, 8]) ⟨hx, hb, hml, hown, hts⟩ (c_X11_thrown l D tA (am 0) (am 1) (am 2) (am 3) (am 4) (am 5) (am 6) (am 7) (am 8) (am 9) (am 10) H.size ms mbef msav misv mpast mpm y_mthr mways mnds mtkp mline mlm mtxt mlen mat mwr merr mfail mcmd mcm) (cwV 0 hts (gx_tbl gL_law_X11_thrown) rfl rfl rfl (by decide +kernel) ⟨Nat.le_of_ble_eq_true rfl, Nat.le_of_ble_eq_true rfl⟩) hK hP hD hS hA ⟨rfl, rfl, (by decide)⟩ ⟨fun _ => rfl, fun _ => rfl, (by decide)⟩ (ci := 13) (q0 := 0) rfl rfl rfl rfl rfl hl.1 (Nat.le_of_ble_eq_true rfl) dL_law_1680 (by show _ + 0 ≤ 603072 ∧ _ + 0 ≤ 7207018; omega) ?_
    intro zt u H locs hzt hP hD hS
    have hP : va_P D vwCl ([xOut tA o (zU og 0 zc), xOud tA od dg, xMod tA am ms mbef msav misv mpast mpm y_mthr mways mnds mtkp mline mlm mtxt mlen mat mwr merr mfail mcmd mcm, xObj ad hsv mal fai, xOff tA ad v shrt grp seen tp shr need ordr size, xScr tA K ad pos cmd vals txt len, xHis tA ad hc hn hs, xBef tA ad bt, xSav tA ad sv, xLin tA ad lnb lml lct]).flatten H := hP
    have hD : va_D (lwA s) ([xOut tA o (zU og 0 zc), xOud tA od dg, xMod tA am ms mbef msav misv mpast mpm y_mthr mways mnds mtkp mline mlm mtxt mlen mat mwr merr mfail mcmd mcm, xObj ad hsv mal fai, xOff tA ad v shrt grp seen tp shr need ordr size, xScr tA K ad pos cmd vals txt len, xHis tA ad hc hn hs, xBef tA ad bt, xSav tA ad sv, xLin tA ad lnb lml lct]).flatten := hD
    have hzt : zt = y_mthr := hzt
    have hz69 : 0 ≤ z6 ∧ z6 ≤ 9 := by omega
    refine lv_iload hx hb dL_law_1683 (lv_at hl 1 rfl) ?_
    refine zz_icmp_eq (tgt := 1690) hx hb dL_law_1685 (by decide) (by omega) (by omega) (fun _ => ?_) (fun c9 => absurd (by omega) c9)
    refine lv_iload hx hb dL_law_1690 (lv_at hl 1 rfl) ?_
    refine zz_if_ne (tgt := 1707) hx hb dL_law_1692 (by decide) (by omega) (fun c9 => absurd hz6 c9) (fun _ => ?_)
    refine lv_aload_n hx hb dL_law_1695 rfl (lv_at hl 5 rfl) ?_
    refine zz_iconst hx hb dL_law_1696 ?_
    refine zz_lald hx hb hK hP 0 rfl (by decide) (by decide) dL_law_1697 ?_
    rw [zU_same]
    refine lv_iload hx hb dL_law_1698 (lv_at hl 0 rfl) ?_
    refine zz_i2l hx hb dL_law_1700 (by omega) ?_
    rw [hTV.2]
    refine zz_lcmp hx hb dL_law_1701 (by omega) (by omega) ?_
    rw [cmpZ_s]
    refine zz_if_eq (tgt := 1707) hx hb dL_law_1702 (by decide) (by decide) (fun _ => ?_) (fun c9 => absurd rfl c9)
    refine lv_goto (tgt := 2917) hx hb dL_law_1707 (by decide) ?_
    refine W.widen (k := k9 + 20) (n := n9 + 200) (by omega) (by omega) ?_
    exact kk v shrt grp seen tp shr need ordr size pos cmd vals txt len hc hn hs bt sv hsv mal fai lnb lml lct ms mbef msav misv mpast mpm y_mthr mways mnds mtkp mline mlm mtxt mlen mat mwr merr mfail mcmd mcm (zU og 0 zc) dg _ _ _ hI2 hP hD hS (lv_sub hl [2, 3, 4, 5, 6, 7] rfl)
  · obtain ⟨kx, rfl⟩ : ∃ q, q = u := ⟨_, rfl⟩
    have kq : kx = 1 ∧ ¬ (0 ≤ (xz xs (i + 1)) ∧ (xz xs (i + 1)) < (v 7 0)) := hq.1
    have kc : (kx = 1 ∧ z6 = 1) := hq.2
    have hP : va_P D vwCl ([xOut tA o og, xOud tA od dg, xMod tA am ms mbef msav misv mpast mpm mthr mways mnds mtkp mline mlm mtxt mlen mat mwr merr mfail mcmd mcm, xObj ad hsv mal fai, xOff tA ad v shrt grp seen tp shr need ordr size, xScr tA K ad pos cmd vals txt len, xHis tA ad hc hn hs, xBef tA ad bt, xSav tA ad sv, xLin tA ad lnb lml lct]).flatten H := hP
    have hD : va_D (lwA s) ([xOut tA o og, xOud tA od dg, xMod tA am ms mbef msav misv mpast mpm mthr mways mnds mtkp mline mlm mtxt mlen mat mwr merr mfail mcmd mcm, xObj ad hsv mal fai, xOff tA ad v shrt grp seen tp shr need ordr size, xScr tA K ad pos cmd vals txt len, xHis tA ad hc hn hs, xBef tA ad bt, xSav tA ad sv, xLin tA ad lnb lml lct]).flatten := hD
    refine lv_istore (lv' := [(6, .int (iI z6)), (0, .ref b), (1, .ref (ad 0)), (2, .ref (am 0)), (3, .ref o), (4, .ref od), (5, .int (iI i))]) hx hb dL_law_1665 hl (by decide) rfl (fun ls hl => ?_)
    refine lv_aload_n hx hb dL_law_1667 rfl (lv_at hl 3 rfl) ?_
    refine lv_aload_n hx hb dL_law_1668 rfl (lv_at hl 1 rfl) ?_
    refine lv_iload hx hb dL_law_1669 (lv_at hl 6 rfl) ?_
    refine zz_iconst hx hb dL_law_1671 ?_
    refine zz_iadd hx hb dL_law_1672 ?_
    refine zz_sld hx hb hX hbl hbA hS (k := i + 1) (by omega) hL dL_law_1673 ?_
    refine zz_callVi_ch (As := [.int (iI (xz xs (i + 1)))]) (rest := []) (L := [xOut tA o og, xOud tA od dg, xMod tA am ms mbef msav misv mpast mpm mthr mways mnds mtkp mline mlm mtxt mlen mat mwr merr mfail mcmd mcm, xObj ad hsv mal fai, xOff tA ad v shrt grp seen tp shr need ordr size, xScr tA K ad pos cmd vals txt len, xHis tA ad hc hn hs, xBef tA ad bt, xSav tA ad sv, xLin tA ad lnb lml lct]) (Lc := [xMod tA am ms mbef msav misv mpast mpm mthr mways mnds mtkp mline mlm mtxt mlen mat mwr merr mfail mcmd mcm]) (Lr := [xOut tA o og, xOud tA od dg, xObj ad hsv mal fai, xOff tA ad v shrt grp seen tp shr need ordr size, xScr tA K ad pos cmd vals txt len, xHis tA ad hc hn hs, xBef tA ad bt, xSav tA ad sv, xLin tA ad lnb lml lct]) (Lc' := fun u => [xMod tA am ms mbef msav misv mpast mpm u mways mnds mtkp mline mlm mtxt mlen mat mwr merr mfail mcmd mcm]) (Lf := fun u => [xOut tA o og, xOud tA od dg, xMod tA am ms mbef msav misv mpast mpm u mways mnds mtkp mline mlm mtxt mlen mat mwr merr mfail mcmd mcm, xObj ad hsv mal fai, xOff tA ad v shrt grp seen tp shr need ordr size, xScr tA K ad pos cmd vals txt len, xHis tA ad hc hn hs, xBef tA ad bt, xSav tA ad sv, xLin tA ad lnb lml lct]) (is := [2, 0, 1, 3, 4, 5, 6, 7, 8, 9]) (isF := [0, 1, 9, 2, 3, 4, 5, 6, 7, 8]) ⟨hx, hb, hml, hown, hts⟩ (c_X11_moneyOf l D tA (am 0) (am 1) (am 2) (am 3) (am 4) (am 5) (am 6) (am 7) (am 8) (am 9) (am 10) H.size ms mbef msav misv mpast mpm mthr mways mnds mtkp mline mlm mtxt mlen mat mwr merr mfail mcmd mcm (xz xs (i + 1)) (xz_in _ _) ⟨hmv.1.1.2.2.1, hmv.1.1.2.2.2.1⟩) (cwV 1 hts (gx_tbl gL_law_X11_moneyOf) rfl rfl rfl (by decide +kernel) ⟨Nat.le_of_ble_eq_true rfl, Nat.le_of_ble_eq_true rfl⟩) hK hP hD hS hA ⟨rfl, rfl, (by decide)⟩ ⟨fun _ => rfl, fun _ => rfl, (by decide)⟩ (ci := 13) (q0 := 0) rfl rfl rfl rfl rfl hl.1 (Nat.le_of_ble_eq_true rfl) dL_law_1674 (by show _ + 0 ≤ 603072 ∧ _ + 0 ≤ 7207018; omega) ?_
    intro zb u H locs hmq hP hD hS
    obtain ⟨y_mthr, rfl⟩ : ∃ q, q = u := ⟨_, rfl⟩
    have hP : va_P D vwCl ([xOut tA o og, xOud tA od dg, xMod tA am ms mbef msav misv mpast mpm y_mthr mways mnds mtkp mline mlm mtxt mlen mat mwr merr mfail mcmd mcm, xObj ad hsv mal fai, xOff tA ad v shrt grp seen tp shr need ordr size, xScr tA K ad pos cmd vals txt len, xHis tA ad hc hn hs, xBef tA ad bt, xSav tA ad sv, xLin tA ad lnb lml lct]).flatten H := hP
    have hD : va_D (lwA s) ([xOut tA o og, xOud tA od dg, xMod tA am ms mbef msav misv mpast mpm y_mthr mways mnds mtkp mline mlm mtxt mlen mat mwr merr mfail mcmd mcm, xObj ad hsv mal fai, xOff tA ad v shrt grp seen tp shr need ordr size, xScr tA K ad pos cmd vals txt len, xHis tA ad hc hn hs, xBef tA ad bt, xSav tA ad sv, xLin tA ad lnb lml lct]).flatten := hD
    have mq : (y_mthr = 1 ∧ ¬ (0 ≤ (xz xs (i + 1)) ∧ (xz xs (i + 1)) < ms 1)) ∨ (y_mthr = 0 ∧ (0 ≤ (xz xs (i + 1)) ∧ (xz xs (i + 1)) < ms 1) ∧ zb = suM ms (xz xs (i + 1)) 2) := hmq
    clear hmq
    refine lv_istore (lv' := [(7, .int (iI zb)), (6, .int (iI z6)), (0, .ref b), (1, .ref (ad 0)), (2, .ref (am 0)), (3, .ref o), (4, .ref od), (5, .int (iI i))]) hx hb dL_law_1677 hl (by decide) rfl (fun ls hl => ?_)
    have hT : y_mthr = z6 := by
      rw [e1] at mq
      rcases mq with ⟨m0, -⟩ | ⟨-, m1, -⟩
      · omega
      · exact absurd m1 kq.2
    have hI2 : LInv (n + 1) v hs sv pos cmd vals txt len hc hn hsv mal fai lnb lct ms msav misv mpast mpm mline mlm mtxt mlen merr mfail mcmd := by
      exact LI_q hn9 hI
    refine lv_aload_n hx hb dL_law_1679 rfl (lv_at hl 4 rfl) ?_
    refine zz_callVi_ch (As := []) (rest := []) (L := [xOut tA o og, xOud tA od dg, xMod tA am ms mbef msav misv mpast mpm y_mthr mways mnds mtkp mline mlm mtxt mlen mat mwr merr mfail mcmd mcm, xObj ad hsv mal fai, xOff tA ad v shrt grp seen tp shr need ordr size, xScr tA K ad pos cmd vals txt len, xHis tA ad hc hn hs, xBef tA ad bt, xSav tA ad sv, xLin tA ad lnb lml lct]) (Lc := [xMod tA am ms mbef msav misv mpast mpm y_mthr mways mnds mtkp mline mlm mtxt mlen mat mwr merr mfail mcmd mcm]) (Lr := [xOut tA o og, xOud tA od dg, xObj ad hsv mal fai, xOff tA ad v shrt grp seen tp shr need ordr size, xScr tA K ad pos cmd vals txt len, xHis tA ad hc hn hs, xBef tA ad bt, xSav tA ad sv, xLin tA ad lnb lml lct]) (Lc' := fun u => [xMod tA am ms mbef msav misv mpast mpm y_mthr mways mnds mtkp mline mlm mtxt mlen mat mwr merr mfail mcmd mcm]) (Lf := fun u => [xOut tA o og, xOud tA od dg, xMod tA am ms mbef msav misv mpast mpm y_mthr mways mnds mtkp mline mlm mtxt mlen mat mwr merr mfail mcmd mcm, xObj ad hsv mal fai, xOff tA ad v shrt grp seen tp shr need ordr size, xScr tA K ad pos cmd vals txt len, xHis tA ad hc hn hs, xBef tA ad bt, xSav tA ad sv, xLin tA ad lnb lml lct]) (is := [2, 0, 1, 3, 4, 5, 6, 7, 8, 9]) (isF := [0, 1, 9, 2, 3, 4, 5, 6, 7, 8]) ⟨hx, hb, hml, hown, hts⟩ (c_X11_thrown l D tA (am 0) (am 1) (am 2) (am 3) (am 4) (am 5) (am 6) (am 7) (am 8) (am 9) (am 10) H.size ms mbef msav misv mpast mpm y_mthr mways mnds mtkp mline mlm mtxt mlen mat mwr merr mfail mcmd mcm) (cwV 0 hts (gx_tbl gL_law_X11_thrown) rfl rfl rfl (by decide +kernel) ⟨Nat.le_of_ble_eq_true rfl, Nat.le_of_ble_eq_true rfl⟩) hK hP hD hS hA ⟨rfl, rfl, (by decide)⟩ ⟨fun _ => rfl, fun _ => rfl, (by decide)⟩ (ci := 13) (q0 := 0) rfl rfl rfl rfl rfl hl.1 (Nat.le_of_ble_eq_true rfl) dL_law_1680 (by show _ + 0 ≤ 603072 ∧ _ + 0 ≤ 7207018; omega) ?_
    intro zt u H locs hzt hP hD hS
    have hP : va_P D vwCl ([xOut tA o og, xOud tA od dg, xMod tA am ms mbef msav misv mpast mpm y_mthr mways mnds mtkp mline mlm mtxt mlen mat mwr merr mfail mcmd mcm, xObj ad hsv mal fai, xOff tA ad v shrt grp seen tp shr need ordr size, xScr tA K ad pos cmd vals txt len, xHis tA ad hc hn hs, xBef tA ad bt, xSav tA ad sv, xLin tA ad lnb lml lct]).flatten H := hP
    have hD : va_D (lwA s) ([xOut tA o og, xOud tA od dg, xMod tA am ms mbef msav misv mpast mpm y_mthr mways mnds mtkp mline mlm mtxt mlen mat mwr merr mfail mcmd mcm, xObj ad hsv mal fai, xOff tA ad v shrt grp seen tp shr need ordr size, xScr tA K ad pos cmd vals txt len, xHis tA ad hc hn hs, xBef tA ad bt, xSav tA ad sv, xLin tA ad lnb lml lct]).flatten := hD
    have hzt : zt = y_mthr := hzt
    have hz69 : 0 ≤ z6 ∧ z6 ≤ 9 := by omega
    refine lv_iload hx hb dL_law_1683 (lv_at hl 1 rfl) ?_
    refine zz_icmp_eq (tgt := 1690) hx hb dL_law_1685 (by decide) (by omega) (by omega) (fun _ => ?_) (fun c9 => absurd (by omega) c9)
    refine lv_iload hx hb dL_law_1690 (lv_at hl 1 rfl) ?_
    refine zz_if_ne (tgt := 1707) hx hb dL_law_1692 (by decide) (by omega) (fun _ => ?_) (fun c9 => absurd c9 (by omega))
    refine lv_goto (tgt := 2917) hx hb dL_law_1707 (by decide) ?_
    refine W.widen (k := k9 + 20) (n := n9 + 200) (by omega) (by omega) ?_
    exact kk v shrt grp seen tp shr need ordr size pos cmd vals txt len hc hn hs bt sv hsv mal fai lnb lml lct ms mbef msav misv mpast mpm y_mthr mways mnds mtkp mline mlm mtxt mlen mat mwr merr mfail mcmd mcm og dg _ _ _ hI2 hP hD hS (lv_sub hl [2, 3, 4, 5, 6, 7] rfl)

set_option maxHeartbeats 8000000 in
set_option maxRecDepth 100000 in
theorem law_c25 {p : Program} {l : Launch} (hst : l.stackTraces = false) {e : Env} {s : State} {m : MethodId} {below : List Frame} {meth : Method} {c : Code} {D : va_G} {tA : Nat → ClassId} {K : Nat → Nat} {b L : Nat} {xs : Nat → Int32} (hL : L ≤ 2560) (C0 : lw_At p s m meth c b L xs) (hK : zK D tA s) (hZ : zT K (lwA s) s) {ad am : Nat → Nat} {o od : Nat} {i n : Int} (hi : 0 ≤ i ∧ i + 5 ≤ L) (hn9 : n < 600) {k9 n9 : Nat} (hk9 : k9 + 20 ≤ 603072 ∧ n9 + 200 ≤ 7207018) {v : Nat → Int → Int} {shrt : Int → Int} {grp : Int → Int} {seen : Int → Int} {tp : Int → Int} {shr : Int → Int} {need : Int → Int} {ordr : Int → Int} {size : Int} {pos : Int} {cmd : Int} {vals : Int → Int} {txt : Int → Int} {len : Int} {hc : Int} {hn : Int} {hs : Nat → Nat → Int → Int} {bt : Nat → Int → Int} {sv : Nat → Int → Int} {hsv : Int} {mal : Int} {fai : Int} {lnb : Int → Int} {lml : Int} {lct : Int} {ms : Int → Int} {mbef : Int → Int} {msav : Int → Int} {misv : Int} {mpast : Int → Int} {mpm : Int} {mthr : Int} {mways : Int → Int} {mnds : Int → Int} {mtkp : Int → Int} {mline : Int → Int} {mlm : Int} {mtxt : Int → Int} {mlen : Int} {mat : Int} {mwr : Int} {merr : Int} {mfail : Int} {mcmd : Int → Int} {mcm : Int} {og : Int → Int} {dg : Nat → UInt64} {H : Heap} {locs : List Loc} {ls : Array Slot} (hI : LInv n v hs sv pos cmd vals txt len hc hn hsv mal fai lnb lct ms msav misv mpast mpm mline mlm mtxt mlen merr mfail mcmd) (hP : va_P D vwCl (xW tA K ad am o od v shrt grp seen tp shr need ordr size pos cmd vals txt len hc hn hs bt sv hsv mal fai lnb lml lct ms mbef msav misv mpast mpm mthr mways mnds mtkp mline mlm mtxt mlen mat mwr merr mfail mcmd mcm og dg).flatten H) (hD : va_D (lwA s) (xW tA K ad am o od v shrt grp seen tp shr need ordr size pos cmd vals txt len hc hn hs bt sv hsv mal fai lnb lml lct ms mbef msav misv mpast mpm mthr mways mnds mtkp mline mlm mtxt mlen mat mwr merr mfail mcmd mcm og dg).flatten) (hS : va_S (lwA s) s.heap H locs) (hl : lv_has ls 9 [(0, .ref b), (1, .ref (ad 0)), (2, .ref (am 0)), (3, .ref o), (4, .ref od), (5, .int (iI i))]) (kk : lwK p l e s m below meth c D tA K ad am o od b i n k9 n9) : W p l e room_1 s m #[Value.ref b] below meth c H locs k9 n9 (lw_Z below #[Value.ref b] s) (F0 m 1710 ls []) := by
  obtain ⟨hx, hb, hrt, hml, hown, hts, hX, hbl, hlocks, hgv⟩ := id C0
  have hts := lw_more hts
  have hA : ∀ q : Nat, s.heap.size ≤ q → lwA s q := fun _ h => h
  have hbA : ¬ lwA s b := Nat.not_le.mpr hbl
  have hCn := hZ.2.2.2
  obtain ⟨⟨n0, n6, l0, l6, ln⟩, hLS, ⟨hhn, hhc, hpm, hhi⟩, ⟨hsv01, hmis, hsvv, hsvr⟩, ⟨hlen, htxt, htx⟩, ⟨hlm, hln, hl0, hl16, hlb⟩, ⟨her, hfa, hm1, hm2, hf1, hf2⟩, ⟨hcd0, hcd1, hps0, hps1, hva⟩, hcr⟩ := id hI
  have hv := hLS.1
  have hr := hLS.2
  have hch : ChS v := hv.1
  have hu9 : ChW v := hv.2.1
  obtain ⟨-, -, hcc, hsp, hmo, hfog, hrg, hni, hfd, hmt9, hln9, hsum⟩ := SVk_out (show SVk _ _ (etS v) from hv)
  have hmv := rel_MV hv hr (by omega) (by omega)
  obtain ⟨e0, e1, e2, e3, e4, e5, e6⟩ := id hr.1
  have eE := rel_sE hch hr
  have hmon : ∀ j, 0 ≤ j → j < v 7 0 → 0 ≤ v 10 j ∧ v 10 j ≤ 6000000 := fun j j0 j1 => by have := hmo j j0 j1; omega
  have hlnd : ∀ j, 0 ≤ j → j < v 7 0 → (0 ≤ v 11 j ∧ v 11 j ≤ 600) ∧ (0 ≤ v 12 j ∧ v 12 j ≤ 600) := fun j j0 j1 => by have := hln9 j j0 j1; omega
  refine lv_aload_n hx hb dL_law_1710 rfl (lv_at hl 1 rfl) ?_
  refine lv_aload_n hx hb dL_law_1711 rfl (lv_at hl 0 rfl) ?_
  refine lv_iload hx hb dL_law_1712 (lv_at hl 5 rfl) ?_
  refine zz_iconst hx hb dL_law_1714 ?_
  refine zz_iadd hx hb dL_law_1715 ?_
  refine zz_sld hx hb hX hbl hbA hS (k := i + 1) (by omega) hL dL_law_1716 ?_
  refine lv_aload_n hx hb dL_law_1717 rfl (lv_at hl 3 rfl) ?_
  refine zh_callSi_ch (As := [.ref (ad 0), .int (iI (xz xs (i + 1))), .ref o]) (rest := []) (L := [xOut tA o og, xOud tA od dg, xMod tA am ms mbef msav misv mpast mpm mthr mways mnds mtkp mline mlm mtxt mlen mat mwr merr mfail mcmd mcm, xObj ad hsv mal fai, xOff tA ad v shrt grp seen tp shr need ordr size, xScr tA K ad pos cmd vals txt len, xHis tA ad hc hn hs, xBef tA ad bt, xSav tA ad sv, xLin tA ad lnb lml lct]) (Lc := [xOut tA o og, xObj ad hsv mal fai, xOff tA ad v shrt grp seen tp shr need ordr size]) (Lr := [xOud tA od dg, xMod tA am ms mbef msav misv mpast mpm mthr mways mnds mtkp mline mlm mtxt mlen mat mwr merr mfail mcmd mcm, xScr tA K ad pos cmd vals txt len, xHis tA ad hc hn hs, xBef tA ad bt, xSav tA ad sv, xLin tA ad lnb lml lct]) (Lc' := fun u => Sum.elim (fun u => [xOut tA o (zU og 0 u.1), xObj ad hsv mal fai, xOff tA ad v shrt u.2 seen tp shr need ordr size]) (fun u => [xOut tA o og, xObj ad hsv mal fai, xOff tA ad v shrt u.2 seen tp shr need ordr size]) u) (Lf := fun u => Sum.elim (fun u => [xOut tA o (zU og 0 u.1), xOud tA od dg, xMod tA am ms mbef msav misv mpast mpm mthr mways mnds mtkp mline mlm mtxt mlen mat mwr merr mfail mcmd mcm, xObj ad hsv mal fai, xOff tA ad v shrt u.2 seen tp shr need ordr size, xScr tA K ad pos cmd vals txt len, xHis tA ad hc hn hs, xBef tA ad bt, xSav tA ad sv, xLin tA ad lnb lml lct]) (fun u => [xOut tA o og, xOud tA od dg, xMod tA am ms mbef msav misv mpast mpm mthr mways mnds mtkp mline mlm mtxt mlen mat mwr merr mfail mcmd mcm, xObj ad hsv mal fai, xOff tA ad v shrt u.2 seen tp shr need ordr size, xScr tA K ad pos cmd vals txt len, xHis tA ad hc hn hs, xBef tA ad bt, xSav tA ad sv, xLin tA ad lnb lml lct]) u) (is := [0, 3, 4, 1, 2, 5, 6, 7, 8, 9]) (isF := [7, 0, 1, 8, 9, 2, 3, 4, 5, 6]) ⟨hx, hb, hml, hown, hts⟩ (c_L_needOf l hst K D tA (ad 0) (ad 1) (ad 2) (ad 3) (ad 4) (ad 5) (ad 6) (ad 7) (ad 8) (ad 9) (ad 10) (ad 11) (ad 12) (ad 13) (ad 14) (ad 15) (ad 16) (ad 17) (ad 18) (ad 19) (ad 20) (ad 21) (ad 22) (ad 23) (ad 24) (ad 27) (ad 146) (ad 133) (ad 159) o H.size og (v 0 0) (v 1 0) (v 2) (v 3) (v 4) (v 5) (v 6) (v 7 0) (v 8) (v 9) (v 10) (v 11) (v 12) (v 13 0) (v 14 0) (v 15 0) (v 16 0) (v 17 0) (v 18 0) shrt grp seen tp shr need ordr size hsv mal fai  (xz xs (i + 1)) (xz_in _ _) hch hcc hsp) (vx_cwSW 3 hts (gx_wr gL_law_L_needOf) rfl rfl rfl (by decide +kernel) ⟨Nat.le_of_ble_eq_true rfl, Nat.le_of_ble_eq_true rfl⟩) hK hP hD hS hA hZ ⟨rfl, rfl, (by decide)⟩ ⟨fun u => by cases u <;> rfl, fun u => by cases u <;> rfl, (by decide)⟩ rfl rfl hl.1 (Nat.le_of_ble_eq_true rfl) dL_law_1718 (by show k9 + 2 ≤ 603072 ∧ n9 + 12 ≤ 7207018; omega) ?_
  intro z6 u H locs hq hP hD hS
  rcases u with ⟨zc, u⟩ | u
  · obtain ⟨w_grp, rfl⟩ : ∃ q, q = u := ⟨_, rfl⟩
    obtain ⟨hz6, kq, hzr⟩ := hq
    have kq : (0 ≤ (xz xs (i + 1)) ∧ (xz xs (i + 1)) < (v 7 0)) ∧ zc ≠ -1 ∧ needP (eg (v 1 0) (v 2) (v 3) (v 4) (v 5)) ((v 8) (xz xs (i + 1))) ((v 9) (xz xs (i + 1))) zc := kq
    have hz6 : z6 = 0 := hz6
    have hzr : -2147483648 ≤ zc ∧ zc ≤ 2147483647 := hzr
    have hP : va_P D vwCl ([xOut tA o (zU og 0 zc), xOud tA od dg, xMod tA am ms mbef msav misv mpast mpm mthr mways mnds mtkp mline mlm mtxt mlen mat mwr merr mfail mcmd mcm, xObj ad hsv mal fai, xOff tA ad v shrt w_grp seen tp shr need ordr size, xScr tA K ad pos cmd vals txt len, xHis tA ad hc hn hs, xBef tA ad bt, xSav tA ad sv, xLin tA ad lnb lml lct]).flatten H := hP
    have hD : va_D (lwA s) ([xOut tA o (zU og 0 zc), xOud tA od dg, xMod tA am ms mbef msav misv mpast mpm mthr mways mnds mtkp mline mlm mtxt mlen mat mwr merr mfail mcmd mcm, xObj ad hsv mal fai, xOff tA ad v shrt w_grp seen tp shr need ordr size, xScr tA K ad pos cmd vals txt len, xHis tA ad hc hn hs, xBef tA ad bt, xSav tA ad sv, xLin tA ad lnb lml lct]).flatten := hD
    refine lv_istore (lv' := [(6, .int (iI z6)), (0, .ref b), (1, .ref (ad 0)), (2, .ref (am 0)), (3, .ref o), (4, .ref od), (5, .int (iI i))]) hx hb dL_law_1721 hl (by decide) rfl (fun ls hl => ?_)
    refine lv_aload_n hx hb dL_law_1723 rfl (lv_at hl 3 rfl) ?_
    refine lv_aload_n hx hb dL_law_1724 rfl (lv_at hl 1 rfl) ?_
    refine lv_iload hx hb dL_law_1725 (lv_at hl 6 rfl) ?_
    refine zz_iconst hx hb dL_law_1727 ?_
    refine zz_iadd hx hb dL_law_1728 ?_
    refine zz_sld hx hb hX hbl hbA hS (k := i + 1) (by omega) hL dL_law_1729 ?_
    refine zz_callVi_ch (As := [.int (iI (xz xs (i + 1)))]) (rest := []) (L := [xOut tA o (zU og 0 zc), xOud tA od dg, xMod tA am ms mbef msav misv mpast mpm mthr mways mnds mtkp mline mlm mtxt mlen mat mwr merr mfail mcmd mcm, xObj ad hsv mal fai, xOff tA ad v shrt w_grp seen tp shr need ordr size, xScr tA K ad pos cmd vals txt len, xHis tA ad hc hn hs, xBef tA ad bt, xSav tA ad sv, xLin tA ad lnb lml lct]) (Lc := [xMod tA am ms mbef msav misv mpast mpm mthr mways mnds mtkp mline mlm mtxt mlen mat mwr merr mfail mcmd mcm]) (Lr := [xOut tA o (zU og 0 zc), xOud tA od dg, xObj ad hsv mal fai, xOff tA ad v shrt w_grp seen tp shr need ordr size, xScr tA K ad pos cmd vals txt len, xHis tA ad hc hn hs, xBef tA ad bt, xSav tA ad sv, xLin tA ad lnb lml lct]) (Lc' := fun u => [xMod tA am ms mbef msav misv mpast mpm u.2.2.2 u.1 u.2.1 u.2.2.1 mline mlm mtxt mlen mat mwr merr mfail mcmd mcm]) (Lf := fun u => [xOut tA o (zU og 0 zc), xOud tA od dg, xMod tA am ms mbef msav misv mpast mpm u.2.2.2 u.1 u.2.1 u.2.2.1 mline mlm mtxt mlen mat mwr merr mfail mcmd mcm, xObj ad hsv mal fai, xOff tA ad v shrt w_grp seen tp shr need ordr size, xScr tA K ad pos cmd vals txt len, xHis tA ad hc hn hs, xBef tA ad bt, xSav tA ad sv, xLin tA ad lnb lml lct]) (is := [2, 0, 1, 3, 4, 5, 6, 7, 8, 9]) (isF := [0, 1, 9, 2, 3, 4, 5, 6, 7, 8]) ⟨hx, hb, hml, hown, hts⟩ (c_X11_needOf l D tA (am 0) (am 1) (am 2) (am 3) (am 4) (am 5) (am 6) (am 7) (am 8) (am 9) (am 10) H.size ms mbef msav misv mpast mpm mthr mways mnds mtkp mline mlm mtxt mlen mat mwr merr mfail mcmd mcm (xz xs (i + 1)) (xz_in _ _) hmv.1) (cwV 1 hts (gx_tbl gL_law_X11_needOf) rfl rfl rfl (by decide +kernel) ⟨Nat.le_of_ble_eq_true rfl, Nat.le_of_ble_eq_true rfl⟩) hK hP hD hS hA ⟨rfl, rfl, (by decide)⟩ ⟨fun _ => rfl, fun _ => rfl, (by decide)⟩ (ci := 13) (q0 := 0) rfl rfl rfl rfl rfl hl.1 (Nat.le_of_ble_eq_true rfl) dL_law_1730 (by show _ + 0 ≤ 603072 ∧ _ + 0 ≤ 7207018; omega) ?_
    intro zb u H locs hmq hP hD hS
    obtain ⟨y_mways, y_mnds, y_mtkp, y_mthr⟩ := u
    have hP : va_P D vwCl ([xOut tA o (zU og 0 zc), xOud tA od dg, xMod tA am ms mbef msav misv mpast mpm y_mthr y_mways y_mnds y_mtkp mline mlm mtxt mlen mat mwr merr mfail mcmd mcm, xObj ad hsv mal fai, xOff tA ad v shrt w_grp seen tp shr need ordr size, xScr tA K ad pos cmd vals txt len, xHis tA ad hc hn hs, xBef tA ad bt, xSav tA ad sv, xLin tA ad lnb lml lct]).flatten H := hP
    have hD : va_D (lwA s) ([xOut tA o (zU og 0 zc), xOud tA od dg, xMod tA am ms mbef msav misv mpast mpm y_mthr y_mways y_mnds y_mtkp mline mlm mtxt mlen mat mwr merr mfail mcmd mcm, xObj ad hsv mal fai, xOff tA ad v shrt w_grp seen tp shr need ordr size, xScr tA K ad pos cmd vals txt len, xHis tA ad hc hn hs, xBef tA ad bt, xSav tA ad sv, xLin tA ad lnb lml lct]).flatten := hD
    have mq : gatM ms y_mtkp y_mnds := hmq.1
    have mqz : (y_mthr = 1 ∧ ¬ (0 ≤ (xz xs (i + 1)) ∧ (xz xs (i + 1)) < ms 1)) ∨ ((0 ≤ (xz xs (i + 1)) ∧ (xz xs (i + 1)) < ms 1) ∧ ((y_mthr = 2 ∧ y_mtkp (xz xs (i + 1)) = 0) ∨ (y_mthr = 0 ∧ y_mtkp (xz xs (i + 1)) = 1 ∧ zb = y_mnds (xz xs (i + 1))))) := hmq.2
    clear hmq
    refine lv_istore (lv' := [(7, .int (iI zb)), (6, .int (iI z6)), (0, .ref b), (1, .ref (ad 0)), (2, .ref (am 0)), (3, .ref o), (4, .ref od), (5, .int (iI i))]) hx hb dL_law_1733 hl (by decide) rfl (fun ls hl => ?_)
    have hTV : y_mthr = 0 ∧ zb = zc := by
      rcases mqz with ⟨-, m⟩ | ⟨m1, mz⟩
      · rw [e1] at m
        exact absurd kq.1 m
      · have q := rel_need hv hr kq.2.2 m1 mq
        rcases q with ⟨q1, -⟩ | ⟨-, q2, q3⟩
        · exact absurd q1 kq.2.1
        · rcases mz with ⟨-, mz⟩ | ⟨m0, -, mz⟩
          · omega
          · exact ⟨m0, mz.trans q3.symm⟩
    have hT : y_mthr = z6 := hTV.1.trans hz6.symm
    have hI2 : LInv (n + 1) v hs sv pos cmd vals txt len hc hn hsv mal fai lnb lct ms msav misv mpast mpm mline mlm mtxt mlen merr mfail mcmd := by
      exact LI_q hn9 hI
    refine lv_aload_n hx hb dL_law_1735 rfl (lv_at hl 4 rfl) ?_
    refine zz_callVi_ch (As := []) (rest := []) (L := [xOut tA o (zU og 0 zc), xOud tA od dg, xMod tA am ms mbef msav misv mpast mpm y_mthr y_mways y_mnds y_mtkp mline mlm mtxt mlen mat mwr merr mfail mcmd mcm, xObj ad hsv mal fai, xOff tA ad v shrt w_grp seen tp shr need ordr size, xScr tA K ad pos cmd vals txt len, xHis tA ad hc hn hs, xBef tA ad bt, xSav tA ad sv, xLin tA ad lnb lml lct]) (Lc := [xMod tA am ms mbef msav misv mpast mpm y_mthr y_mways y_mnds y_mtkp mline mlm mtxt mlen mat mwr merr mfail mcmd mcm]) (Lr := [xOut tA o (zU og 0 zc), xOud tA od dg, xObj ad hsv mal fai, xOff tA ad v shrt w_grp seen tp shr need ordr size, xScr tA K ad pos cmd vals txt len, xHis tA ad hc hn hs, xBef tA ad bt, xSav tA ad sv, xLin tA ad lnb lml lct]) (Lc' := fun u => [xMod tA am ms mbef msav misv mpast mpm y_mthr y_mways y_mnds y_mtkp mline mlm mtxt mlen mat mwr merr mfail mcmd mcm]) (Lf := fun u => [xOut tA o (zU og 0 zc), xOud tA od dg, xMod tA am ms mbef msav misv mpast mpm y_mthr y_mways y_mnds y_mtkp mline mlm mtxt mlen mat mwr merr mfail mcmd mcm, xObj ad hsv mal fai, xOff tA ad v shrt w_grp seen tp shr need ordr size, xScr tA K ad pos cmd vals txt len, xHis tA ad hc hn hs, xBef tA ad bt, xSav tA ad sv, xLin tA ad lnb lml lct]) (is := [2, 0, 1, 3, 4, 5, 6, 7, 8, 9]) (isF := [0, 1, 9, 2, 3, 4, 5, 6, 7, 8]) ⟨hx, hb, hml, hown, hts⟩ (c_X11_thrown l D tA (am 0) (am 1) (am 2) (am 3) (am 4) (am 5) (am 6) (am 7) (am 8) (am 9) (am 10) H.size ms mbef msav misv mpast mpm y_mthr y_mways y_mnds y_mtkp mline mlm mtxt mlen mat mwr merr mfail mcmd mcm) (cwV 0 hts (gx_tbl gL_law_X11_thrown) rfl rfl rfl (by decide +kernel) ⟨Nat.le_of_ble_eq_true rfl, Nat.le_of_ble_eq_true rfl⟩) hK hP hD hS hA ⟨rfl, rfl, (by decide)⟩ ⟨fun _ => rfl, fun _ => rfl, (by decide)⟩ (ci := 13) (q0 := 0) rfl rfl rfl rfl rfl hl.1 (Nat.le_of_ble_eq_true rfl) dL_law_1736 (by show _ + 0 ≤ 603072 ∧ _ + 0 ≤ 7207018; omega) ?_
    intro zt u H locs hzt hP hD hS
    have hP : va_P D vwCl ([xOut tA o (zU og 0 zc), xOud tA od dg, xMod tA am ms mbef msav misv mpast mpm y_mthr y_mways y_mnds y_mtkp mline mlm mtxt mlen mat mwr merr mfail mcmd mcm, xObj ad hsv mal fai, xOff tA ad v shrt w_grp seen tp shr need ordr size, xScr tA K ad pos cmd vals txt len, xHis tA ad hc hn hs, xBef tA ad bt, xSav tA ad sv, xLin tA ad lnb lml lct]).flatten H := hP
    have hD : va_D (lwA s) ([xOut tA o (zU og 0 zc), xOud tA od dg, xMod tA am ms mbef msav misv mpast mpm y_mthr y_mways y_mnds y_mtkp mline mlm mtxt mlen mat mwr merr mfail mcmd mcm, xObj ad hsv mal fai, xOff tA ad v shrt w_grp seen tp shr need ordr size, xScr tA K ad pos cmd vals txt len, xHis tA ad hc hn hs, xBef tA ad bt, xSav tA ad sv, xLin tA ad lnb lml lct]).flatten := hD
    have hzt : zt = y_mthr := hzt
    have hz69 : 0 ≤ z6 ∧ z6 ≤ 9 := by omega
    refine lv_iload hx hb dL_law_1739 (lv_at hl 1 rfl) ?_
    refine zz_icmp_eq (tgt := 1746) hx hb dL_law_1741 (by decide) (by omega) (by omega) (fun _ => ?_) (fun c9 => absurd (by omega) c9)
    refine lv_iload hx hb dL_law_1746 (lv_at hl 1 rfl) ?_
    refine zz_if_ne (tgt := 1763) hx hb dL_law_1748 (by decide) (by omega) (fun c9 => absurd hz6 c9) (fun _ => ?_)
    refine lv_aload_n hx hb dL_law_1751 rfl (lv_at hl 5 rfl) ?_
    refine zz_iconst hx hb dL_law_1752 ?_
    refine zz_lald hx hb hK hP 0 rfl (by decide) (by decide) dL_law_1753 ?_
    rw [zU_same]
    refine lv_iload hx hb dL_law_1754 (lv_at hl 0 rfl) ?_
    refine zz_i2l hx hb dL_law_1756 (by omega) ?_
    rw [hTV.2]
    refine zz_lcmp hx hb dL_law_1757 (by omega) (by omega) ?_
    rw [cmpZ_s]
    refine zz_if_eq (tgt := 1763) hx hb dL_law_1758 (by decide) (by decide) (fun _ => ?_) (fun c9 => absurd rfl c9)
    refine lv_goto (tgt := 2917) hx hb dL_law_1763 (by decide) ?_
    refine W.widen (k := k9 + 20) (n := n9 + 200) (by omega) (by omega) ?_
    exact kk v shrt w_grp seen tp shr need ordr size pos cmd vals txt len hc hn hs bt sv hsv mal fai lnb lml lct ms mbef msav misv mpast mpm y_mthr y_mways y_mnds y_mtkp mline mlm mtxt mlen mat mwr merr mfail mcmd mcm (zU og 0 zc) dg _ _ _ hI2 hP hD hS (lv_sub hl [2, 3, 4, 5, 6, 7] rfl)
  · obtain ⟨kx, w_grp⟩ := u
    have kq : (kx = 1 ∧ ¬ (0 ≤ (xz xs (i + 1)) ∧ (xz xs (i + 1)) < (v 7 0))) ∨ (kx = 4 ∧ (0 ≤ (xz xs (i + 1)) ∧ (xz xs (i + 1)) < (v 7 0)) ∧ needP (eg (v 1 0) (v 2) (v 3) (v 4) (v 5)) ((v 8) (xz xs (i + 1))) ((v 9) (xz xs (i + 1))) (-1)) := hq.1
    have kc : (kx = 1 ∧ z6 = 1) ∨ (kx = 4 ∧ z6 = 2) := hq.2
    have hP : va_P D vwCl ([xOut tA o og, xOud tA od dg, xMod tA am ms mbef msav misv mpast mpm mthr mways mnds mtkp mline mlm mtxt mlen mat mwr merr mfail mcmd mcm, xObj ad hsv mal fai, xOff tA ad v shrt w_grp seen tp shr need ordr size, xScr tA K ad pos cmd vals txt len, xHis tA ad hc hn hs, xBef tA ad bt, xSav tA ad sv, xLin tA ad lnb lml lct]).flatten H := hP
    have hD : va_D (lwA s) ([xOut tA o og, xOud tA od dg, xMod tA am ms mbef msav misv mpast mpm mthr mways mnds mtkp mline mlm mtxt mlen mat mwr merr mfail mcmd mcm, xObj ad hsv mal fai, xOff tA ad v shrt w_grp seen tp shr need ordr size, xScr tA K ad pos cmd vals txt len, xHis tA ad hc hn hs, xBef tA ad bt, xSav tA ad sv, xLin tA ad lnb lml lct]).flatten := hD
    refine lv_istore (lv' := [(6, .int (iI z6)), (0, .ref b), (1, .ref (ad 0)), (2, .ref (am 0)), (3, .ref o), (4, .ref od), (5, .int (iI i))]) hx hb dL_law_1721 hl (by decide) rfl (fun ls hl => ?_)
    refine lv_aload_n hx hb dL_law_1723 rfl (lv_at hl 3 rfl) ?_
    refine lv_aload_n hx hb dL_law_1724 rfl (lv_at hl 1 rfl) ?_
    refine lv_iload hx hb dL_law_1725 (lv_at hl 6 rfl) ?_
    refine zz_iconst hx hb dL_law_1727 ?_
    refine zz_iadd hx hb dL_law_1728 ?_
    refine zz_sld hx hb hX hbl hbA hS (k := i + 1) (by omega) hL dL_law_1729 ?_
    refine zz_callVi_ch (As := [.int (iI (xz xs (i + 1)))]) (rest := []) (L := [xOut tA o og, xOud tA od dg, xMod tA am ms mbef msav misv mpast mpm mthr mways mnds mtkp mline mlm mtxt mlen mat mwr merr mfail mcmd mcm, xObj ad hsv mal fai, xOff tA ad v shrt w_grp seen tp shr need ordr size, xScr tA K ad pos cmd vals txt len, xHis tA ad hc hn hs, xBef tA ad bt, xSav tA ad sv, xLin tA ad lnb lml lct]) (Lc := [xMod tA am ms mbef msav misv mpast mpm mthr mways mnds mtkp mline mlm mtxt mlen mat mwr merr mfail mcmd mcm]) (Lr := [xOut tA o og, xOud tA od dg, xObj ad hsv mal fai, xOff tA ad v shrt w_grp seen tp shr need ordr size, xScr tA K ad pos cmd vals txt len, xHis tA ad hc hn hs, xBef tA ad bt, xSav tA ad sv, xLin tA ad lnb lml lct]) (Lc' := fun u => [xMod tA am ms mbef msav misv mpast mpm u.2.2.2 u.1 u.2.1 u.2.2.1 mline mlm mtxt mlen mat mwr merr mfail mcmd mcm]) (Lf := fun u => [xOut tA o og, xOud tA od dg, xMod tA am ms mbef msav misv mpast mpm u.2.2.2 u.1 u.2.1 u.2.2.1 mline mlm mtxt mlen mat mwr merr mfail mcmd mcm, xObj ad hsv mal fai, xOff tA ad v shrt w_grp seen tp shr need ordr size, xScr tA K ad pos cmd vals txt len, xHis tA ad hc hn hs, xBef tA ad bt, xSav tA ad sv, xLin tA ad lnb lml lct]) (is := [2, 0, 1, 3, 4, 5, 6, 7, 8, 9]) (isF := [0, 1, 9, 2, 3, 4, 5, 6, 7, 8]) ⟨hx, hb, hml, hown, hts⟩ (c_X11_needOf l D tA (am 0) (am 1) (am 2) (am 3) (am 4) (am 5) (am 6) (am 7) (am 8) (am 9) (am 10) H.size ms mbef msav misv mpast mpm mthr mways mnds mtkp mline mlm mtxt mlen mat mwr merr mfail mcmd mcm (xz xs (i + 1)) (xz_in _ _) hmv.1) (cwV 1 hts (gx_tbl gL_law_X11_needOf) rfl rfl rfl (by decide +kernel) ⟨Nat.le_of_ble_eq_true rfl, Nat.le_of_ble_eq_true rfl⟩) hK hP hD hS hA ⟨rfl, rfl, (by decide)⟩ ⟨fun _ => rfl, fun _ => rfl, (by decide)⟩ (ci := 13) (q0 := 0) rfl rfl rfl rfl rfl hl.1 (Nat.le_of_ble_eq_true rfl) dL_law_1730 (by show _ + 0 ≤ 603072 ∧ _ + 0 ≤ 7207018; omega) ?_
    intro zb u H locs hmq hP hD hS
    obtain ⟨y_mways, y_mnds, y_mtkp, y_mthr⟩ := u
    have hP : va_P D vwCl ([xOut tA o og, xOud tA od dg, xMod tA am ms mbef msav misv mpast mpm y_mthr y_mways y_mnds y_mtkp mline mlm mtxt mlen mat mwr merr mfail mcmd mcm, xObj ad hsv mal fai, xOff tA ad v shrt w_grp seen tp shr need ordr size, xScr tA K ad pos cmd vals txt len, xHis tA ad hc hn hs, xBef tA ad bt, xSav tA ad sv, xLin tA ad lnb lml lct]).flatten H := hP
    have hD : va_D (lwA s) ([xOut tA o og, xOud tA od dg, xMod tA am ms mbef msav misv mpast mpm y_mthr y_mways y_mnds y_mtkp mline mlm mtxt mlen mat mwr merr mfail mcmd mcm, xObj ad hsv mal fai, xOff tA ad v shrt w_grp seen tp shr need ordr size, xScr tA K ad pos cmd vals txt len, xHis tA ad hc hn hs, xBef tA ad bt, xSav tA ad sv, xLin tA ad lnb lml lct]).flatten := hD
    have mq : gatM ms y_mtkp y_mnds := hmq.1
    have mqz : (y_mthr = 1 ∧ ¬ (0 ≤ (xz xs (i + 1)) ∧ (xz xs (i + 1)) < ms 1)) ∨ ((0 ≤ (xz xs (i + 1)) ∧ (xz xs (i + 1)) < ms 1) ∧ ((y_mthr = 2 ∧ y_mtkp (xz xs (i + 1)) = 0) ∨ (y_mthr = 0 ∧ y_mtkp (xz xs (i + 1)) = 1 ∧ zb = y_mnds (xz xs (i + 1))))) := hmq.2
    clear hmq
    refine lv_istore (lv' := [(7, .int (iI zb)), (6, .int (iI z6)), (0, .ref b), (1, .ref (ad 0)), (2, .ref (am 0)), (3, .ref o), (4, .ref od), (5, .int (iI i))]) hx hb dL_law_1733 hl (by decide) rfl (fun ls hl => ?_)
    have hT : y_mthr = z6 := by
      rcases kq with ⟨k1, k2⟩ | ⟨k1, k2, k3⟩
      · rcases mqz with ⟨m0, -⟩ | ⟨m1, -⟩
        · omega
        · rw [e1] at m1
          exact absurd m1 k2
      · rcases mqz with ⟨-, m⟩ | ⟨m1, mz⟩
        · rw [e1] at m
          exact absurd k2 m
        · have q := rel_need hv hr k3 m1 mq
          rcases q with ⟨-, q2⟩ | ⟨q1, -⟩
          · omega
          · exact absurd rfl q1
    have hI2 : LInv (n + 1) v hs sv pos cmd vals txt len hc hn hsv mal fai lnb lct ms msav misv mpast mpm mline mlm mtxt mlen merr mfail mcmd := by
      exact LI_q hn9 hI
    refine lv_aload_n hx hb dL_law_1735 rfl (lv_at hl 4 rfl) ?_
    refine zz_callVi_ch (As := []) (rest := []) (L := [xOut tA o og, xOud tA od dg, xMod tA am ms mbef msav misv mpast mpm y_mthr y_mways y_mnds y_mtkp mline mlm mtxt mlen mat mwr merr mfail mcmd mcm, xObj ad hsv mal fai, xOff tA ad v shrt w_grp seen tp shr need ordr size, xScr tA K ad pos cmd vals txt len, xHis tA ad hc hn hs, xBef tA ad bt, xSav tA ad sv, xLin tA ad lnb lml lct]) (Lc := [xMod tA am ms mbef msav misv mpast mpm y_mthr y_mways y_mnds y_mtkp mline mlm mtxt mlen mat mwr merr mfail mcmd mcm]) (Lr := [xOut tA o og, xOud tA od dg, xObj ad hsv mal fai, xOff tA ad v shrt w_grp seen tp shr need ordr size, xScr tA K ad pos cmd vals txt len, xHis tA ad hc hn hs, xBef tA ad bt, xSav tA ad sv, xLin tA ad lnb lml lct]) (Lc' := fun u => [xMod tA am ms mbef msav misv mpast mpm y_mthr y_mways y_mnds y_mtkp mline mlm mtxt mlen mat mwr merr mfail mcmd mcm]) (Lf := fun u => [xOut tA o og, xOud tA od dg, xMod tA am ms mbef msav misv mpast mpm y_mthr y_mways y_mnds y_mtkp mline mlm mtxt mlen mat mwr merr mfail mcmd mcm, xObj ad hsv mal fai, xOff tA ad v shrt w_grp seen tp shr need ordr size, xScr tA K ad pos cmd vals txt len, xHis tA ad hc hn hs, xBef tA ad bt, xSav tA ad sv, xLin tA ad lnb lml lct]) (is := [2, 0, 1, 3, 4, 5, 6, 7, 8, 9]) (isF := [0, 1, 9, 2, 3, 4, 5, 6, 7, 8]) ⟨hx, hb, hml, hown, hts⟩ (c_X11_thrown l D tA (am 0) (am 1) (am 2) (am 3) (am 4) (am 5) (am 6) (am 7) (am 8) (am 9) (am 10) H.size ms mbef msav misv mpast mpm y_mthr y_mways y_mnds y_mtkp mline mlm mtxt mlen mat mwr merr mfail mcmd mcm) (cwV 0 hts (gx_tbl gL_law_X11_thrown) rfl rfl rfl (by decide +kernel) ⟨Nat.le_of_ble_eq_true rfl, Nat.le_of_ble_eq_true rfl⟩) hK hP hD hS hA ⟨rfl, rfl, (by decide)⟩ ⟨fun _ => rfl, fun _ => rfl, (by decide)⟩ (ci := 13) (q0 := 0) rfl rfl rfl rfl rfl hl.1 (Nat.le_of_ble_eq_true rfl) dL_law_1736 (by show _ + 0 ≤ 603072 ∧ _ + 0 ≤ 7207018; omega) ?_
    intro zt u H locs hzt hP hD hS
    have hP : va_P D vwCl ([xOut tA o og, xOud tA od dg, xMod tA am ms mbef msav misv mpast mpm y_mthr y_mways y_mnds y_mtkp mline mlm mtxt mlen mat mwr merr mfail mcmd mcm, xObj ad hsv mal fai, xOff tA ad v shrt w_grp seen tp shr need ordr size, xScr tA K ad pos cmd vals txt len, xHis tA ad hc hn hs, xBef tA ad bt, xSav tA ad sv, xLin tA ad lnb lml lct]).flatten H := hP
    have hD : va_D (lwA s) ([xOut tA o og, xOud tA od dg, xMod tA am ms mbef msav misv mpast mpm y_mthr y_mways y_mnds y_mtkp mline mlm mtxt mlen mat mwr merr mfail mcmd mcm, xObj ad hsv mal fai, xOff tA ad v shrt w_grp seen tp shr need ordr size, xScr tA K ad pos cmd vals txt len, xHis tA ad hc hn hs, xBef tA ad bt, xSav tA ad sv, xLin tA ad lnb lml lct]).flatten := hD
    have hzt : zt = y_mthr := hzt
    have hz69 : 0 ≤ z6 ∧ z6 ≤ 9 := by omega
    refine lv_iload hx hb dL_law_1739 (lv_at hl 1 rfl) ?_
    refine zz_icmp_eq (tgt := 1746) hx hb dL_law_1741 (by decide) (by omega) (by omega) (fun _ => ?_) (fun c9 => absurd (by omega) c9)
    refine lv_iload hx hb dL_law_1746 (lv_at hl 1 rfl) ?_
    refine zz_if_ne (tgt := 1763) hx hb dL_law_1748 (by decide) (by omega) (fun _ => ?_) (fun c9 => absurd c9 (by omega))
    refine lv_goto (tgt := 2917) hx hb dL_law_1763 (by decide) ?_
    refine W.widen (k := k9 + 20) (n := n9 + 200) (by omega) (by omega) ?_
    exact kk v shrt w_grp seen tp shr need ordr size pos cmd vals txt len hc hn hs bt sv hsv mal fai lnb lml lct ms mbef msav misv mpast mpm y_mthr y_mways y_mnds y_mtkp mline mlm mtxt mlen mat mwr merr mfail mcmd mcm og dg _ _ _ hI2 hP hD hS (lv_sub hl [2, 3, 4, 5, 6, 7] rfl)

set_option maxHeartbeats 8000000 in
set_option maxRecDepth 100000 in
theorem law_c26 {p : Program} {l : Launch} (hst : l.stackTraces = false) {e : Env} {s : State} {m : MethodId} {below : List Frame} {meth : Method} {c : Code} {D : va_G} {tA : Nat → ClassId} {K : Nat → Nat} {b L : Nat} {xs : Nat → Int32} (hL : L ≤ 2560) (C0 : lw_At p s m meth c b L xs) (hK : zK D tA s) (hZ : zT K (lwA s) s) {ad am : Nat → Nat} {o od : Nat} {i n : Int} (hi : 0 ≤ i ∧ i + 5 ≤ L) (hn9 : n < 600) {k9 n9 : Nat} (hk9 : k9 + 20 ≤ 603072 ∧ n9 + 200 ≤ 7207018) {v : Nat → Int → Int} {shrt : Int → Int} {grp : Int → Int} {seen : Int → Int} {tp : Int → Int} {shr : Int → Int} {need : Int → Int} {ordr : Int → Int} {size : Int} {pos : Int} {cmd : Int} {vals : Int → Int} {txt : Int → Int} {len : Int} {hc : Int} {hn : Int} {hs : Nat → Nat → Int → Int} {bt : Nat → Int → Int} {sv : Nat → Int → Int} {hsv : Int} {mal : Int} {fai : Int} {lnb : Int → Int} {lml : Int} {lct : Int} {ms : Int → Int} {mbef : Int → Int} {msav : Int → Int} {misv : Int} {mpast : Int → Int} {mpm : Int} {mthr : Int} {mways : Int → Int} {mnds : Int → Int} {mtkp : Int → Int} {mline : Int → Int} {mlm : Int} {mtxt : Int → Int} {mlen : Int} {mat : Int} {mwr : Int} {merr : Int} {mfail : Int} {mcmd : Int → Int} {mcm : Int} {og : Int → Int} {dg : Nat → UInt64} {H : Heap} {locs : List Loc} {ls : Array Slot} (hI : LInv n v hs sv pos cmd vals txt len hc hn hsv mal fai lnb lct ms msav misv mpast mpm mline mlm mtxt mlen merr mfail mcmd) (hP : va_P D vwCl (xW tA K ad am o od v shrt grp seen tp shr need ordr size pos cmd vals txt len hc hn hs bt sv hsv mal fai lnb lml lct ms mbef msav misv mpast mpm mthr mways mnds mtkp mline mlm mtxt mlen mat mwr merr mfail mcmd mcm og dg).flatten H) (hD : va_D (lwA s) (xW tA K ad am o od v shrt grp seen tp shr need ordr size pos cmd vals txt len hc hn hs bt sv hsv mal fai lnb lml lct ms mbef msav misv mpast mpm mthr mways mnds mtkp mline mlm mtxt mlen mat mwr merr mfail mcmd mcm og dg).flatten) (hS : va_S (lwA s) s.heap H locs) (hl : lv_has ls 9 [(0, .ref b), (1, .ref (ad 0)), (2, .ref (am 0)), (3, .ref o), (4, .ref od), (5, .int (iI i))]) (kk : lwK p l e s m below meth c D tA K ad am o od b i n k9 n9) : W p l e room_1 s m #[Value.ref b] below meth c H locs k9 n9 (lw_Z below #[Value.ref b] s) (F0 m 1766 ls []) := by
  obtain ⟨hx, hb, hrt, hml, hown, hts, hX, hbl, hlocks, hgv⟩ := id C0
  have hts := lw_more hts
  have hA : ∀ q : Nat, s.heap.size ≤ q → lwA s q := fun _ h => h
  have hbA : ¬ lwA s b := Nat.not_le.mpr hbl
  have hCn := hZ.2.2.2
  obtain ⟨⟨n0, n6, l0, l6, ln⟩, hLS, ⟨hhn, hhc, hpm, hhi⟩, ⟨hsv01, hmis, hsvv, hsvr⟩, ⟨hlen, htxt, htx⟩, ⟨hlm, hln, hl0, hl16, hlb⟩, ⟨her, hfa, hm1, hm2, hf1, hf2⟩, ⟨hcd0, hcd1, hps0, hps1, hva⟩, hcr⟩ := id hI
  have hv := hLS.1
  have hr := hLS.2
  have hch : ChS v := hv.1
  have hu9 : ChW v := hv.2.1
  obtain ⟨-, -, hcc, hsp, hmo, hfog, hrg, hni, hfd, hmt9, hln9, hsum⟩ := SVk_out (show SVk _ _ (etS v) from hv)
  have hmv := rel_MV hv hr (by omega) (by omega)
  obtain ⟨e0, e1, e2, e3, e4, e5, e6⟩ := id hr.1
  have eE := rel_sE hch hr
  have hmon : ∀ j, 0 ≤ j → j < v 7 0 → 0 ≤ v 10 j ∧ v 10 j ≤ 6000000 := fun j j0 j1 => by have := hmo j j0 j1; omega
  have hlnd : ∀ j, 0 ≤ j → j < v 7 0 → (0 ≤ v 11 j ∧ v 11 j ≤ 600) ∧ (0 ≤ v 12 j ∧ v 12 j ≤ 600) := fun j j0 j1 => by have := hln9 j j0 j1; omega
  refine lv_aload_n hx hb dL_law_1766 rfl (lv_at hl 1 rfl) ?_
  refine lv_aload_n hx hb dL_law_1767 rfl (lv_at hl 0 rfl) ?_
  refine lv_iload hx hb dL_law_1768 (lv_at hl 5 rfl) ?_
  refine zz_iconst hx hb dL_law_1770 ?_
  refine zz_iadd hx hb dL_law_1771 ?_
  refine zz_sld hx hb hX hbl hbA hS (k := i + 1) (by omega) hL dL_law_1772 ?_
  refine lv_aload_n hx hb dL_law_1773 rfl (lv_at hl 3 rfl) ?_
  refine zh_callSi_ch (As := [.ref (ad 0), .int (iI (xz xs (i + 1))), .ref o]) (rest := []) (L := [xOut tA o og, xOud tA od dg, xMod tA am ms mbef msav misv mpast mpm mthr mways mnds mtkp mline mlm mtxt mlen mat mwr merr mfail mcmd mcm, xObj ad hsv mal fai, xOff tA ad v shrt grp seen tp shr need ordr size, xScr tA K ad pos cmd vals txt len, xHis tA ad hc hn hs, xBef tA ad bt, xSav tA ad sv, xLin tA ad lnb lml lct]) (Lc := [xOut tA o og, xObj ad hsv mal fai, xOff tA ad v shrt grp seen tp shr need ordr size]) (Lr := [xOud tA od dg, xMod tA am ms mbef msav misv mpast mpm mthr mways mnds mtkp mline mlm mtxt mlen mat mwr merr mfail mcmd mcm, xScr tA K ad pos cmd vals txt len, xHis tA ad hc hn hs, xBef tA ad bt, xSav tA ad sv, xLin tA ad lnb lml lct]) (Lc' := fun u => Sum.elim (fun u => [xOut tA o (zU og 0 u.1), xObj ad hsv mal fai, xOff tA ad v shrt grp seen tp shr need ordr size]) (fun u => [xOut tA o og, xObj ad hsv mal fai, xOff tA ad v shrt grp seen tp shr need ordr size]) u) (Lf := fun u => Sum.elim (fun u => [xOut tA o (zU og 0 u.1), xOud tA od dg, xMod tA am ms mbef msav misv mpast mpm mthr mways mnds mtkp mline mlm mtxt mlen mat mwr merr mfail mcmd mcm, xObj ad hsv mal fai, xOff tA ad v shrt grp seen tp shr need ordr size, xScr tA K ad pos cmd vals txt len, xHis tA ad hc hn hs, xBef tA ad bt, xSav tA ad sv, xLin tA ad lnb lml lct]) (fun u => [xOut tA o og, xOud tA od dg, xMod tA am ms mbef msav misv mpast mpm mthr mways mnds mtkp mline mlm mtxt mlen mat mwr merr mfail mcmd mcm, xObj ad hsv mal fai, xOff tA ad v shrt grp seen tp shr need ordr size, xScr tA K ad pos cmd vals txt len, xHis tA ad hc hn hs, xBef tA ad bt, xSav tA ad sv, xLin tA ad lnb lml lct]) u) (is := [0, 3, 4, 1, 2, 5, 6, 7, 8, 9]) (isF := [7, 0, 1, 8, 9, 2, 3, 4, 5, 6]) ⟨hx, hb, hml, hown, hts⟩ (c_L_litNightsOf l hst K D tA (ad 0) (ad 1) (ad 2) (ad 3) (ad 4) (ad 5) (ad 6) (ad 7) (ad 8) (ad 9) (ad 10) (ad 11) (ad 12) (ad 13) (ad 14) (ad 15) (ad 16) (ad 17) (ad 18) (ad 19) (ad 20) (ad 21) (ad 22) (ad 23) (ad 24) (ad 27) (ad 146) (ad 133) (ad 159) o H.size og (v 0 0) (v 1 0) (v 2) (v 3) (v 4) (v 5) (v 6) (v 7 0) (v 8) (v 9) (v 10) (v 11) (v 12) (v 13 0) (v 14 0) (v 15 0) (v 16 0) (v 17 0) (v 18 0) shrt grp seen tp shr need ordr size hsv mal fai  (xz xs (i + 1)) (xz_in _ _) hcc (fun j j0 j1 => by have := hlnd j j0 j1; omega)) (vx_cwSW 3 hts (gx_wr gL_law_L_litNightsOf) rfl rfl rfl (by decide +kernel) ⟨Nat.le_of_ble_eq_true rfl, Nat.le_of_ble_eq_true rfl⟩) hK hP hD hS hA hZ ⟨rfl, rfl, (by decide)⟩ ⟨fun u => by cases u <;> rfl, fun u => by cases u <;> rfl, (by decide)⟩ rfl rfl hl.1 (Nat.le_of_ble_eq_true rfl) dL_law_1774 (by show k9 + 1 ≤ 603072 ∧ n9 + 6 ≤ 7207018; omega) ?_
  intro z6 u H locs hq hP hD hS
  rcases u with ⟨zc, u⟩ | u
  · skip
    obtain ⟨hz6, kq, hzr⟩ := hq
    have kq : (0 ≤ (xz xs (i + 1)) ∧ (xz xs (i + 1)) < (v 7 0)) ∧ zc = (v 11) (xz xs (i + 1)) := kq
    have hz6 : z6 = 0 := hz6
    have hzr : -2147483648 ≤ zc ∧ zc ≤ 2147483647 := hzr
    have hP : va_P D vwCl ([xOut tA o (zU og 0 zc), xOud tA od dg, xMod tA am ms mbef msav misv mpast mpm mthr mways mnds mtkp mline mlm mtxt mlen mat mwr merr mfail mcmd mcm, xObj ad hsv mal fai, xOff tA ad v shrt grp seen tp shr need ordr size, xScr tA K ad pos cmd vals txt len, xHis tA ad hc hn hs, xBef tA ad bt, xSav tA ad sv, xLin tA ad lnb lml lct]).flatten H := hP
    have hD : va_D (lwA s) ([xOut tA o (zU og 0 zc), xOud tA od dg, xMod tA am ms mbef msav misv mpast mpm mthr mways mnds mtkp mline mlm mtxt mlen mat mwr merr mfail mcmd mcm, xObj ad hsv mal fai, xOff tA ad v shrt grp seen tp shr need ordr size, xScr tA K ad pos cmd vals txt len, xHis tA ad hc hn hs, xBef tA ad bt, xSav tA ad sv, xLin tA ad lnb lml lct]).flatten := hD
    refine lv_istore (lv' := [(6, .int (iI z6)), (0, .ref b), (1, .ref (ad 0)), (2, .ref (am 0)), (3, .ref o), (4, .ref od), (5, .int (iI i))]) hx hb dL_law_1777 hl (by decide) rfl (fun ls hl => ?_)
    refine lv_aload_n hx hb dL_law_1779 rfl (lv_at hl 3 rfl) ?_
    refine lv_aload_n hx hb dL_law_1780 rfl (lv_at hl 1 rfl) ?_
    refine lv_iload hx hb dL_law_1781 (lv_at hl 6 rfl) ?_
    refine zz_iconst hx hb dL_law_1783 ?_
    refine zz_iadd hx hb dL_law_1784 ?_
    refine zz_sld hx hb hX hbl hbA hS (k := i + 1) (by omega) hL dL_law_1785 ?_
    refine zz_callVi_ch (As := [.int (iI (xz xs (i + 1)))]) (rest := []) (L := [xOut tA o (zU og 0 zc), xOud tA od dg, xMod tA am ms mbef msav misv mpast mpm mthr mways mnds mtkp mline mlm mtxt mlen mat mwr merr mfail mcmd mcm, xObj ad hsv mal fai, xOff tA ad v shrt grp seen tp shr need ordr size, xScr tA K ad pos cmd vals txt len, xHis tA ad hc hn hs, xBef tA ad bt, xSav tA ad sv, xLin tA ad lnb lml lct]) (Lc := [xMod tA am ms mbef msav misv mpast mpm mthr mways mnds mtkp mline mlm mtxt mlen mat mwr merr mfail mcmd mcm]) (Lr := [xOut tA o (zU og 0 zc), xOud tA od dg, xObj ad hsv mal fai, xOff tA ad v shrt grp seen tp shr need ordr size, xScr tA K ad pos cmd vals txt len, xHis tA ad hc hn hs, xBef tA ad bt, xSav tA ad sv, xLin tA ad lnb lml lct]) (Lc' := fun u => [xMod tA am ms mbef msav misv mpast mpm u mways mnds mtkp mline mlm mtxt mlen mat mwr merr mfail mcmd mcm]) (Lf := fun u => [xOut tA o (zU og 0 zc), xOud tA od dg, xMod tA am ms mbef msav misv mpast mpm u mways mnds mtkp mline mlm mtxt mlen mat mwr merr mfail mcmd mcm, xObj ad hsv mal fai, xOff tA ad v shrt grp seen tp shr need ordr size, xScr tA K ad pos cmd vals txt len, xHis tA ad hc hn hs, xBef tA ad bt, xSav tA ad sv, xLin tA ad lnb lml lct]) (is := [2, 0, 1, 3, 4, 5, 6, 7, 8, 9]) (isF := [0, 1, 9, 2, 3, 4, 5, 6, 7, 8]) ⟨hx, hb, hml, hown, hts⟩ (c_X11_litNightsOf l D tA (am 0) (am 1) (am 2) (am 3) (am 4) (am 5) (am 6) (am 7) (am 8) (am 9) (am 10) H.size ms mbef msav misv mpast mpm mthr mways mnds mtkp mline mlm mtxt mlen mat mwr merr mfail mcmd mcm (xz xs (i + 1)) (xz_in _ _) ⟨hmv.1.1.2.2.1, hmv.1.1.2.2.2.1⟩) (cwV 1 hts (gx_tbl gL_law_X11_litNightsOf) rfl rfl rfl (by decide +kernel) ⟨Nat.le_of_ble_eq_true rfl, Nat.le_of_ble_eq_true rfl⟩) hK hP hD hS hA ⟨rfl, rfl, (by decide)⟩ ⟨fun _ => rfl, fun _ => rfl, (by decide)⟩ (ci := 13) (q0 := 0) rfl rfl rfl rfl rfl hl.1 (Nat.le_of_ble_eq_true rfl) dL_law_1786 (by show _ + 0 ≤ 603072 ∧ _ + 0 ≤ 7207018; omega) ?_
    intro zb u H locs hmq hP hD hS
    obtain ⟨y_mthr, rfl⟩ : ∃ q, q = u := ⟨_, rfl⟩
    have hP : va_P D vwCl ([xOut tA o (zU og 0 zc), xOud tA od dg, xMod tA am ms mbef msav misv mpast mpm y_mthr mways mnds mtkp mline mlm mtxt mlen mat mwr merr mfail mcmd mcm, xObj ad hsv mal fai, xOff tA ad v shrt grp seen tp shr need ordr size, xScr tA K ad pos cmd vals txt len, xHis tA ad hc hn hs, xBef tA ad bt, xSav tA ad sv, xLin tA ad lnb lml lct]).flatten H := hP
    have hD : va_D (lwA s) ([xOut tA o (zU og 0 zc), xOud tA od dg, xMod tA am ms mbef msav misv mpast mpm y_mthr mways mnds mtkp mline mlm mtxt mlen mat mwr merr mfail mcmd mcm, xObj ad hsv mal fai, xOff tA ad v shrt grp seen tp shr need ordr size, xScr tA K ad pos cmd vals txt len, xHis tA ad hc hn hs, xBef tA ad bt, xSav tA ad sv, xLin tA ad lnb lml lct]).flatten := hD
    have mq : (y_mthr = 1 ∧ ¬ (0 ≤ (xz xs (i + 1)) ∧ (xz xs (i + 1)) < ms 1)) ∨ (y_mthr = 0 ∧ (0 ≤ (xz xs (i + 1)) ∧ (xz xs (i + 1)) < ms 1) ∧ zb = suM ms (xz xs (i + 1)) 3) := hmq
    clear hmq
    refine lv_istore (lv' := [(7, .int (iI zb)), (6, .int (iI z6)), (0, .ref b), (1, .ref (ad 0)), (2, .ref (am 0)), (3, .ref o), (4, .ref od), (5, .int (iI i))]) hx hb dL_law_1789 hl (by decide) rfl (fun ls hl => ?_)
    have hTV : y_mthr = 0 ∧ zb = zc := by
      rw [e1] at mq
      rcases mq with ⟨-, m⟩ | ⟨m0, m1, m2⟩
      · exact absurd kq.1 m
      · have u9 := hr.2.1 (xz xs (i + 1)) m1.1 m1.2
        exact ⟨m0, m2.trans (u9.2.2.2.1.trans kq.2.symm)⟩
    have hT : y_mthr = z6 := hTV.1.trans hz6.symm
    have hI2 : LInv (n + 1) v hs sv pos cmd vals txt len hc hn hsv mal fai lnb lct ms msav misv mpast mpm mline mlm mtxt mlen merr mfail mcmd := by
      exact LI_q hn9 hI
    refine lv_aload_n hx hb dL_law_1791 rfl (lv_at hl 4 rfl) ?_
    refine zz_callVi_ch (As := []) (rest := []) (L := [xOut tA o (zU og 0 zc), xOud tA od dg, xMod tA am ms mbef msav misv mpast mpm y_mthr mways mnds mtkp mline mlm mtxt mlen mat mwr merr mfail mcmd mcm, xObj ad hsv mal fai, xOff tA ad v shrt grp seen tp shr need ordr size, xScr tA K ad pos cmd vals txt len, xHis tA ad hc hn hs, xBef tA ad bt, xSav tA ad sv, xLin tA ad lnb lml lct]) (Lc := [xMod tA am ms mbef msav misv mpast mpm y_mthr mways mnds mtkp mline mlm mtxt mlen mat mwr merr mfail mcmd mcm]) (Lr := [xOut tA o (zU og 0 zc), xOud tA od dg, xObj ad hsv mal fai, xOff tA ad v shrt grp seen tp shr need ordr size, xScr tA K ad pos cmd vals txt len, xHis tA ad hc hn hs, xBef tA ad bt, xSav tA ad sv, xLin tA ad lnb lml lct]) (Lc' := fun u => [xMod tA am ms mbef msav misv mpast mpm y_mthr mways mnds mtkp mline mlm mtxt mlen mat mwr merr mfail mcmd mcm]) (Lf := fun u => [xOut tA o (zU og 0 zc), xOud tA od dg, xMod tA am ms mbef msav misv mpast mpm y_mthr mways mnds mtkp mline mlm mtxt mlen mat mwr merr mfail mcmd mcm, xObj ad hsv mal fai, xOff tA ad v shrt grp seen tp shr need ordr size, xScr tA K ad pos cmd vals txt len, xHis tA ad hc hn hs, xBef tA ad bt, xSav tA ad sv, xLin tA ad lnb lml lct]) (is := [2, 0, 1, 3, 4, 5, 6, 7, 8, 9]) (isF := [0, 1, 9, 2, 3, 4, 5, 6, 7, 8]) ⟨hx, hb, hml, hown, hts⟩ (c_X11_thrown l D tA (am 0) (am 1) (am 2) (am 3) (am 4) (am 5) (am 6) (am 7) (am 8) (am 9) (am 10) H.size ms mbef msav misv mpast mpm y_mthr mways mnds mtkp mline mlm mtxt mlen mat mwr merr mfail mcmd mcm) (cwV 0 hts (gx_tbl gL_law_X11_thrown) rfl rfl rfl (by decide +kernel) ⟨Nat.le_of_ble_eq_true rfl, Nat.le_of_ble_eq_true rfl⟩) hK hP hD hS hA ⟨rfl, rfl, (by decide)⟩ ⟨fun _ => rfl, fun _ => rfl, (by decide)⟩ (ci := 13) (q0 := 0) rfl rfl rfl rfl rfl hl.1 (Nat.le_of_ble_eq_true rfl) dL_law_1792 (by show _ + 0 ≤ 603072 ∧ _ + 0 ≤ 7207018; omega) ?_
    intro zt u H locs hzt hP hD hS
    have hP : va_P D vwCl ([xOut tA o (zU og 0 zc), xOud tA od dg, xMod tA am ms mbef msav misv mpast mpm y_mthr mways mnds mtkp mline mlm mtxt mlen mat mwr merr mfail mcmd mcm, xObj ad hsv mal fai, xOff tA ad v shrt grp seen tp shr need ordr size, xScr tA K ad pos cmd vals txt len, xHis tA ad hc hn hs, xBef tA ad bt, xSav tA ad sv, xLin tA ad lnb lml lct]).flatten H := hP
    have hD : va_D (lwA s) ([xOut tA o (zU og 0 zc), xOud tA od dg, xMod tA am ms mbef msav misv mpast mpm y_mthr mways mnds mtkp mline mlm mtxt mlen mat mwr merr mfail mcmd mcm, xObj ad hsv mal fai, xOff tA ad v shrt grp seen tp shr need ordr size, xScr tA K ad pos cmd vals txt len, xHis tA ad hc hn hs, xBef tA ad bt, xSav tA ad sv, xLin tA ad lnb lml lct]).flatten := hD
    have hzt : zt = y_mthr := hzt
    have hz69 : 0 ≤ z6 ∧ z6 ≤ 9 := by omega
    refine lv_iload hx hb dL_law_1795 (lv_at hl 1 rfl) ?_
    refine zz_icmp_eq (tgt := 1802) hx hb dL_law_1797 (by decide) (by omega) (by omega) (fun _ => ?_) (fun c9 => absurd (by omega) c9)
    refine lv_iload hx hb dL_law_1802 (lv_at hl 1 rfl) ?_
    refine zz_if_ne (tgt := 1819) hx hb dL_law_1804 (by decide) (by omega) (fun c9 => absurd hz6 c9) (fun _ => ?_)
    refine lv_aload_n hx hb dL_law_1807 rfl (lv_at hl 5 rfl) ?_
    refine zz_iconst hx hb dL_law_1808 ?_
    refine zz_lald hx hb hK hP 0 rfl (by decide) (by decide) dL_law_1809 ?_
    rw [zU_same]
    refine lv_iload hx hb dL_law_1810 (lv_at hl 0 rfl) ?_
    refine zz_i2l hx hb dL_law_1812 (by omega) ?_
    rw [hTV.2]
    refine zz_lcmp hx hb dL_law_1813 (by omega) (by omega) ?_
    rw [cmpZ_s]
    refine zz_if_eq (tgt := 1819) hx hb dL_law_1814 (by decide) (by decide) (fun _ => ?_) (fun c9 => absurd rfl c9)
    refine lv_goto (tgt := 2917) hx hb dL_law_1819 (by decide) ?_
    refine W.widen (k := k9 + 20) (n := n9 + 200) (by omega) (by omega) ?_
    exact kk v shrt grp seen tp shr need ordr size pos cmd vals txt len hc hn hs bt sv hsv mal fai lnb lml lct ms mbef msav misv mpast mpm y_mthr mways mnds mtkp mline mlm mtxt mlen mat mwr merr mfail mcmd mcm (zU og 0 zc) dg _ _ _ hI2 hP hD hS (lv_sub hl [2, 3, 4, 5, 6, 7] rfl)
  · obtain ⟨kx, rfl⟩ : ∃ q, q = u := ⟨_, rfl⟩
    have kq : kx = 1 ∧ ¬ (0 ≤ (xz xs (i + 1)) ∧ (xz xs (i + 1)) < (v 7 0)) := hq.1
    have kc : (kx = 1 ∧ z6 = 1) := hq.2
    have hP : va_P D vwCl ([xOut tA o og, xOud tA od dg, xMod tA am ms mbef msav misv mpast mpm mthr mways mnds mtkp mline mlm mtxt mlen mat mwr merr mfail mcmd mcm, xObj ad hsv mal fai, xOff tA ad v shrt grp seen tp shr need ordr size, xScr tA K ad pos cmd vals txt len, xHis tA ad hc hn hs, xBef tA ad bt, xSav tA ad sv, xLin tA ad lnb lml lct]).flatten H := hP
    have hD : va_D (lwA s) ([xOut tA o og, xOud tA od dg, xMod tA am ms mbef msav misv mpast mpm mthr mways mnds mtkp mline mlm mtxt mlen mat mwr merr mfail mcmd mcm, xObj ad hsv mal fai, xOff tA ad v shrt grp seen tp shr need ordr size, xScr tA K ad pos cmd vals txt len, xHis tA ad hc hn hs, xBef tA ad bt, xSav tA ad sv, xLin tA ad lnb lml lct]).flatten := hD
    refine lv_istore (lv' := [(6, .int (iI z6)), (0, .ref b), (1, .ref (ad 0)), (2, .ref (am 0)), (3, .ref o), (4, .ref od), (5, .int (iI i))]) hx hb dL_law_1777 hl (by decide) rfl (fun ls hl => ?_)
    refine lv_aload_n hx hb dL_law_1779 rfl (lv_at hl 3 rfl) ?_
    refine lv_aload_n hx hb dL_law_1780 rfl (lv_at hl 1 rfl) ?_
    refine lv_iload hx hb dL_law_1781 (lv_at hl 6 rfl) ?_
    refine zz_iconst hx hb dL_law_1783 ?_
    refine zz_iadd hx hb dL_law_1784 ?_
    refine zz_sld hx hb hX hbl hbA hS (k := i + 1) (by omega) hL dL_law_1785 ?_
    refine zz_callVi_ch (As := [.int (iI (xz xs (i + 1)))]) (rest := []) (L := [xOut tA o og, xOud tA od dg, xMod tA am ms mbef msav misv mpast mpm mthr mways mnds mtkp mline mlm mtxt mlen mat mwr merr mfail mcmd mcm, xObj ad hsv mal fai, xOff tA ad v shrt grp seen tp shr need ordr size, xScr tA K ad pos cmd vals txt len, xHis tA ad hc hn hs, xBef tA ad bt, xSav tA ad sv, xLin tA ad lnb lml lct]) (Lc := [xMod tA am ms mbef msav misv mpast mpm mthr mways mnds mtkp mline mlm mtxt mlen mat mwr merr mfail mcmd mcm]) (Lr := [xOut tA o og, xOud tA od dg, xObj ad hsv mal fai, xOff tA ad v shrt grp seen tp shr need ordr size, xScr tA K ad pos cmd vals txt len, xHis tA ad hc hn hs, xBef tA ad bt, xSav tA ad sv, xLin tA ad lnb lml lct]) (Lc' := fun u => [xMod tA am ms mbef msav misv mpast mpm u mways mnds mtkp mline mlm mtxt mlen mat mwr merr mfail mcmd mcm]) (Lf := fun u => [xOut tA o og, xOud tA od dg, xMod tA am ms mbef msav misv mpast mpm u mways mnds mtkp mline mlm mtxt mlen mat mwr merr mfail mcmd mcm, xObj ad hsv mal fai, xOff tA ad v shrt grp seen tp shr need ordr size, xScr tA K ad pos cmd vals txt len, xHis tA ad hc hn hs, xBef tA ad bt, xSav tA ad sv, xLin tA ad lnb lml lct]) (is := [2, 0, 1, 3, 4, 5, 6, 7, 8, 9]) (isF := [0, 1, 9, 2, 3, 4, 5, 6, 7, 8]) ⟨hx, hb, hml, hown, hts⟩ (c_X11_litNightsOf l D tA (am 0) (am 1) (am 2) (am 3) (am 4) (am 5) (am 6) (am 7) (am 8) (am 9) (am 10) H.size ms mbef msav misv mpast mpm mthr mways mnds mtkp mline mlm mtxt mlen mat mwr merr mfail mcmd mcm (xz xs (i + 1)) (xz_in _ _) ⟨hmv.1.1.2.2.1, hmv.1.1.2.2.2.1⟩) (cwV 1 hts (gx_tbl gL_law_X11_litNightsOf) rfl rfl rfl (by decide +kernel) ⟨Nat.le_of_ble_eq_true rfl, Nat.le_of_ble_eq_true rfl⟩) hK hP hD hS hA ⟨rfl, rfl, (by decide)⟩ ⟨fun _ => rfl, fun _ => rfl, (by decide)⟩ (ci := 13) (q0 := 0) rfl rfl rfl rfl rfl hl.1 (Nat.le_of_ble_eq_true rfl) dL_law_1786 (by show _ + 0 ≤ 603072 ∧ _ + 0 ≤ 7207018; omega) ?_
    intro zb u H locs hmq hP hD hS
    obtain ⟨y_mthr, rfl⟩ : ∃ q, q = u := ⟨_, rfl⟩
    have hP : va_P D vwCl ([xOut tA o og, xOud tA od dg, xMod tA am ms mbef msav misv mpast mpm y_mthr mways mnds mtkp mline mlm mtxt mlen mat mwr merr mfail mcmd mcm, xObj ad hsv mal fai, xOff tA ad v shrt grp seen tp shr need ordr size, xScr tA K ad pos cmd vals txt len, xHis tA ad hc hn hs, xBef tA ad bt, xSav tA ad sv, xLin tA ad lnb lml lct]).flatten H := hP
    have hD : va_D (lwA s) ([xOut tA o og, xOud tA od dg, xMod tA am ms mbef msav misv mpast mpm y_mthr mways mnds mtkp mline mlm mtxt mlen mat mwr merr mfail mcmd mcm, xObj ad hsv mal fai, xOff tA ad v shrt grp seen tp shr need ordr size, xScr tA K ad pos cmd vals txt len, xHis tA ad hc hn hs, xBef tA ad bt, xSav tA ad sv, xLin tA ad lnb lml lct]).flatten := hD
    have mq : (y_mthr = 1 ∧ ¬ (0 ≤ (xz xs (i + 1)) ∧ (xz xs (i + 1)) < ms 1)) ∨ (y_mthr = 0 ∧ (0 ≤ (xz xs (i + 1)) ∧ (xz xs (i + 1)) < ms 1) ∧ zb = suM ms (xz xs (i + 1)) 3) := hmq
    clear hmq
    refine lv_istore (lv' := [(7, .int (iI zb)), (6, .int (iI z6)), (0, .ref b), (1, .ref (ad 0)), (2, .ref (am 0)), (3, .ref o), (4, .ref od), (5, .int (iI i))]) hx hb dL_law_1789 hl (by decide) rfl (fun ls hl => ?_)
    have hT : y_mthr = z6 := by
      rw [e1] at mq
      rcases mq with ⟨m0, -⟩ | ⟨-, m1, -⟩
      · omega
      · exact absurd m1 kq.2
    have hI2 : LInv (n + 1) v hs sv pos cmd vals txt len hc hn hsv mal fai lnb lct ms msav misv mpast mpm mline mlm mtxt mlen merr mfail mcmd := by
      exact LI_q hn9 hI
    refine lv_aload_n hx hb dL_law_1791 rfl (lv_at hl 4 rfl) ?_
    refine zz_callVi_ch (As := []) (rest := []) (L := [xOut tA o og, xOud tA od dg, xMod tA am ms mbef msav misv mpast mpm y_mthr mways mnds mtkp mline mlm mtxt mlen mat mwr merr mfail mcmd mcm, xObj ad hsv mal fai, xOff tA ad v shrt grp seen tp shr need ordr size, xScr tA K ad pos cmd vals txt len, xHis tA ad hc hn hs, xBef tA ad bt, xSav tA ad sv, xLin tA ad lnb lml lct]) (Lc := [xMod tA am ms mbef msav misv mpast mpm y_mthr mways mnds mtkp mline mlm mtxt mlen mat mwr merr mfail mcmd mcm]) (Lr := [xOut tA o og, xOud tA od dg, xObj ad hsv mal fai, xOff tA ad v shrt grp seen tp shr need ordr size, xScr tA K ad pos cmd vals txt len, xHis tA ad hc hn hs, xBef tA ad bt, xSav tA ad sv, xLin tA ad lnb lml lct]) (Lc' := fun u => [xMod tA am ms mbef msav misv mpast mpm y_mthr mways mnds mtkp mline mlm mtxt mlen mat mwr merr mfail mcmd mcm]) (Lf := fun u => [xOut tA o og, xOud tA od dg, xMod tA am ms mbef msav misv mpast mpm y_mthr mways mnds mtkp mline mlm mtxt mlen mat mwr merr mfail mcmd mcm, xObj ad hsv mal fai, xOff tA ad v shrt grp seen tp shr need ordr size, xScr tA K ad pos cmd vals txt len, xHis tA ad hc hn hs, xBef tA ad bt, xSav tA ad sv, xLin tA ad lnb lml lct]) (is := [2, 0, 1, 3, 4, 5, 6, 7, 8, 9]) (isF := [0, 1, 9, 2, 3, 4, 5, 6, 7, 8]) ⟨hx, hb, hml, hown, hts⟩ (c_X11_thrown l D tA (am 0) (am 1) (am 2) (am 3) (am 4) (am 5) (am 6) (am 7) (am 8) (am 9) (am 10) H.size ms mbef msav misv mpast mpm y_mthr mways mnds mtkp mline mlm mtxt mlen mat mwr merr mfail mcmd mcm) (cwV 0 hts (gx_tbl gL_law_X11_thrown) rfl rfl rfl (by decide +kernel) ⟨Nat.le_of_ble_eq_true rfl, Nat.le_of_ble_eq_true rfl⟩) hK hP hD hS hA ⟨rfl, rfl, (by decide)⟩ ⟨fun _ => rfl, fun _ => rfl, (by decide)⟩ (ci := 13) (q0 := 0) rfl rfl rfl rfl rfl hl.1 (Nat.le_of_ble_eq_true rfl) dL_law_1792 (by show _ + 0 ≤ 603072 ∧ _ + 0 ≤ 7207018; omega) ?_
    intro zt u H locs hzt hP hD hS
    have hP : va_P D vwCl ([xOut tA o og, xOud tA od dg, xMod tA am ms mbef msav misv mpast mpm y_mthr mways mnds mtkp mline mlm mtxt mlen mat mwr merr mfail mcmd mcm, xObj ad hsv mal fai, xOff tA ad v shrt grp seen tp shr need ordr size, xScr tA K ad pos cmd vals txt len, xHis tA ad hc hn hs, xBef tA ad bt, xSav tA ad sv, xLin tA ad lnb lml lct]).flatten H := hP
    have hD : va_D (lwA s) ([xOut tA o og, xOud tA od dg, xMod tA am ms mbef msav misv mpast mpm y_mthr mways mnds mtkp mline mlm mtxt mlen mat mwr merr mfail mcmd mcm, xObj ad hsv mal fai, xOff tA ad v shrt grp seen tp shr need ordr size, xScr tA K ad pos cmd vals txt len, xHis tA ad hc hn hs, xBef tA ad bt, xSav tA ad sv, xLin tA ad lnb lml lct]).flatten := hD
    have hzt : zt = y_mthr := hzt
    have hz69 : 0 ≤ z6 ∧ z6 ≤ 9 := by omega
    refine lv_iload hx hb dL_law_1795 (lv_at hl 1 rfl) ?_
    refine zz_icmp_eq (tgt := 1802) hx hb dL_law_1797 (by decide) (by omega) (by omega) (fun _ => ?_) (fun c9 => absurd (by omega) c9)
    refine lv_iload hx hb dL_law_1802 (lv_at hl 1 rfl) ?_
    refine zz_if_ne (tgt := 1819) hx hb dL_law_1804 (by decide) (by omega) (fun _ => ?_) (fun c9 => absurd c9 (by omega))
    refine lv_goto (tgt := 2917) hx hb dL_law_1819 (by decide) ?_
    refine W.widen (k := k9 + 20) (n := n9 + 200) (by omega) (by omega) ?_
    exact kk v shrt grp seen tp shr need ordr size pos cmd vals txt len hc hn hs bt sv hsv mal fai lnb lml lct ms mbef msav misv mpast mpm y_mthr mways mnds mtkp mline mlm mtxt mlen mat mwr merr mfail mcmd mcm og dg _ _ _ hI2 hP hD hS (lv_sub hl [2, 3, 4, 5, 6, 7] rfl)

set_option maxHeartbeats 8000000 in
set_option maxRecDepth 100000 in
theorem law_c27 {p : Program} {l : Launch} (hst : l.stackTraces = false) {e : Env} {s : State} {m : MethodId} {below : List Frame} {meth : Method} {c : Code} {D : va_G} {tA : Nat → ClassId} {K : Nat → Nat} {b L : Nat} {xs : Nat → Int32} (hL : L ≤ 2560) (C0 : lw_At p s m meth c b L xs) (hK : zK D tA s) (hZ : zT K (lwA s) s) {ad am : Nat → Nat} {o od : Nat} {i n : Int} (hi : 0 ≤ i ∧ i + 5 ≤ L) (hn9 : n < 600) {k9 n9 : Nat} (hk9 : k9 + 20 ≤ 603072 ∧ n9 + 200 ≤ 7207018) {v : Nat → Int → Int} {shrt : Int → Int} {grp : Int → Int} {seen : Int → Int} {tp : Int → Int} {shr : Int → Int} {need : Int → Int} {ordr : Int → Int} {size : Int} {pos : Int} {cmd : Int} {vals : Int → Int} {txt : Int → Int} {len : Int} {hc : Int} {hn : Int} {hs : Nat → Nat → Int → Int} {bt : Nat → Int → Int} {sv : Nat → Int → Int} {hsv : Int} {mal : Int} {fai : Int} {lnb : Int → Int} {lml : Int} {lct : Int} {ms : Int → Int} {mbef : Int → Int} {msav : Int → Int} {misv : Int} {mpast : Int → Int} {mpm : Int} {mthr : Int} {mways : Int → Int} {mnds : Int → Int} {mtkp : Int → Int} {mline : Int → Int} {mlm : Int} {mtxt : Int → Int} {mlen : Int} {mat : Int} {mwr : Int} {merr : Int} {mfail : Int} {mcmd : Int → Int} {mcm : Int} {og : Int → Int} {dg : Nat → UInt64} {H : Heap} {locs : List Loc} {ls : Array Slot} (hI : LInv n v hs sv pos cmd vals txt len hc hn hsv mal fai lnb lct ms msav misv mpast mpm mline mlm mtxt mlen merr mfail mcmd) (hP : va_P D vwCl (xW tA K ad am o od v shrt grp seen tp shr need ordr size pos cmd vals txt len hc hn hs bt sv hsv mal fai lnb lml lct ms mbef msav misv mpast mpm mthr mways mnds mtkp mline mlm mtxt mlen mat mwr merr mfail mcmd mcm og dg).flatten H) (hD : va_D (lwA s) (xW tA K ad am o od v shrt grp seen tp shr need ordr size pos cmd vals txt len hc hn hs bt sv hsv mal fai lnb lml lct ms mbef msav misv mpast mpm mthr mways mnds mtkp mline mlm mtxt mlen mat mwr merr mfail mcmd mcm og dg).flatten) (hS : va_S (lwA s) s.heap H locs) (hl : lv_has ls 9 [(0, .ref b), (1, .ref (ad 0)), (2, .ref (am 0)), (3, .ref o), (4, .ref od), (5, .int (iI i))]) (kk : lwK p l e s m below meth c D tA K ad am o od b i n k9 n9) : W p l e room_1 s m #[Value.ref b] below meth c H locs k9 n9 (lw_Z below #[Value.ref b] s) (F0 m 1822 ls []) := by
  obtain ⟨hx, hb, hrt, hml, hown, hts, hX, hbl, hlocks, hgv⟩ := id C0
  have hts := lw_more hts
  have hA : ∀ q : Nat, s.heap.size ≤ q → lwA s q := fun _ h => h
  have hbA : ¬ lwA s b := Nat.not_le.mpr hbl
  have hCn := hZ.2.2.2
  obtain ⟨⟨n0, n6, l0, l6, ln⟩, hLS, ⟨hhn, hhc, hpm, hhi⟩, ⟨hsv01, hmis, hsvv, hsvr⟩, ⟨hlen, htxt, htx⟩, ⟨hlm, hln, hl0, hl16, hlb⟩, ⟨her, hfa, hm1, hm2, hf1, hf2⟩, ⟨hcd0, hcd1, hps0, hps1, hva⟩, hcr⟩ := id hI
  have hv := hLS.1
  have hr := hLS.2
  have hch : ChS v := hv.1
  have hu9 : ChW v := hv.2.1
  obtain ⟨-, -, hcc, hsp, hmo, hfog, hrg, hni, hfd, hmt9, hln9, hsum⟩ := SVk_out (show SVk _ _ (etS v) from hv)
  have hmv := rel_MV hv hr (by omega) (by omega)
  obtain ⟨e0, e1, e2, e3, e4, e5, e6⟩ := id hr.1
  have eE := rel_sE hch hr
  have hmon : ∀ j, 0 ≤ j → j < v 7 0 → 0 ≤ v 10 j ∧ v 10 j ≤ 6000000 := fun j j0 j1 => by have := hmo j j0 j1; omega
  have hlnd : ∀ j, 0 ≤ j → j < v 7 0 → (0 ≤ v 11 j ∧ v 11 j ≤ 600) ∧ (0 ≤ v 12 j ∧ v 12 j ≤ 600) := fun j j0 j1 => by have := hln9 j j0 j1; omega
  refine lv_aload_n hx hb dL_law_1822 rfl (lv_at hl 1 rfl) ?_
  refine lv_aload_n hx hb dL_law_1823 rfl (lv_at hl 0 rfl) ?_
  refine lv_iload hx hb dL_law_1824 (lv_at hl 5 rfl) ?_
  refine zz_iconst hx hb dL_law_1826 ?_
  refine zz_iadd hx hb dL_law_1827 ?_
  refine zz_sld hx hb hX hbl hbA hS (k := i + 1) (by omega) hL dL_law_1828 ?_
  refine lv_aload_n hx hb dL_law_1829 rfl (lv_at hl 3 rfl) ?_
  refine zh_callSi_ch (As := [.ref (ad 0), .int (iI (xz xs (i + 1))), .ref o]) (rest := []) (L := [xOut tA o og, xOud tA od dg, xMod tA am ms mbef msav misv mpast mpm mthr mways mnds mtkp mline mlm mtxt mlen mat mwr merr mfail mcmd mcm, xObj ad hsv mal fai, xOff tA ad v shrt grp seen tp shr need ordr size, xScr tA K ad pos cmd vals txt len, xHis tA ad hc hn hs, xBef tA ad bt, xSav tA ad sv, xLin tA ad lnb lml lct]) (Lc := [xOut tA o og, xObj ad hsv mal fai, xOff tA ad v shrt grp seen tp shr need ordr size]) (Lr := [xOud tA od dg, xMod tA am ms mbef msav misv mpast mpm mthr mways mnds mtkp mline mlm mtxt mlen mat mwr merr mfail mcmd mcm, xScr tA K ad pos cmd vals txt len, xHis tA ad hc hn hs, xBef tA ad bt, xSav tA ad sv, xLin tA ad lnb lml lct]) (Lc' := fun u => Sum.elim (fun u => [xOut tA o (zU og 0 u.1), xObj ad hsv mal fai, xOff tA ad v shrt grp seen tp shr need ordr size]) (fun u => [xOut tA o og, xObj ad hsv mal fai, xOff tA ad v shrt grp seen tp shr need ordr size]) u) (Lf := fun u => Sum.elim (fun u => [xOut tA o (zU og 0 u.1), xOud tA od dg, xMod tA am ms mbef msav misv mpast mpm mthr mways mnds mtkp mline mlm mtxt mlen mat mwr merr mfail mcmd mcm, xObj ad hsv mal fai, xOff tA ad v shrt grp seen tp shr need ordr size, xScr tA K ad pos cmd vals txt len, xHis tA ad hc hn hs, xBef tA ad bt, xSav tA ad sv, xLin tA ad lnb lml lct]) (fun u => [xOut tA o og, xOud tA od dg, xMod tA am ms mbef msav misv mpast mpm mthr mways mnds mtkp mline mlm mtxt mlen mat mwr merr mfail mcmd mcm, xObj ad hsv mal fai, xOff tA ad v shrt grp seen tp shr need ordr size, xScr tA K ad pos cmd vals txt len, xHis tA ad hc hn hs, xBef tA ad bt, xSav tA ad sv, xLin tA ad lnb lml lct]) u) (is := [0, 3, 4, 1, 2, 5, 6, 7, 8, 9]) (isF := [7, 0, 1, 8, 9, 2, 3, 4, 5, 6]) ⟨hx, hb, hml, hown, hts⟩ (c_L_darkNightsOf l hst K D tA (ad 0) (ad 1) (ad 2) (ad 3) (ad 4) (ad 5) (ad 6) (ad 7) (ad 8) (ad 9) (ad 10) (ad 11) (ad 12) (ad 13) (ad 14) (ad 15) (ad 16) (ad 17) (ad 18) (ad 19) (ad 20) (ad 21) (ad 22) (ad 23) (ad 24) (ad 27) (ad 146) (ad 133) (ad 159) o H.size og (v 0 0) (v 1 0) (v 2) (v 3) (v 4) (v 5) (v 6) (v 7 0) (v 8) (v 9) (v 10) (v 11) (v 12) (v 13 0) (v 14 0) (v 15 0) (v 16 0) (v 17 0) (v 18 0) shrt grp seen tp shr need ordr size hsv mal fai  (xz xs (i + 1)) (xz_in _ _) hcc (fun j j0 j1 => by have := hlnd j j0 j1; omega)) (vx_cwSW 3 hts (gx_wr gL_law_L_darkNightsOf) rfl rfl rfl (by decide +kernel) ⟨Nat.le_of_ble_eq_true rfl, Nat.le_of_ble_eq_true rfl⟩) hK hP hD hS hA hZ ⟨rfl, rfl, (by decide)⟩ ⟨fun u => by cases u <;> rfl, fun u => by cases u <;> rfl, (by decide)⟩ rfl rfl hl.1 (Nat.le_of_ble_eq_true rfl) dL_law_1830 (by show k9 + 1 ≤ 603072 ∧ n9 + 6 ≤ 7207018; omega) ?_
  intro z6 u H locs hq hP hD hS
  rcases u with ⟨zc, u⟩ | u
  · skip
    obtain ⟨hz6, kq, hzr⟩ := hq
    have kq : (0 ≤ (xz xs (i + 1)) ∧ (xz xs (i + 1)) < (v 7 0)) ∧ zc = (v 12) (xz xs (i + 1)) := kq
    have hz6 : z6 = 0 := hz6
    have hzr : -2147483648 ≤ zc ∧ zc ≤ 2147483647 := hzr
    have hP : va_P D vwCl ([xOut tA o (zU og 0 zc), xOud tA od dg, xMod tA am ms mbef msav misv mpast mpm mthr mways mnds mtkp mline mlm mtxt mlen mat mwr merr mfail mcmd mcm, xObj ad hsv mal fai, xOff tA ad v shrt grp seen tp shr need ordr size, xScr tA K ad pos cmd vals txt len, xHis tA ad hc hn hs, xBef tA ad bt, xSav tA ad sv, xLin tA ad lnb lml lct]).flatten H := hP
    have hD : va_D (lwA s) ([xOut tA o (zU og 0 zc), xOud tA od dg, xMod tA am ms mbef msav misv mpast mpm mthr mways mnds mtkp mline mlm mtxt mlen mat mwr merr mfail mcmd mcm, xObj ad hsv mal fai, xOff tA ad v shrt grp seen tp shr need ordr size, xScr tA K ad pos cmd vals txt len, xHis tA ad hc hn hs, xBef tA ad bt, xSav tA ad sv, xLin tA ad lnb lml lct]).flatten := hD
    refine lv_istore (lv' := [(6, .int (iI z6)), (0, .ref b), (1, .ref (ad 0)), (2, .ref (am 0)), (3, .ref o), (4, .ref od), (5, .int (iI i))]) hx hb dL_law_1833 hl (by decide) rfl (fun ls hl => ?_)
    refine lv_aload_n hx hb dL_law_1835 rfl (lv_at hl 3 rfl) ?_
    refine lv_aload_n hx hb dL_law_1836 rfl (lv_at hl 1 rfl) ?_
    refine lv_iload hx hb dL_law_1837 (lv_at hl 6 rfl) ?_
    refine zz_iconst hx hb dL_law_1839 ?_
    refine zz_iadd hx hb dL_law_1840 ?_
    refine zz_sld hx hb hX hbl hbA hS (k := i + 1) (by omega) hL dL_law_1841 ?_
    refine zz_callVi_ch (As := [.int (iI (xz xs (i + 1)))]) (rest := []) (L := [xOut tA o (zU og 0 zc), xOud tA od dg, xMod tA am ms mbef msav misv mpast mpm mthr mways mnds mtkp mline mlm mtxt mlen mat mwr merr mfail mcmd mcm, xObj ad hsv mal fai, xOff tA ad v shrt grp seen tp shr need ordr size, xScr tA K ad pos cmd vals txt len, xHis tA ad hc hn hs, xBef tA ad bt, xSav tA ad sv, xLin tA ad lnb lml lct]) (Lc := [xMod tA am ms mbef msav misv mpast mpm mthr mways mnds mtkp mline mlm mtxt mlen mat mwr merr mfail mcmd mcm]) (Lr := [xOut tA o (zU og 0 zc), xOud tA od dg, xObj ad hsv mal fai, xOff tA ad v shrt grp seen tp shr need ordr size, xScr tA K ad pos cmd vals txt len, xHis tA ad hc hn hs, xBef tA ad bt, xSav tA ad sv, xLin tA ad lnb lml lct]) (Lc' := fun u => [xMod tA am ms mbef msav misv mpast mpm u mways mnds mtkp mline mlm mtxt mlen mat mwr merr mfail mcmd mcm]) (Lf := fun u => [xOut tA o (zU og 0 zc), xOud tA od dg, xMod tA am ms mbef msav misv mpast mpm u mways mnds mtkp mline mlm mtxt mlen mat mwr merr mfail mcmd mcm, xObj ad hsv mal fai, xOff tA ad v shrt grp seen tp shr need ordr size, xScr tA K ad pos cmd vals txt len, xHis tA ad hc hn hs, xBef tA ad bt, xSav tA ad sv, xLin tA ad lnb lml lct]) (is := [2, 0, 1, 3, 4, 5, 6, 7, 8, 9]) (isF := [0, 1, 9, 2, 3, 4, 5, 6, 7, 8]) ⟨hx, hb, hml, hown, hts⟩ (c_X11_darkNightsOf l D tA (am 0) (am 1) (am 2) (am 3) (am 4) (am 5) (am 6) (am 7) (am 8) (am 9) (am 10) H.size ms mbef msav misv mpast mpm mthr mways mnds mtkp mline mlm mtxt mlen mat mwr merr mfail mcmd mcm (xz xs (i + 1)) (xz_in _ _) ⟨hmv.1.1.2.2.1, hmv.1.1.2.2.2.1⟩) (cwV 1 hts (gx_tbl gL_law_X11_darkNightsOf) rfl rfl rfl (by decide +kernel) ⟨Nat.le_of_ble_eq_true rfl, Nat.le_of_ble_eq_true rfl⟩) hK hP hD hS hA ⟨rfl, rfl, (by decide)⟩ ⟨fun _ => rfl, fun _ => rfl, (by decide)⟩ (ci := 13) (q0 := 0) rfl rfl rfl rfl rfl hl.1 (Nat.le_of_ble_eq_true rfl) dL_law_1842 (by show _ + 0 ≤ 603072 ∧ _ + 0 ≤ 7207018; omega) ?_
    intro zb u H locs hmq hP hD hS
    obtain ⟨y_mthr, rfl⟩ : ∃ q, q = u := ⟨_, rfl⟩
    have hP : va_P D vwCl ([xOut tA o (zU og 0 zc), xOud tA od dg, xMod tA am ms mbef msav misv mpast mpm y_mthr mways mnds mtkp mline mlm mtxt mlen mat mwr merr mfail mcmd mcm, xObj ad hsv mal fai, xOff tA ad v shrt grp seen tp shr need ordr size, xScr tA K ad pos cmd vals txt len, xHis tA ad hc hn hs, xBef tA ad bt, xSav tA ad sv, xLin tA ad lnb lml lct]).flatten H := hP
    have hD : va_D (lwA s) ([xOut tA o (zU og 0 zc), xOud tA od dg, xMod tA am ms mbef msav misv mpast mpm y_mthr mways mnds mtkp mline mlm mtxt mlen mat mwr merr mfail mcmd mcm, xObj ad hsv mal fai, xOff tA ad v shrt grp seen tp shr need ordr size, xScr tA K ad pos cmd vals txt len, xHis tA ad hc hn hs, xBef tA ad bt, xSav tA ad sv, xLin tA ad lnb lml lct]).flatten := hD
    have mq : (y_mthr = 1 ∧ ¬ (0 ≤ (xz xs (i + 1)) ∧ (xz xs (i + 1)) < ms 1)) ∨ (y_mthr = 0 ∧ (0 ≤ (xz xs (i + 1)) ∧ (xz xs (i + 1)) < ms 1) ∧ zb = suM ms (xz xs (i + 1)) 4) := hmq
    clear hmq
    refine lv_istore (lv' := [(7, .int (iI zb)), (6, .int (iI z6)), (0, .ref b), (1, .ref (ad 0)), (2, .ref (am 0)), (3, .ref o), (4, .ref od), (5, .int (iI i))]) hx hb dL_law_1845 hl (by decide) rfl (fun ls hl => ?_)
    have hTV : y_mthr = 0 ∧ zb = zc := by
      rw [e1] at mq
      rcases mq with ⟨-, m⟩ | ⟨m0, m1, m2⟩
      · exact absurd kq.1 m
      · have u9 := hr.2.1 (xz xs (i + 1)) m1.1 m1.2
        exact ⟨m0, m2.trans (u9.2.2.2.2.trans kq.2.symm)⟩
    have hT : y_mthr = z6 := hTV.1.trans hz6.symm
    have hI2 : LInv (n + 1) v hs sv pos cmd vals txt len hc hn hsv mal fai lnb lct ms msav misv mpast mpm mline mlm mtxt mlen merr mfail mcmd := by
      exact LI_q hn9 hI
    refine lv_aload_n hx hb dL_law_1847 rfl (lv_at hl 4 rfl) ?_
    refine zz_callVi_ch (As := []) (rest := []) (L := [xOut tA o (zU og 0 zc), xOud tA od dg, xMod tA am ms mbef msav misv mpast mpm y_mthr mways mnds mtkp mline mlm mtxt mlen mat mwr merr mfail mcmd mcm, xObj ad hsv mal fai, xOff tA ad v shrt grp seen tp shr need ordr size, xScr tA K ad pos cmd vals txt len, xHis tA ad hc hn hs, xBef tA ad bt, xSav tA ad sv, xLin tA ad lnb lml lct]) (Lc := [xMod tA am ms mbef msav misv mpast mpm y_mthr mways mnds mtkp mline mlm mtxt mlen mat mwr merr mfail mcmd mcm]) (Lr := [xOut tA o (zU og 0 zc), xOud tA od dg, xObj ad hsv mal fai, xOff tA ad v shrt grp seen tp shr need ordr size, xScr tA K ad pos cmd vals txt len, xHis tA ad hc hn hs, xBef tA ad bt, xSav tA ad sv, xLin tA ad lnb lml lct]) (Lc' := fun u => [xMod tA am ms mbef msav misv mpast mpm y_mthr mways mnds mtkp mline mlm mtxt mlen mat mwr merr mfail mcmd mcm]) (Lf := fun u => [xOut tA o (zU og 0 zc), xOud tA od dg, xMod tA am ms mbef msav misv mpast mpm y_mthr mways mnds mtkp mline mlm mtxt mlen mat mwr merr mfail mcmd mcm, xObj ad hsv mal fai, xOff tA ad v shrt grp seen tp shr need ordr size, xScr tA K ad pos cmd vals txt len, xHis tA ad hc hn hs, xBef tA ad bt, xSav tA ad sv, xLin tA ad lnb lml lct]) (is := [2, 0, 1, 3, 4, 5, 6, 7, 8, 9]) (isF := [0, 1, 9, 2, 3, 4, 5, 6, 7, 8]) ⟨hx, hb, hml, hown, hts⟩ (c_X11_thrown l D tA (am 0) (am 1) (am 2) (am 3) (am 4) (am 5) (am 6) (am 7) (am 8) (am 9) (am 10) H.size ms mbef msav misv mpast mpm y_mthr mways mnds mtkp mline mlm mtxt mlen mat mwr merr mfail mcmd mcm) (cwV 0 hts (gx_tbl gL_law_X11_thrown) rfl rfl rfl (by decide +kernel) ⟨Nat.le_of_ble_eq_true rfl, Nat.le_of_ble_eq_true rfl⟩) hK hP hD hS hA ⟨rfl, rfl, (by decide)⟩ ⟨fun _ => rfl, fun _ => rfl, (by decide)⟩ (ci := 13) (q0 := 0) rfl rfl rfl rfl rfl hl.1 (Nat.le_of_ble_eq_true rfl) dL_law_1848 (by show _ + 0 ≤ 603072 ∧ _ + 0 ≤ 7207018; omega) ?_
    intro zt u H locs hzt hP hD hS
    have hP : va_P D vwCl ([xOut tA o (zU og 0 zc), xOud tA od dg, xMod tA am ms mbef msav misv mpast mpm y_mthr mways mnds mtkp mline mlm mtxt mlen mat mwr merr mfail mcmd mcm, xObj ad hsv mal fai, xOff tA ad v shrt grp seen tp shr need ordr size, xScr tA K ad pos cmd vals txt len, xHis tA ad hc hn hs, xBef tA ad bt, xSav tA ad sv, xLin tA ad lnb lml lct]).flatten H := hP
    have hD : va_D (lwA s) ([xOut tA o (zU og 0 zc), xOud tA od dg, xMod tA am ms mbef msav misv mpast mpm y_mthr mways mnds mtkp mline mlm mtxt mlen mat mwr merr mfail mcmd mcm, xObj ad hsv mal fai, xOff tA ad v shrt grp seen tp shr need ordr size, xScr tA K ad pos cmd vals txt len, xHis tA ad hc hn hs, xBef tA ad bt, xSav tA ad sv, xLin tA ad lnb lml lct]).flatten := hD
    have hzt : zt = y_mthr := hzt
    have hz69 : 0 ≤ z6 ∧ z6 ≤ 9 := by omega
    refine lv_iload hx hb dL_law_1851 (lv_at hl 1 rfl) ?_
    refine zz_icmp_eq (tgt := 1858) hx hb dL_law_1853 (by decide) (by omega) (by omega) (fun _ => ?_) (fun c9 => absurd (by omega) c9)
    refine lv_iload hx hb dL_law_1858 (lv_at hl 1 rfl) ?_
    refine zz_if_ne (tgt := 1875) hx hb dL_law_1860 (by decide) (by omega) (fun c9 => absurd hz6 c9) (fun _ => ?_)
    refine lv_aload_n hx hb dL_law_1863 rfl (lv_at hl 5 rfl) ?_
    refine zz_iconst hx hb dL_law_1864 ?_
    refine zz_lald hx hb hK hP 0 rfl (by decide) (by decide) dL_law_1865 ?_
    rw [zU_same]
    refine lv_iload hx hb dL_law_1866 (lv_at hl 0 rfl) ?_
    refine zz_i2l hx hb dL_law_1868 (by omega) ?_
    rw [hTV.2]
    refine zz_lcmp hx hb dL_law_1869 (by omega) (by omega) ?_
    rw [cmpZ_s]
    refine zz_if_eq (tgt := 1875) hx hb dL_law_1870 (by decide) (by decide) (fun _ => ?_) (fun c9 => absurd rfl c9)
    refine lv_goto (tgt := 2917) hx hb dL_law_1875 (by decide) ?_
    refine W.widen (k := k9 + 20) (n := n9 + 200) (by omega) (by omega) ?_
    exact kk v shrt grp seen tp shr need ordr size pos cmd vals txt len hc hn hs bt sv hsv mal fai lnb lml lct ms mbef msav misv mpast mpm y_mthr mways mnds mtkp mline mlm mtxt mlen mat mwr merr mfail mcmd mcm (zU og 0 zc) dg _ _ _ hI2 hP hD hS (lv_sub hl [2, 3, 4, 5, 6, 7] rfl)
  · obtain ⟨kx, rfl⟩ : ∃ q, q = u := ⟨_, rfl⟩
    have kq : kx = 1 ∧ ¬ (0 ≤ (xz xs (i + 1)) ∧ (xz xs (i + 1)) < (v 7 0)) := hq.1
    have kc : (kx = 1 ∧ z6 = 1) := hq.2
    have hP : va_P D vwCl ([xOut tA o og, xOud tA od dg, xMod tA am ms mbef msav misv mpast mpm mthr mways mnds mtkp mline mlm mtxt mlen mat mwr merr mfail mcmd mcm, xObj ad hsv mal fai, xOff tA ad v shrt grp seen tp shr need ordr size, xScr tA K ad pos cmd vals txt len, xHis tA ad hc hn hs, xBef tA ad bt, xSav tA ad sv, xLin tA ad lnb lml lct]).flatten H := hP
    have hD : va_D (lwA s) ([xOut tA o og, xOud tA od dg, xMod tA am ms mbef msav misv mpast mpm mthr mways mnds mtkp mline mlm mtxt mlen mat mwr merr mfail mcmd mcm, xObj ad hsv mal fai, xOff tA ad v shrt grp seen tp shr need ordr size, xScr tA K ad pos cmd vals txt len, xHis tA ad hc hn hs, xBef tA ad bt, xSav tA ad sv, xLin tA ad lnb lml lct]).flatten := hD
    refine lv_istore (lv' := [(6, .int (iI z6)), (0, .ref b), (1, .ref (ad 0)), (2, .ref (am 0)), (3, .ref o), (4, .ref od), (5, .int (iI i))]) hx hb dL_law_1833 hl (by decide) rfl (fun ls hl => ?_)
    refine lv_aload_n hx hb dL_law_1835 rfl (lv_at hl 3 rfl) ?_
    refine lv_aload_n hx hb dL_law_1836 rfl (lv_at hl 1 rfl) ?_
    refine lv_iload hx hb dL_law_1837 (lv_at hl 6 rfl) ?_
    refine zz_iconst hx hb dL_law_1839 ?_
    refine zz_iadd hx hb dL_law_1840 ?_
    refine zz_sld hx hb hX hbl hbA hS (k := i + 1) (by omega) hL dL_law_1841 ?_
    refine zz_callVi_ch (As := [.int (iI (xz xs (i + 1)))]) (rest := []) (L := [xOut tA o og, xOud tA od dg, xMod tA am ms mbef msav misv mpast mpm mthr mways mnds mtkp mline mlm mtxt mlen mat mwr merr mfail mcmd mcm, xObj ad hsv mal fai, xOff tA ad v shrt grp seen tp shr need ordr size, xScr tA K ad pos cmd vals txt len, xHis tA ad hc hn hs, xBef tA ad bt, xSav tA ad sv, xLin tA ad lnb lml lct]) (Lc := [xMod tA am ms mbef msav misv mpast mpm mthr mways mnds mtkp mline mlm mtxt mlen mat mwr merr mfail mcmd mcm]) (Lr := [xOut tA o og, xOud tA od dg, xObj ad hsv mal fai, xOff tA ad v shrt grp seen tp shr need ordr size, xScr tA K ad pos cmd vals txt len, xHis tA ad hc hn hs, xBef tA ad bt, xSav tA ad sv, xLin tA ad lnb lml lct]) (Lc' := fun u => [xMod tA am ms mbef msav misv mpast mpm u mways mnds mtkp mline mlm mtxt mlen mat mwr merr mfail mcmd mcm]) (Lf := fun u => [xOut tA o og, xOud tA od dg, xMod tA am ms mbef msav misv mpast mpm u mways mnds mtkp mline mlm mtxt mlen mat mwr merr mfail mcmd mcm, xObj ad hsv mal fai, xOff tA ad v shrt grp seen tp shr need ordr size, xScr tA K ad pos cmd vals txt len, xHis tA ad hc hn hs, xBef tA ad bt, xSav tA ad sv, xLin tA ad lnb lml lct]) (is := [2, 0, 1, 3, 4, 5, 6, 7, 8, 9]) (isF := [0, 1, 9, 2, 3, 4, 5, 6, 7, 8]) ⟨hx, hb, hml, hown, hts⟩ (c_X11_darkNightsOf l D tA (am 0) (am 1) (am 2) (am 3) (am 4) (am 5) (am 6) (am 7) (am 8) (am 9) (am 10) H.size ms mbef msav misv mpast mpm mthr mways mnds mtkp mline mlm mtxt mlen mat mwr merr mfail mcmd mcm (xz xs (i + 1)) (xz_in _ _) ⟨hmv.1.1.2.2.1, hmv.1.1.2.2.2.1⟩) (cwV 1 hts (gx_tbl gL_law_X11_darkNightsOf) rfl rfl rfl (by decide +kernel) ⟨Nat.le_of_ble_eq_true rfl, Nat.le_of_ble_eq_true rfl⟩) hK hP hD hS hA ⟨rfl, rfl, (by decide)⟩ ⟨fun _ => rfl, fun _ => rfl, (by decide)⟩ (ci := 13) (q0 := 0) rfl rfl rfl rfl rfl hl.1 (Nat.le_of_ble_eq_true rfl) dL_law_1842 (by show _ + 0 ≤ 603072 ∧ _ + 0 ≤ 7207018; omega) ?_
    intro zb u H locs hmq hP hD hS
    obtain ⟨y_mthr, rfl⟩ : ∃ q, q = u := ⟨_, rfl⟩
    have hP : va_P D vwCl ([xOut tA o og, xOud tA od dg, xMod tA am ms mbef msav misv mpast mpm y_mthr mways mnds mtkp mline mlm mtxt mlen mat mwr merr mfail mcmd mcm, xObj ad hsv mal fai, xOff tA ad v shrt grp seen tp shr need ordr size, xScr tA K ad pos cmd vals txt len, xHis tA ad hc hn hs, xBef tA ad bt, xSav tA ad sv, xLin tA ad lnb lml lct]).flatten H := hP
    have hD : va_D (lwA s) ([xOut tA o og, xOud tA od dg, xMod tA am ms mbef msav misv mpast mpm y_mthr mways mnds mtkp mline mlm mtxt mlen mat mwr merr mfail mcmd mcm, xObj ad hsv mal fai, xOff tA ad v shrt grp seen tp shr need ordr size, xScr tA K ad pos cmd vals txt len, xHis tA ad hc hn hs, xBef tA ad bt, xSav tA ad sv, xLin tA ad lnb lml lct]).flatten := hD
    have mq : (y_mthr = 1 ∧ ¬ (0 ≤ (xz xs (i + 1)) ∧ (xz xs (i + 1)) < ms 1)) ∨ (y_mthr = 0 ∧ (0 ≤ (xz xs (i + 1)) ∧ (xz xs (i + 1)) < ms 1) ∧ zb = suM ms (xz xs (i + 1)) 4) := hmq
    clear hmq
    refine lv_istore (lv' := [(7, .int (iI zb)), (6, .int (iI z6)), (0, .ref b), (1, .ref (ad 0)), (2, .ref (am 0)), (3, .ref o), (4, .ref od), (5, .int (iI i))]) hx hb dL_law_1845 hl (by decide) rfl (fun ls hl => ?_)
    have hT : y_mthr = z6 := by
      rw [e1] at mq
      rcases mq with ⟨m0, -⟩ | ⟨-, m1, -⟩
      · omega
      · exact absurd m1 kq.2
    have hI2 : LInv (n + 1) v hs sv pos cmd vals txt len hc hn hsv mal fai lnb lct ms msav misv mpast mpm mline mlm mtxt mlen merr mfail mcmd := by
      exact LI_q hn9 hI
    refine lv_aload_n hx hb dL_law_1847 rfl (lv_at hl 4 rfl) ?_
    refine zz_callVi_ch (As := []) (rest := []) (L := [xOut tA o og, xOud tA od dg, xMod tA am ms mbef msav misv mpast mpm y_mthr mways mnds mtkp mline mlm mtxt mlen mat mwr merr mfail mcmd mcm, xObj ad hsv mal fai, xOff tA ad v shrt grp seen tp shr need ordr size, xScr tA K ad pos cmd vals txt len, xHis tA ad hc hn hs, xBef tA ad bt, xSav tA ad sv, xLin tA ad lnb lml lct]) (Lc := [xMod tA am ms mbef msav misv mpast mpm y_mthr mways mnds mtkp mline mlm mtxt mlen mat mwr merr mfail mcmd mcm]) (Lr := [xOut tA o og, xOud tA od dg, xObj ad hsv mal fai, xOff tA ad v shrt grp seen tp shr need ordr size, xScr tA K ad pos cmd vals txt len, xHis tA ad hc hn hs, xBef tA ad bt, xSav tA ad sv, xLin tA ad lnb lml lct]) (Lc' := fun u => [xMod tA am ms mbef msav misv mpast mpm y_mthr mways mnds mtkp mline mlm mtxt mlen mat mwr merr mfail mcmd mcm]) (Lf := fun u => [xOut tA o og, xOud tA od dg, xMod tA am ms mbef msav misv mpast mpm y_mthr mways mnds mtkp mline mlm mtxt mlen mat mwr merr mfail mcmd mcm, xObj ad hsv mal fai, xOff tA ad v shrt grp seen tp shr need ordr size, xScr tA K ad pos cmd vals txt len, xHis tA ad hc hn hs, xBef tA ad bt, xSav tA ad sv, xLin tA ad lnb lml lct]) (is := [2, 0, 1, 3, 4, 5, 6, 7, 8, 9]) (isF := [0, 1, 9, 2, 3, 4, 5, 6, 7, 8]) ⟨hx, hb, hml, hown, hts⟩ (c_X11_thrown l D tA (am 0) (am 1) (am 2) (am 3) (am 4) (am 5) (am 6) (am 7) (am 8) (am 9) (am 10) H.size ms mbef msav misv mpast mpm y_mthr mways mnds mtkp mline mlm mtxt mlen mat mwr merr mfail mcmd mcm) (cwV 0 hts (gx_tbl gL_law_X11_thrown) rfl rfl rfl (by decide +kernel) ⟨Nat.le_of_ble_eq_true rfl, Nat.le_of_ble_eq_true rfl⟩) hK hP hD hS hA ⟨rfl, rfl, (by decide)⟩ ⟨fun _ => rfl, fun _ => rfl, (by decide)⟩ (ci := 13) (q0 := 0) rfl rfl rfl rfl rfl hl.1 (Nat.le_of_ble_eq_true rfl) dL_law_1848 (by show _ + 0 ≤ 603072 ∧ _ + 0 ≤ 7207018; omega) ?_
    intro zt u H locs hzt hP hD hS
    have hP : va_P D vwCl ([xOut tA o og, xOud tA od dg, xMod tA am ms mbef msav misv mpast mpm y_mthr mways mnds mtkp mline mlm mtxt mlen mat mwr merr mfail mcmd mcm, xObj ad hsv mal fai, xOff tA ad v shrt grp seen tp shr need ordr size, xScr tA K ad pos cmd vals txt len, xHis tA ad hc hn hs, xBef tA ad bt, xSav tA ad sv, xLin tA ad lnb lml lct]).flatten H := hP
    have hD : va_D (lwA s) ([xOut tA o og, xOud tA od dg, xMod tA am ms mbef msav misv mpast mpm y_mthr mways mnds mtkp mline mlm mtxt mlen mat mwr merr mfail mcmd mcm, xObj ad hsv mal fai, xOff tA ad v shrt grp seen tp shr need ordr size, xScr tA K ad pos cmd vals txt len, xHis tA ad hc hn hs, xBef tA ad bt, xSav tA ad sv, xLin tA ad lnb lml lct]).flatten := hD
    have hzt : zt = y_mthr := hzt
    have hz69 : 0 ≤ z6 ∧ z6 ≤ 9 := by omega
    refine lv_iload hx hb dL_law_1851 (lv_at hl 1 rfl) ?_
    refine zz_icmp_eq (tgt := 1858) hx hb dL_law_1853 (by decide) (by omega) (by omega) (fun _ => ?_) (fun c9 => absurd (by omega) c9)
    refine lv_iload hx hb dL_law_1858 (lv_at hl 1 rfl) ?_
    refine zz_if_ne (tgt := 1875) hx hb dL_law_1860 (by decide) (by omega) (fun _ => ?_) (fun c9 => absurd c9 (by omega))
    refine lv_goto (tgt := 2917) hx hb dL_law_1875 (by decide) ?_
    refine W.widen (k := k9 + 20) (n := n9 + 200) (by omega) (by omega) ?_
    exact kk v shrt grp seen tp shr need ordr size pos cmd vals txt len hc hn hs bt sv hsv mal fai lnb lml lct ms mbef msav misv mpast mpm y_mthr mways mnds mtkp mline mlm mtxt mlen mat mwr merr mfail mcmd mcm og dg _ _ _ hI2 hP hD hS (lv_sub hl [2, 3, 4, 5, 6, 7] rfl)

set_option maxHeartbeats 8000000 in
set_option maxRecDepth 100000 in
theorem law_c28 {p : Program} {l : Launch} (hst : l.stackTraces = false) {e : Env} {s : State} {m : MethodId} {below : List Frame} {meth : Method} {c : Code} {D : va_G} {tA : Nat → ClassId} {K : Nat → Nat} {b L : Nat} {xs : Nat → Int32} (hL : L ≤ 2560) (C0 : lw_At p s m meth c b L xs) (hK : zK D tA s) (hZ : zT K (lwA s) s) {ad am : Nat → Nat} {o od : Nat} {i n : Int} (hi : 0 ≤ i ∧ i + 5 ≤ L) (hn9 : n < 600) {k9 n9 : Nat} (hk9 : k9 + 20 ≤ 603072 ∧ n9 + 200 ≤ 7207018) {v : Nat → Int → Int} {shrt : Int → Int} {grp : Int → Int} {seen : Int → Int} {tp : Int → Int} {shr : Int → Int} {need : Int → Int} {ordr : Int → Int} {size : Int} {pos : Int} {cmd : Int} {vals : Int → Int} {txt : Int → Int} {len : Int} {hc : Int} {hn : Int} {hs : Nat → Nat → Int → Int} {bt : Nat → Int → Int} {sv : Nat → Int → Int} {hsv : Int} {mal : Int} {fai : Int} {lnb : Int → Int} {lml : Int} {lct : Int} {ms : Int → Int} {mbef : Int → Int} {msav : Int → Int} {misv : Int} {mpast : Int → Int} {mpm : Int} {mthr : Int} {mways : Int → Int} {mnds : Int → Int} {mtkp : Int → Int} {mline : Int → Int} {mlm : Int} {mtxt : Int → Int} {mlen : Int} {mat : Int} {mwr : Int} {merr : Int} {mfail : Int} {mcmd : Int → Int} {mcm : Int} {og : Int → Int} {dg : Nat → UInt64} {H : Heap} {locs : List Loc} {ls : Array Slot} (hI : LInv n v hs sv pos cmd vals txt len hc hn hsv mal fai lnb lct ms msav misv mpast mpm mline mlm mtxt mlen merr mfail mcmd) (hP : va_P D vwCl (xW tA K ad am o od v shrt grp seen tp shr need ordr size pos cmd vals txt len hc hn hs bt sv hsv mal fai lnb lml lct ms mbef msav misv mpast mpm mthr mways mnds mtkp mline mlm mtxt mlen mat mwr merr mfail mcmd mcm og dg).flatten H) (hD : va_D (lwA s) (xW tA K ad am o od v shrt grp seen tp shr need ordr size pos cmd vals txt len hc hn hs bt sv hsv mal fai lnb lml lct ms mbef msav misv mpast mpm mthr mways mnds mtkp mline mlm mtxt mlen mat mwr merr mfail mcmd mcm og dg).flatten) (hS : va_S (lwA s) s.heap H locs) (hl : lv_has ls 9 [(0, .ref b), (1, .ref (ad 0)), (2, .ref (am 0)), (3, .ref o), (4, .ref od), (5, .int (iI i))]) (kk : lwK p l e s m below meth c D tA K ad am o od b i n k9 n9) : W p l e room_1 s m #[Value.ref b] below meth c H locs k9 n9 (lw_Z below #[Value.ref b] s) (F0 m 1878 ls []) := by
  obtain ⟨hx, hb, hrt, hml, hown, hts, hX, hbl, hlocks, hgv⟩ := id C0
  have hts := lw_more hts
  have hA : ∀ q : Nat, s.heap.size ≤ q → lwA s q := fun _ h => h
  have hbA : ¬ lwA s b := Nat.not_le.mpr hbl
  have hCn := hZ.2.2.2
  obtain ⟨⟨n0, n6, l0, l6, ln⟩, hLS, ⟨hhn, hhc, hpm, hhi⟩, ⟨hsv01, hmis, hsvv, hsvr⟩, ⟨hlen, htxt, htx⟩, ⟨hlm, hln, hl0, hl16, hlb⟩, ⟨her, hfa, hm1, hm2, hf1, hf2⟩, ⟨hcd0, hcd1, hps0, hps1, hva⟩, hcr⟩ := id hI
  have hv := hLS.1
  have hr := hLS.2
  have hch : ChS v := hv.1
  have hu9 : ChW v := hv.2.1
  obtain ⟨-, -, hcc, hsp, hmo, hfog, hrg, hni, hfd, hmt9, hln9, hsum⟩ := SVk_out (show SVk _ _ (etS v) from hv)
  have hmv := rel_MV hv hr (by omega) (by omega)
  obtain ⟨e0, e1, e2, e3, e4, e5, e6⟩ := id hr.1
  have eE := rel_sE hch hr
  have hmon : ∀ j, 0 ≤ j → j < v 7 0 → 0 ≤ v 10 j ∧ v 10 j ≤ 6000000 := fun j j0 j1 => by have := hmo j j0 j1; omega
  have hlnd : ∀ j, 0 ≤ j → j < v 7 0 → (0 ≤ v 11 j ∧ v 11 j ≤ 600) ∧ (0 ≤ v 12 j ∧ v 12 j ≤ 600) := fun j j0 j1 => by have := hln9 j j0 j1; omega
  refine lv_aload_n hx hb dL_law_1878 rfl (lv_at hl 1 rfl) ?_
  refine lv_aload_n hx hb dL_law_1879 rfl (lv_at hl 0 rfl) ?_
  refine lv_iload hx hb dL_law_1880 (lv_at hl 5 rfl) ?_
  refine zz_iconst hx hb dL_law_1882 ?_
  refine zz_iadd hx hb dL_law_1883 ?_
  refine zz_sld hx hb hX hbl hbA hS (k := i + 1) (by omega) hL dL_law_1884 ?_
  refine lv_aload_n hx hb dL_law_1885 rfl (lv_at hl 3 rfl) ?_
  refine zh_callSi_ch (As := [.ref (ad 0), .int (iI (xz xs (i + 1))), .ref o]) (rest := []) (L := [xOut tA o og, xOud tA od dg, xMod tA am ms mbef msav misv mpast mpm mthr mways mnds mtkp mline mlm mtxt mlen mat mwr merr mfail mcmd mcm, xObj ad hsv mal fai, xOff tA ad v shrt grp seen tp shr need ordr size, xScr tA K ad pos cmd vals txt len, xHis tA ad hc hn hs, xBef tA ad bt, xSav tA ad sv, xLin tA ad lnb lml lct]) (Lc := [xOut tA o og, xObj ad hsv mal fai, xOff tA ad v shrt grp seen tp shr need ordr size]) (Lr := [xOud tA od dg, xMod tA am ms mbef msav misv mpast mpm mthr mways mnds mtkp mline mlm mtxt mlen mat mwr merr mfail mcmd mcm, xScr tA K ad pos cmd vals txt len, xHis tA ad hc hn hs, xBef tA ad bt, xSav tA ad sv, xLin tA ad lnb lml lct]) (Lc' := fun u => Sum.elim (fun u => [xOut tA o (zU og 0 u.1), xObj ad hsv mal fai, xOff tA ad v shrt u.2.2.2.2 seen u.2.1 u.2.2.2.1 u.2.2.1 ordr size]) (fun u => [xOut tA o og, xObj ad hsv mal fai, xOff tA ad v shrt u.2.2.2.2 seen u.2.1 u.2.2.2.1 u.2.2.1 ordr size]) u) (Lf := fun u => Sum.elim (fun u => [xOut tA o (zU og 0 u.1), xOud tA od dg, xMod tA am ms mbef msav misv mpast mpm mthr mways mnds mtkp mline mlm mtxt mlen mat mwr merr mfail mcmd mcm, xObj ad hsv mal fai, xOff tA ad v shrt u.2.2.2.2 seen u.2.1 u.2.2.2.1 u.2.2.1 ordr size, xScr tA K ad pos cmd vals txt len, xHis tA ad hc hn hs, xBef tA ad bt, xSav tA ad sv, xLin tA ad lnb lml lct]) (fun u => [xOut tA o og, xOud tA od dg, xMod tA am ms mbef msav misv mpast mpm mthr mways mnds mtkp mline mlm mtxt mlen mat mwr merr mfail mcmd mcm, xObj ad hsv mal fai, xOff tA ad v shrt u.2.2.2.2 seen u.2.1 u.2.2.2.1 u.2.2.1 ordr size, xScr tA K ad pos cmd vals txt len, xHis tA ad hc hn hs, xBef tA ad bt, xSav tA ad sv, xLin tA ad lnb lml lct]) u) (is := [0, 3, 4, 1, 2, 5, 6, 7, 8, 9]) (isF := [7, 0, 1, 8, 9, 2, 3, 4, 5, 6]) ⟨hx, hb, hml, hown, hts⟩ (c_L_shareOf l hst K D tA (ad 0) (ad 1) (ad 2) (ad 3) (ad 4) (ad 5) (ad 6) (ad 7) (ad 8) (ad 9) (ad 10) (ad 11) (ad 12) (ad 13) (ad 14) (ad 15) (ad 16) (ad 17) (ad 18) (ad 19) (ad 20) (ad 21) (ad 22) (ad 23) (ad 24) (ad 27) (ad 146) (ad 133) (ad 159) o H.size og (v 0 0) (v 1 0) (v 2) (v 3) (v 4) (v 5) (v 6) (v 7 0) (v 8) (v 9) (v 10) (v 11) (v 12) (v 13 0) (v 14 0) (v 15 0) (v 16 0) (v 17 0) (v 18 0) shrt grp seen tp shr need ordr size hsv mal fai  (xz xs (i + 1)) (xz_in _ _) hch hcc hsp) (vx_cwSW 3 hts (gx_wr gL_law_L_shareOf) rfl rfl rfl (by decide +kernel) ⟨Nat.le_of_ble_eq_true rfl, Nat.le_of_ble_eq_true rfl⟩) hK hP hD hS hA hZ ⟨rfl, rfl, (by decide)⟩ ⟨fun u => by cases u <;> rfl, fun u => by cases u <;> rfl, (by decide)⟩ rfl rfl hl.1 (Nat.le_of_ble_eq_true rfl) dL_law_1886 (by show k9 + 2 ≤ 603072 ∧ n9 + 12 ≤ 7207018; omega) ?_
  intro z6 u H locs hq hP hD hS
  rcases u with ⟨zc, u⟩ | u
  · obtain ⟨w_tp, w_need, w_shr, w_grp⟩ := u
    obtain ⟨hz6, kq, hzr⟩ := hq
    have kq : (0 ≤ (xz xs (i + 1)) ∧ (xz xs (i + 1)) < (v 7 0)) ∧ zc ≠ -1 ∧ shrP (eg (v 1 0) (v 2) (v 3) (v 4) (v 5)) (v 7 0) (v 8) (v 9) (xz xs (i + 1)) zc := kq
    have hz6 : z6 = 0 := hz6
    have hzr : -2147483648 ≤ zc ∧ zc ≤ 2147483647 := hzr
    have hP : va_P D vwCl ([xOut tA o (zU og 0 zc), xOud tA od dg, xMod tA am ms mbef msav misv mpast mpm mthr mways mnds mtkp mline mlm mtxt mlen mat mwr merr mfail mcmd mcm, xObj ad hsv mal fai, xOff tA ad v shrt w_grp seen w_tp w_shr w_need ordr size, xScr tA K ad pos cmd vals txt len, xHis tA ad hc hn hs, xBef tA ad bt, xSav tA ad sv, xLin tA ad lnb lml lct]).flatten H := hP
    have hD : va_D (lwA s) ([xOut tA o (zU og 0 zc), xOud tA od dg, xMod tA am ms mbef msav misv mpast mpm mthr mways mnds mtkp mline mlm mtxt mlen mat mwr merr mfail mcmd mcm, xObj ad hsv mal fai, xOff tA ad v shrt w_grp seen w_tp w_shr w_need ordr size, xScr tA K ad pos cmd vals txt len, xHis tA ad hc hn hs, xBef tA ad bt, xSav tA ad sv, xLin tA ad lnb lml lct]).flatten := hD
    refine lv_istore (lv' := [(6, .int (iI z6)), (0, .ref b), (1, .ref (ad 0)), (2, .ref (am 0)), (3, .ref o), (4, .ref od), (5, .int (iI i))]) hx hb dL_law_1889 hl (by decide) rfl (fun ls hl => ?_)
    refine lv_aload_n hx hb dL_law_1891 rfl (lv_at hl 3 rfl) ?_
    refine lv_aload_n hx hb dL_law_1892 rfl (lv_at hl 1 rfl) ?_
    refine lv_iload hx hb dL_law_1893 (lv_at hl 6 rfl) ?_
    refine zz_iconst hx hb dL_law_1895 ?_
    refine zz_iadd hx hb dL_law_1896 ?_
    refine zz_sld hx hb hX hbl hbA hS (k := i + 1) (by omega) hL dL_law_1897 ?_
    refine zz_callVi_ch (As := [.int (iI (xz xs (i + 1)))]) (rest := []) (L := [xOut tA o (zU og 0 zc), xOud tA od dg, xMod tA am ms mbef msav misv mpast mpm mthr mways mnds mtkp mline mlm mtxt mlen mat mwr merr mfail mcmd mcm, xObj ad hsv mal fai, xOff tA ad v shrt w_grp seen w_tp w_shr w_need ordr size, xScr tA K ad pos cmd vals txt len, xHis tA ad hc hn hs, xBef tA ad bt, xSav tA ad sv, xLin tA ad lnb lml lct]) (Lc := [xMod tA am ms mbef msav misv mpast mpm mthr mways mnds mtkp mline mlm mtxt mlen mat mwr merr mfail mcmd mcm]) (Lr := [xOut tA o (zU og 0 zc), xOud tA od dg, xObj ad hsv mal fai, xOff tA ad v shrt w_grp seen w_tp w_shr w_need ordr size, xScr tA K ad pos cmd vals txt len, xHis tA ad hc hn hs, xBef tA ad bt, xSav tA ad sv, xLin tA ad lnb lml lct]) (Lc' := fun u => [xMod tA am ms mbef msav misv mpast mpm u.2.2.2 u.1 u.2.1 u.2.2.1 mline mlm mtxt mlen mat mwr merr mfail mcmd mcm]) (Lf := fun u => [xOut tA o (zU og 0 zc), xOud tA od dg, xMod tA am ms mbef msav misv mpast mpm u.2.2.2 u.1 u.2.1 u.2.2.1 mline mlm mtxt mlen mat mwr merr mfail mcmd mcm, xObj ad hsv mal fai, xOff tA ad v shrt w_grp seen w_tp w_shr w_need ordr size, xScr tA K ad pos cmd vals txt len, xHis tA ad hc hn hs, xBef tA ad bt, xSav tA ad sv, xLin tA ad lnb lml lct]) (is := [2, 0, 1, 3, 4, 5, 6, 7, 8, 9]) (isF := [0, 1, 9, 2, 3, 4, 5, 6, 7, 8]) ⟨hx, hb, hml, hown, hts⟩ (c_X11_shareOf l D tA (am 0) (am 1) (am 2) (am 3) (am 4) (am 5) (am 6) (am 7) (am 8) (am 9) (am 10) H.size ms mbef msav misv mpast mpm mthr mways mnds mtkp mline mlm mtxt mlen mat mwr merr mfail mcmd mcm (xz xs (i + 1)) (xz_in _ _) hmv.1) (cwV 1 hts (gx_tbl gL_law_X11_shareOf) rfl rfl rfl (by decide +kernel) ⟨Nat.le_of_ble_eq_true rfl, Nat.le_of_ble_eq_true rfl⟩) hK hP hD hS hA ⟨rfl, rfl, (by decide)⟩ ⟨fun _ => rfl, fun _ => rfl, (by decide)⟩ (ci := 13) (q0 := 0) rfl rfl rfl rfl rfl hl.1 (Nat.le_of_ble_eq_true rfl) dL_law_1898 (by show _ + 0 ≤ 603072 ∧ _ + 0 ≤ 7207018; omega) ?_
    intro zb u H locs hmq hP hD hS
    obtain ⟨y_mways, y_mnds, y_mtkp, y_mthr⟩ := u
    have hP : va_P D vwCl ([xOut tA o (zU og 0 zc), xOud tA od dg, xMod tA am ms mbef msav misv mpast mpm y_mthr y_mways y_mnds y_mtkp mline mlm mtxt mlen mat mwr merr mfail mcmd mcm, xObj ad hsv mal fai, xOff tA ad v shrt w_grp seen w_tp w_shr w_need ordr size, xScr tA K ad pos cmd vals txt len, xHis tA ad hc hn hs, xBef tA ad bt, xSav tA ad sv, xLin tA ad lnb lml lct]).flatten H := hP
    have hD : va_D (lwA s) ([xOut tA o (zU og 0 zc), xOud tA od dg, xMod tA am ms mbef msav misv mpast mpm y_mthr y_mways y_mnds y_mtkp mline mlm mtxt mlen mat mwr merr mfail mcmd mcm, xObj ad hsv mal fai, xOff tA ad v shrt w_grp seen w_tp w_shr w_need ordr size, xScr tA K ad pos cmd vals txt len, xHis tA ad hc hn hs, xBef tA ad bt, xSav tA ad sv, xLin tA ad lnb lml lct]).flatten := hD
    have mq : gatM ms y_mtkp y_mnds := hmq.1
    have mqz : (y_mthr = 1 ∧ ¬ (0 ≤ (xz xs (i + 1)) ∧ (xz xs (i + 1)) < ms 1)) ∨ ((0 ≤ (xz xs (i + 1)) ∧ (xz xs (i + 1)) < ms 1) ∧ ((y_mthr = 2 ∧ y_mtkp (xz xs (i + 1)) = 0) ∨ (y_mthr = 0 ∧ y_mtkp (xz xs (i + 1)) = 1 ∧ zb = shR (mkT (ms 1) y_mtkp) y_mnds (y_mnds (xz xs (i + 1))).toNat))) := hmq.2
    clear hmq
    refine lv_istore (lv' := [(7, .int (iI zb)), (6, .int (iI z6)), (0, .ref b), (1, .ref (ad 0)), (2, .ref (am 0)), (3, .ref o), (4, .ref od), (5, .int (iI i))]) hx hb dL_law_1901 hl (by decide) rfl (fun ls hl => ?_)
    have hTV : y_mthr = 0 ∧ zb = zc := by
      rcases mqz with ⟨-, m⟩ | ⟨m1, mz⟩
      · rw [e1] at m
        exact absurd kq.1 m
      · have q := rel_share hv hr kq.2.2 m1 mq
        rcases q with ⟨q1, -⟩ | ⟨-, q2, q3⟩
        · exact absurd q1 kq.2.1
        · rcases mz with ⟨-, mz⟩ | ⟨m0, -, mz⟩
          · omega
          · exact ⟨m0, mz.trans q3.symm⟩
    have hT : y_mthr = z6 := hTV.1.trans hz6.symm
    have hI2 : LInv (n + 1) v hs sv pos cmd vals txt len hc hn hsv mal fai lnb lct ms msav misv mpast mpm mline mlm mtxt mlen merr mfail mcmd := by
      exact LI_q hn9 hI
    refine lv_aload_n hx hb dL_law_1903 rfl (lv_at hl 4 rfl) ?_
    refine zz_callVi_ch (As := []) (rest := []) (L := [xOut tA o (zU og 0 zc), xOud tA od dg, xMod tA am ms mbef msav misv mpast mpm y_mthr y_mways y_mnds y_mtkp mline mlm mtxt mlen mat mwr merr mfail mcmd mcm, xObj ad hsv mal fai, xOff tA ad v shrt w_grp seen w_tp w_shr w_need ordr size, xScr tA K ad pos cmd vals txt len, xHis tA ad hc hn hs, xBef tA ad bt, xSav tA ad sv, xLin tA ad lnb lml lct]) (Lc := [xMod tA am ms mbef msav misv mpast mpm y_mthr y_mways y_mnds y_mtkp mline mlm mtxt mlen mat mwr merr mfail mcmd mcm]) (Lr := [xOut tA o (zU og 0 zc), xOud tA od dg, xObj ad hsv mal fai, xOff tA ad v shrt w_grp seen w_tp w_shr w_need ordr size, xScr tA K ad pos cmd vals txt len, xHis tA ad hc hn hs, xBef tA ad bt, xSav tA ad sv, xLin tA ad lnb lml lct]) (Lc' := fun u => [xMod tA am ms mbef msav misv mpast mpm y_mthr y_mways y_mnds y_mtkp mline mlm mtxt mlen mat mwr merr mfail mcmd mcm]) (Lf := fun u => [xOut tA o (zU og 0 zc), xOud tA od dg, xMod tA am ms mbef msav misv mpast mpm y_mthr y_mways y_mnds y_mtkp mline mlm mtxt mlen mat mwr merr mfail mcmd mcm, xObj ad hsv mal fai, xOff tA ad v shrt w_grp seen w_tp w_shr w_need ordr size, xScr tA K ad pos cmd vals txt len, xHis tA ad hc hn hs, xBef tA ad bt, xSav tA ad sv, xLin tA ad lnb lml lct]) (is := [2, 0, 1, 3, 4, 5, 6, 7, 8, 9]) (isF := [0, 1, 9, 2, 3, 4, 5, 6, 7, 8]) ⟨hx, hb, hml, hown, hts⟩ (c_X11_thrown l D tA (am 0) (am 1) (am 2) (am 3) (am 4) (am 5) (am 6) (am 7) (am 8) (am 9) (am 10) H.size ms mbef msav misv mpast mpm y_mthr y_mways y_mnds y_mtkp mline mlm mtxt mlen mat mwr merr mfail mcmd mcm) (cwV 0 hts (gx_tbl gL_law_X11_thrown) rfl rfl rfl (by decide +kernel) ⟨Nat.le_of_ble_eq_true rfl, Nat.le_of_ble_eq_true rfl⟩) hK hP hD hS hA ⟨rfl, rfl, (by decide)⟩ ⟨fun _ => rfl, fun _ => rfl, (by decide)⟩ (ci := 13) (q0 := 0) rfl rfl rfl rfl rfl hl.1 (Nat.le_of_ble_eq_true rfl) dL_law_1904 (by show _ + 0 ≤ 603072 ∧ _ + 0 ≤ 7207018; omega) ?_
    intro zt u H locs hzt hP hD hS
    have hP : va_P D vwCl ([xOut tA o (zU og 0 zc), xOud tA od dg, xMod tA am ms mbef msav misv mpast mpm y_mthr y_mways y_mnds y_mtkp mline mlm mtxt mlen mat mwr merr mfail mcmd mcm, xObj ad hsv mal fai, xOff tA ad v shrt w_grp seen w_tp w_shr w_need ordr size, xScr tA K ad pos cmd vals txt len, xHis tA ad hc hn hs, xBef tA ad bt, xSav tA ad sv, xLin tA ad lnb lml lct]).flatten H := hP
    have hD : va_D (lwA s) ([xOut tA o (zU og 0 zc), xOud tA od dg, xMod tA am ms mbef msav misv mpast mpm y_mthr y_mways y_mnds y_mtkp mline mlm mtxt mlen mat mwr merr mfail mcmd mcm, xObj ad hsv mal fai, xOff tA ad v shrt w_grp seen w_tp w_shr w_need ordr size, xScr tA K ad pos cmd vals txt len, xHis tA ad hc hn hs, xBef tA ad bt, xSav tA ad sv, xLin tA ad lnb lml lct]).flatten := hD
    have hzt : zt = y_mthr := hzt
    have hz69 : 0 ≤ z6 ∧ z6 ≤ 9 := by omega
    refine lv_iload hx hb dL_law_1907 (lv_at hl 1 rfl) ?_
    refine zz_icmp_eq (tgt := 1914) hx hb dL_law_1909 (by decide) (by omega) (by omega) (fun _ => ?_) (fun c9 => absurd (by omega) c9)
    refine lv_iload hx hb dL_law_1914 (lv_at hl 1 rfl) ?_
    refine zz_if_ne (tgt := 1931) hx hb dL_law_1916 (by decide) (by omega) (fun c9 => absurd hz6 c9) (fun _ => ?_)
    refine lv_aload_n hx hb dL_law_1919 rfl (lv_at hl 5 rfl) ?_
    refine zz_iconst hx hb dL_law_1920 ?_
    refine zz_lald hx hb hK hP 0 rfl (by decide) (by decide) dL_law_1921 ?_
    rw [zU_same]
    refine lv_iload hx hb dL_law_1922 (lv_at hl 0 rfl) ?_
    refine zz_i2l hx hb dL_law_1924 (by omega) ?_
    rw [hTV.2]
    refine zz_lcmp hx hb dL_law_1925 (by omega) (by omega) ?_
    rw [cmpZ_s]
    refine zz_if_eq (tgt := 1931) hx hb dL_law_1926 (by decide) (by decide) (fun _ => ?_) (fun c9 => absurd rfl c9)
    refine lv_goto (tgt := 2917) hx hb dL_law_1931 (by decide) ?_
    refine W.widen (k := k9 + 20) (n := n9 + 200) (by omega) (by omega) ?_
    exact kk v shrt w_grp seen w_tp w_shr w_need ordr size pos cmd vals txt len hc hn hs bt sv hsv mal fai lnb lml lct ms mbef msav misv mpast mpm y_mthr y_mways y_mnds y_mtkp mline mlm mtxt mlen mat mwr merr mfail mcmd mcm (zU og 0 zc) dg _ _ _ hI2 hP hD hS (lv_sub hl [2, 3, 4, 5, 6, 7] rfl)
  · obtain ⟨kx, w_tp, w_need, w_shr, w_grp⟩ := u
    have kq : (kx = 1 ∧ ¬ (0 ≤ (xz xs (i + 1)) ∧ (xz xs (i + 1)) < (v 7 0))) ∨ (kx = 4 ∧ (0 ≤ (xz xs (i + 1)) ∧ (xz xs (i + 1)) < (v 7 0)) ∧ shrP (eg (v 1 0) (v 2) (v 3) (v 4) (v 5)) (v 7 0) (v 8) (v 9) (xz xs (i + 1)) (-1)) := hq.1
    have kc : (kx = 1 ∧ z6 = 1) ∨ (kx = 4 ∧ z6 = 2) := hq.2
    have hP : va_P D vwCl ([xOut tA o og, xOud tA od dg, xMod tA am ms mbef msav misv mpast mpm mthr mways mnds mtkp mline mlm mtxt mlen mat mwr merr mfail mcmd mcm, xObj ad hsv mal fai, xOff tA ad v shrt w_grp seen w_tp w_shr w_need ordr size, xScr tA K ad pos cmd vals txt len, xHis tA ad hc hn hs, xBef tA ad bt, xSav tA ad sv, xLin tA ad lnb lml lct]).flatten H := hP
    have hD : va_D (lwA s) ([xOut tA o og, xOud tA od dg, xMod tA am ms mbef msav misv mpast mpm mthr mways mnds mtkp mline mlm mtxt mlen mat mwr merr mfail mcmd mcm, xObj ad hsv mal fai, xOff tA ad v shrt w_grp seen w_tp w_shr w_need ordr size, xScr tA K ad pos cmd vals txt len, xHis tA ad hc hn hs, xBef tA ad bt, xSav tA ad sv, xLin tA ad lnb lml lct]).flatten := hD
    refine lv_istore (lv' := [(6, .int (iI z6)), (0, .ref b), (1, .ref (ad 0)), (2, .ref (am 0)), (3, .ref o), (4, .ref od), (5, .int (iI i))]) hx hb dL_law_1889 hl (by decide) rfl (fun ls hl => ?_)
    refine lv_aload_n hx hb dL_law_1891 rfl (lv_at hl 3 rfl) ?_
    refine lv_aload_n hx hb dL_law_1892 rfl (lv_at hl 1 rfl) ?_
    refine lv_iload hx hb dL_law_1893 (lv_at hl 6 rfl) ?_
    refine zz_iconst hx hb dL_law_1895 ?_
    refine zz_iadd hx hb dL_law_1896 ?_
    refine zz_sld hx hb hX hbl hbA hS (k := i + 1) (by omega) hL dL_law_1897 ?_
    refine zz_callVi_ch (As := [.int (iI (xz xs (i + 1)))]) (rest := []) (L := [xOut tA o og, xOud tA od dg, xMod tA am ms mbef msav misv mpast mpm mthr mways mnds mtkp mline mlm mtxt mlen mat mwr merr mfail mcmd mcm, xObj ad hsv mal fai, xOff tA ad v shrt w_grp seen w_tp w_shr w_need ordr size, xScr tA K ad pos cmd vals txt len, xHis tA ad hc hn hs, xBef tA ad bt, xSav tA ad sv, xLin tA ad lnb lml lct]) (Lc := [xMod tA am ms mbef msav misv mpast mpm mthr mways mnds mtkp mline mlm mtxt mlen mat mwr merr mfail mcmd mcm]) (Lr := [xOut tA o og, xOud tA od dg, xObj ad hsv mal fai, xOff tA ad v shrt w_grp seen w_tp w_shr w_need ordr size, xScr tA K ad pos cmd vals txt len, xHis tA ad hc hn hs, xBef tA ad bt, xSav tA ad sv, xLin tA ad lnb lml lct]) (Lc' := fun u => [xMod tA am ms mbef msav misv mpast mpm u.2.2.2 u.1 u.2.1 u.2.2.1 mline mlm mtxt mlen mat mwr merr mfail mcmd mcm]) (Lf := fun u => [xOut tA o og, xOud tA od dg, xMod tA am ms mbef msav misv mpast mpm u.2.2.2 u.1 u.2.1 u.2.2.1 mline mlm mtxt mlen mat mwr merr mfail mcmd mcm, xObj ad hsv mal fai, xOff tA ad v shrt w_grp seen w_tp w_shr w_need ordr size, xScr tA K ad pos cmd vals txt len, xHis tA ad hc hn hs, xBef tA ad bt, xSav tA ad sv, xLin tA ad lnb lml lct]) (is := [2, 0, 1, 3, 4, 5, 6, 7, 8, 9]) (isF := [0, 1, 9, 2, 3, 4, 5, 6, 7, 8]) ⟨hx, hb, hml, hown, hts⟩ (c_X11_shareOf l D tA (am 0) (am 1) (am 2) (am 3) (am 4) (am 5) (am 6) (am 7) (am 8) (am 9) (am 10) H.size ms mbef msav misv mpast mpm mthr mways mnds mtkp mline mlm mtxt mlen mat mwr merr mfail mcmd mcm (xz xs (i + 1)) (xz_in _ _) hmv.1) (cwV 1 hts (gx_tbl gL_law_X11_shareOf) rfl rfl rfl (by decide +kernel) ⟨Nat.le_of_ble_eq_true rfl, Nat.le_of_ble_eq_true rfl⟩) hK hP hD hS hA ⟨rfl, rfl, (by decide)⟩ ⟨fun _ => rfl, fun _ => rfl, (by decide)⟩ (ci := 13) (q0 := 0) rfl rfl rfl rfl rfl hl.1 (Nat.le_of_ble_eq_true rfl) dL_law_1898 (by show _ + 0 ≤ 603072 ∧ _ + 0 ≤ 7207018; omega) ?_
    intro zb u H locs hmq hP hD hS
    obtain ⟨y_mways, y_mnds, y_mtkp, y_mthr⟩ := u
    have hP : va_P D vwCl ([xOut tA o og, xOud tA od dg, xMod tA am ms mbef msav misv mpast mpm y_mthr y_mways y_mnds y_mtkp mline mlm mtxt mlen mat mwr merr mfail mcmd mcm, xObj ad hsv mal fai, xOff tA ad v shrt w_grp seen w_tp w_shr w_need ordr size, xScr tA K ad pos cmd vals txt len, xHis tA ad hc hn hs, xBef tA ad bt, xSav tA ad sv, xLin tA ad lnb lml lct]).flatten H := hP
    have hD : va_D (lwA s) ([xOut tA o og, xOud tA od dg, xMod tA am ms mbef msav misv mpast mpm y_mthr y_mways y_mnds y_mtkp mline mlm mtxt mlen mat mwr merr mfail mcmd mcm, xObj ad hsv mal fai, xOff tA ad v shrt w_grp seen w_tp w_shr w_need ordr size, xScr tA K ad pos cmd vals txt len, xHis tA ad hc hn hs, xBef tA ad bt, xSav tA ad sv, xLin tA ad lnb lml lct]).flatten := hD
    have mq : gatM ms y_mtkp y_mnds := hmq.1
    have mqz : (y_mthr = 1 ∧ ¬ (0 ≤ (xz xs (i + 1)) ∧ (xz xs (i + 1)) < ms 1)) ∨ ((0 ≤ (xz xs (i + 1)) ∧ (xz xs (i + 1)) < ms 1) ∧ ((y_mthr = 2 ∧ y_mtkp (xz xs (i + 1)) = 0) ∨ (y_mthr = 0 ∧ y_mtkp (xz xs (i + 1)) = 1 ∧ zb = shR (mkT (ms 1) y_mtkp) y_mnds (y_mnds (xz xs (i + 1))).toNat))) := hmq.2
    clear hmq
    refine lv_istore (lv' := [(7, .int (iI zb)), (6, .int (iI z6)), (0, .ref b), (1, .ref (ad 0)), (2, .ref (am 0)), (3, .ref o), (4, .ref od), (5, .int (iI i))]) hx hb dL_law_1901 hl (by decide) rfl (fun ls hl => ?_)
    have hT : y_mthr = z6 := by
      rcases kq with ⟨k1, k2⟩ | ⟨k1, k2, k3⟩
      · rcases mqz with ⟨m0, -⟩ | ⟨m1, -⟩
        · omega
        · rw [e1] at m1
          exact absurd m1 k2
      · rcases mqz with ⟨-, m⟩ | ⟨m1, mz⟩
        · rw [e1] at m
          exact absurd k2 m
        · have q := rel_share hv hr k3 m1 mq
          rcases q with ⟨-, q2⟩ | ⟨q1, -⟩
          · omega
          · exact absurd rfl q1
    have hI2 : LInv (n + 1) v hs sv pos cmd vals txt len hc hn hsv mal fai lnb lct ms msav misv mpast mpm mline mlm mtxt mlen merr mfail mcmd := by
      exact LI_q hn9 hI
    refine lv_aload_n hx hb dL_law_1903 rfl (lv_at hl 4 rfl) ?_
    refine zz_callVi_ch (As := []) (rest := []) (L := [xOut tA o og, xOud tA od dg, xMod tA am ms mbef msav misv mpast mpm y_mthr y_mways y_mnds y_mtkp mline mlm mtxt mlen mat mwr merr mfail mcmd mcm, xObj ad hsv mal fai, xOff tA ad v shrt w_grp seen w_tp w_shr w_need ordr size, xScr tA K ad pos cmd vals txt len, xHis tA ad hc hn hs, xBef tA ad bt, xSav tA ad sv, xLin tA ad lnb lml lct]) (Lc := [xMod tA am ms mbef msav misv mpast mpm y_mthr y_mways y_mnds y_mtkp mline mlm mtxt mlen mat mwr merr mfail mcmd mcm]) (Lr := [xOut tA o og, xOud tA od dg, xObj ad hsv mal fai, xOff tA ad v shrt w_grp seen w_tp w_shr w_need ordr size, xScr tA K ad pos cmd vals txt len, xHis tA ad hc hn hs, xBef tA ad bt, xSav tA ad sv, xLin tA ad lnb lml lct]) (Lc' := fun u => [xMod tA am ms mbef msav misv mpast mpm y_mthr y_mways y_mnds y_mtkp mline mlm mtxt mlen mat mwr merr mfail mcmd mcm]) (Lf := fun u => [xOut tA o og, xOud tA od dg, xMod tA am ms mbef msav misv mpast mpm y_mthr y_mways y_mnds y_mtkp mline mlm mtxt mlen mat mwr merr mfail mcmd mcm, xObj ad hsv mal fai, xOff tA ad v shrt w_grp seen w_tp w_shr w_need ordr size, xScr tA K ad pos cmd vals txt len, xHis tA ad hc hn hs, xBef tA ad bt, xSav tA ad sv, xLin tA ad lnb lml lct]) (is := [2, 0, 1, 3, 4, 5, 6, 7, 8, 9]) (isF := [0, 1, 9, 2, 3, 4, 5, 6, 7, 8]) ⟨hx, hb, hml, hown, hts⟩ (c_X11_thrown l D tA (am 0) (am 1) (am 2) (am 3) (am 4) (am 5) (am 6) (am 7) (am 8) (am 9) (am 10) H.size ms mbef msav misv mpast mpm y_mthr y_mways y_mnds y_mtkp mline mlm mtxt mlen mat mwr merr mfail mcmd mcm) (cwV 0 hts (gx_tbl gL_law_X11_thrown) rfl rfl rfl (by decide +kernel) ⟨Nat.le_of_ble_eq_true rfl, Nat.le_of_ble_eq_true rfl⟩) hK hP hD hS hA ⟨rfl, rfl, (by decide)⟩ ⟨fun _ => rfl, fun _ => rfl, (by decide)⟩ (ci := 13) (q0 := 0) rfl rfl rfl rfl rfl hl.1 (Nat.le_of_ble_eq_true rfl) dL_law_1904 (by show _ + 0 ≤ 603072 ∧ _ + 0 ≤ 7207018; omega) ?_
    intro zt u H locs hzt hP hD hS
    have hP : va_P D vwCl ([xOut tA o og, xOud tA od dg, xMod tA am ms mbef msav misv mpast mpm y_mthr y_mways y_mnds y_mtkp mline mlm mtxt mlen mat mwr merr mfail mcmd mcm, xObj ad hsv mal fai, xOff tA ad v shrt w_grp seen w_tp w_shr w_need ordr size, xScr tA K ad pos cmd vals txt len, xHis tA ad hc hn hs, xBef tA ad bt, xSav tA ad sv, xLin tA ad lnb lml lct]).flatten H := hP
    have hD : va_D (lwA s) ([xOut tA o og, xOud tA od dg, xMod tA am ms mbef msav misv mpast mpm y_mthr y_mways y_mnds y_mtkp mline mlm mtxt mlen mat mwr merr mfail mcmd mcm, xObj ad hsv mal fai, xOff tA ad v shrt w_grp seen w_tp w_shr w_need ordr size, xScr tA K ad pos cmd vals txt len, xHis tA ad hc hn hs, xBef tA ad bt, xSav tA ad sv, xLin tA ad lnb lml lct]).flatten := hD
    have hzt : zt = y_mthr := hzt
    have hz69 : 0 ≤ z6 ∧ z6 ≤ 9 := by omega
    refine lv_iload hx hb dL_law_1907 (lv_at hl 1 rfl) ?_
    refine zz_icmp_eq (tgt := 1914) hx hb dL_law_1909 (by decide) (by omega) (by omega) (fun _ => ?_) (fun c9 => absurd (by omega) c9)
    refine lv_iload hx hb dL_law_1914 (lv_at hl 1 rfl) ?_
    refine zz_if_ne (tgt := 1931) hx hb dL_law_1916 (by decide) (by omega) (fun _ => ?_) (fun c9 => absurd c9 (by omega))
    refine lv_goto (tgt := 2917) hx hb dL_law_1931 (by decide) ?_
    refine W.widen (k := k9 + 20) (n := n9 + 200) (by omega) (by omega) ?_
    exact kk v shrt w_grp seen w_tp w_shr w_need ordr size pos cmd vals txt len hc hn hs bt sv hsv mal fai lnb lml lct ms mbef msav misv mpast mpm y_mthr y_mways y_mnds y_mtkp mline mlm mtxt mlen mat mwr merr mfail mcmd mcm og dg _ _ _ hI2 hP hD hS (lv_sub hl [2, 3, 4, 5, 6, 7] rfl)

set_option maxHeartbeats 8000000 in
set_option maxRecDepth 100000 in
theorem law_c29 {p : Program} {l : Launch} (hst : l.stackTraces = false) {e : Env} {s : State} {m : MethodId} {below : List Frame} {meth : Method} {c : Code} {D : va_G} {tA : Nat → ClassId} {K : Nat → Nat} {b L : Nat} {xs : Nat → Int32} (hL : L ≤ 2560) (C0 : lw_At p s m meth c b L xs) (hK : zK D tA s) (hZ : zT K (lwA s) s) {ad am : Nat → Nat} {o od : Nat} {i n : Int} (hi : 0 ≤ i ∧ i + 5 ≤ L) (hn9 : n < 600) {k9 n9 : Nat} (hk9 : k9 + 20 ≤ 603072 ∧ n9 + 200 ≤ 7207018) {v : Nat → Int → Int} {shrt : Int → Int} {grp : Int → Int} {seen : Int → Int} {tp : Int → Int} {shr : Int → Int} {need : Int → Int} {ordr : Int → Int} {size : Int} {pos : Int} {cmd : Int} {vals : Int → Int} {txt : Int → Int} {len : Int} {hc : Int} {hn : Int} {hs : Nat → Nat → Int → Int} {bt : Nat → Int → Int} {sv : Nat → Int → Int} {hsv : Int} {mal : Int} {fai : Int} {lnb : Int → Int} {lml : Int} {lct : Int} {ms : Int → Int} {mbef : Int → Int} {msav : Int → Int} {misv : Int} {mpast : Int → Int} {mpm : Int} {mthr : Int} {mways : Int → Int} {mnds : Int → Int} {mtkp : Int → Int} {mline : Int → Int} {mlm : Int} {mtxt : Int → Int} {mlen : Int} {mat : Int} {mwr : Int} {merr : Int} {mfail : Int} {mcmd : Int → Int} {mcm : Int} {og : Int → Int} {dg : Nat → UInt64} {H : Heap} {locs : List Loc} {ls : Array Slot} (hI : LInv n v hs sv pos cmd vals txt len hc hn hsv mal fai lnb lct ms msav misv mpast mpm mline mlm mtxt mlen merr mfail mcmd) (hP : va_P D vwCl (xW tA K ad am o od v shrt grp seen tp shr need ordr size pos cmd vals txt len hc hn hs bt sv hsv mal fai lnb lml lct ms mbef msav misv mpast mpm mthr mways mnds mtkp mline mlm mtxt mlen mat mwr merr mfail mcmd mcm og dg).flatten H) (hD : va_D (lwA s) (xW tA K ad am o od v shrt grp seen tp shr need ordr size pos cmd vals txt len hc hn hs bt sv hsv mal fai lnb lml lct ms mbef msav misv mpast mpm mthr mways mnds mtkp mline mlm mtxt mlen mat mwr merr mfail mcmd mcm og dg).flatten) (hS : va_S (lwA s) s.heap H locs) (hl : lv_has ls 9 [(0, .ref b), (1, .ref (ad 0)), (2, .ref (am 0)), (3, .ref o), (4, .ref od), (5, .int (iI i))]) (kk : lwK p l e s m below meth c D tA K ad am o od b i n k9 n9) : W p l e room_1 s m #[Value.ref b] below meth c H locs k9 n9 (lw_Z below #[Value.ref b] s) (F0 m 1934 ls []) := by
  obtain ⟨hx, hb, hrt, hml, hown, hts, hX, hbl, hlocks, hgv⟩ := id C0
  have hts := lw_more hts
  have hA : ∀ q : Nat, s.heap.size ≤ q → lwA s q := fun _ h => h
  have hbA : ¬ lwA s b := Nat.not_le.mpr hbl
  have hCn := hZ.2.2.2
  obtain ⟨⟨n0, n6, l0, l6, ln⟩, hLS, ⟨hhn, hhc, hpm, hhi⟩, ⟨hsv01, hmis, hsvv, hsvr⟩, ⟨hlen, htxt, htx⟩, ⟨hlm, hln, hl0, hl16, hlb⟩, ⟨her, hfa, hm1, hm2, hf1, hf2⟩, ⟨hcd0, hcd1, hps0, hps1, hva⟩, hcr⟩ := id hI
  have hv := hLS.1
  have hr := hLS.2
  have hch : ChS v := hv.1
  have hu9 : ChW v := hv.2.1
  obtain ⟨-, -, hcc, hsp, hmo, hfog, hrg, hni, hfd, hmt9, hln9, hsum⟩ := SVk_out (show SVk _ _ (etS v) from hv)
  have hmv := rel_MV hv hr (by omega) (by omega)
  obtain ⟨e0, e1, e2, e3, e4, e5, e6⟩ := id hr.1
  have eE := rel_sE hch hr
  have hmon : ∀ j, 0 ≤ j → j < v 7 0 → 0 ≤ v 10 j ∧ v 10 j ≤ 6000000 := fun j j0 j1 => by have := hmo j j0 j1; omega
  have hlnd : ∀ j, 0 ≤ j → j < v 7 0 → (0 ≤ v 11 j ∧ v 11 j ≤ 600) ∧ (0 ≤ v 12 j ∧ v 12 j ≤ 600) := fun j j0 j1 => by have := hln9 j j0 j1; omega
  refine lv_aload_n hx hb dL_law_1934 rfl (lv_at hl 1 rfl) ?_
  refine lv_aload_n hx hb dL_law_1935 rfl (lv_at hl 0 rfl) ?_
  refine lv_iload hx hb dL_law_1936 (lv_at hl 5 rfl) ?_
  refine zz_iconst hx hb dL_law_1938 ?_
  refine zz_iadd hx hb dL_law_1939 ?_
  refine zz_sld hx hb hX hbl hbA hS (k := i + 1) (by omega) hL dL_law_1940 ?_
  refine lv_aload_n hx hb dL_law_1941 rfl (lv_at hl 3 rfl) ?_
  refine zh_callSi_ch (As := [.ref (ad 0), .int (iI (xz xs (i + 1))), .ref o]) (rest := []) (L := [xOut tA o og, xOud tA od dg, xMod tA am ms mbef msav misv mpast mpm mthr mways mnds mtkp mline mlm mtxt mlen mat mwr merr mfail mcmd mcm, xObj ad hsv mal fai, xOff tA ad v shrt grp seen tp shr need ordr size, xScr tA K ad pos cmd vals txt len, xHis tA ad hc hn hs, xBef tA ad bt, xSav tA ad sv, xLin tA ad lnb lml lct]) (Lc := [xOut tA o og, xObj ad hsv mal fai, xOff tA ad v shrt grp seen tp shr need ordr size]) (Lr := [xOud tA od dg, xMod tA am ms mbef msav misv mpast mpm mthr mways mnds mtkp mline mlm mtxt mlen mat mwr merr mfail mcmd mcm, xScr tA K ad pos cmd vals txt len, xHis tA ad hc hn hs, xBef tA ad bt, xSav tA ad sv, xLin tA ad lnb lml lct]) (Lc' := fun u => Sum.elim (fun u => [xOut tA o (zU og 0 u.1), xObj ad hsv mal fai, xOff tA ad v shrt u.2.2.2.1 seen u.2.1 shr u.2.2.1 u.2.2.2.2.1 u.2.2.2.2.2]) (fun u => [xOut tA o og, xObj ad hsv mal fai, xOff tA ad v shrt u.2.2.2.1 seen u.2.1 shr u.2.2.1 u.2.2.2.2.1 u.2.2.2.2.2]) u) (Lf := fun u => Sum.elim (fun u => [xOut tA o (zU og 0 u.1), xOud tA od dg, xMod tA am ms mbef msav misv mpast mpm mthr mways mnds mtkp mline mlm mtxt mlen mat mwr merr mfail mcmd mcm, xObj ad hsv mal fai, xOff tA ad v shrt u.2.2.2.1 seen u.2.1 shr u.2.2.1 u.2.2.2.2.1 u.2.2.2.2.2, xScr tA K ad pos cmd vals txt len, xHis tA ad hc hn hs, xBef tA ad bt, xSav tA ad sv, xLin tA ad lnb lml lct]) (fun u => [xOut tA o og, xOud tA od dg, xMod tA am ms mbef msav misv mpast mpm mthr mways mnds mtkp mline mlm mtxt mlen mat mwr merr mfail mcmd mcm, xObj ad hsv mal fai, xOff tA ad v shrt u.2.2.2.1 seen u.2.1 shr u.2.2.1 u.2.2.2.2.1 u.2.2.2.2.2, xScr tA K ad pos cmd vals txt len, xHis tA ad hc hn hs, xBef tA ad bt, xSav tA ad sv, xLin tA ad lnb lml lct]) u) (is := [0, 3, 4, 1, 2, 5, 6, 7, 8, 9]) (isF := [7, 0, 1, 8, 9, 2, 3, 4, 5, 6]) ⟨hx, hb, hml, hown, hts⟩ (c_L_shareByOrders l hst K D tA (ad 0) (ad 1) (ad 2) (ad 3) (ad 4) (ad 5) (ad 6) (ad 7) (ad 8) (ad 9) (ad 10) (ad 11) (ad 12) (ad 13) (ad 14) (ad 15) (ad 16) (ad 17) (ad 18) (ad 19) (ad 20) (ad 21) (ad 22) (ad 23) (ad 24) (ad 27) (ad 146) (ad 133) (ad 159) o H.size og (v 0 0) (v 1 0) (v 2) (v 3) (v 4) (v 5) (v 6) (v 7 0) (v 8) (v 9) (v 10) (v 11) (v 12) (v 13 0) (v 14 0) (v 15 0) (v 16 0) (v 17 0) (v 18 0) shrt grp seen tp shr need ordr size hsv mal fai  (xz xs (i + 1)) (xz_in _ _) hch hcc hsp) (vx_cwSW 3 hts (gx_wr gL_law_L_shareByOrders) rfl rfl rfl (by decide +kernel) ⟨Nat.le_of_ble_eq_true rfl, Nat.le_of_ble_eq_true rfl⟩) hK hP hD hS hA hZ ⟨rfl, rfl, (by decide)⟩ ⟨fun u => by cases u <;> rfl, fun u => by cases u <;> rfl, (by decide)⟩ rfl rfl hl.1 (Nat.le_of_ble_eq_true rfl) dL_law_1942 (by show k9 + 2 ≤ 603072 ∧ n9 + 12 ≤ 7207018; omega) ?_
  intro z6 u H locs hq hP hD hS
  rcases u with ⟨zc, u⟩ | u
  · obtain ⟨w_tp, w_need, w_grp, w_ordr, w_size⟩ := u
    obtain ⟨hz6, kq, hzr⟩ := hq
    have kq : (0 ≤ (xz xs (i + 1)) ∧ (xz xs (i + 1)) < (v 7 0)) ∧ zc ≠ -1 ∧ shrP (eg (v 1 0) (v 2) (v 3) (v 4) (v 5)) (v 7 0) (v 8) (v 9) (xz xs (i + 1)) zc := kq
    have hz6 : z6 = 0 := hz6
    have hzr : -2147483648 ≤ zc ∧ zc ≤ 2147483647 := hzr
    have hP : va_P D vwCl ([xOut tA o (zU og 0 zc), xOud tA od dg, xMod tA am ms mbef msav misv mpast mpm mthr mways mnds mtkp mline mlm mtxt mlen mat mwr merr mfail mcmd mcm, xObj ad hsv mal fai, xOff tA ad v shrt w_grp seen w_tp shr w_need w_ordr w_size, xScr tA K ad pos cmd vals txt len, xHis tA ad hc hn hs, xBef tA ad bt, xSav tA ad sv, xLin tA ad lnb lml lct]).flatten H := hP
    have hD : va_D (lwA s) ([xOut tA o (zU og 0 zc), xOud tA od dg, xMod tA am ms mbef msav misv mpast mpm mthr mways mnds mtkp mline mlm mtxt mlen mat mwr merr mfail mcmd mcm, xObj ad hsv mal fai, xOff tA ad v shrt w_grp seen w_tp shr w_need w_ordr w_size, xScr tA K ad pos cmd vals txt len, xHis tA ad hc hn hs, xBef tA ad bt, xSav tA ad sv, xLin tA ad lnb lml lct]).flatten := hD
    refine lv_istore (lv' := [(6, .int (iI z6)), (0, .ref b), (1, .ref (ad 0)), (2, .ref (am 0)), (3, .ref o), (4, .ref od), (5, .int (iI i))]) hx hb dL_law_1945 hl (by decide) rfl (fun ls hl => ?_)
    refine lv_aload_n hx hb dL_law_1947 rfl (lv_at hl 3 rfl) ?_
    refine lv_aload_n hx hb dL_law_1948 rfl (lv_at hl 1 rfl) ?_
    refine lv_iload hx hb dL_law_1949 (lv_at hl 6 rfl) ?_
    refine zz_iconst hx hb dL_law_1951 ?_
    refine zz_iadd hx hb dL_law_1952 ?_
    refine zz_sld hx hb hX hbl hbA hS (k := i + 1) (by omega) hL dL_law_1953 ?_
    refine zz_callVi_ch (As := [.int (iI (xz xs (i + 1)))]) (rest := []) (L := [xOut tA o (zU og 0 zc), xOud tA od dg, xMod tA am ms mbef msav misv mpast mpm mthr mways mnds mtkp mline mlm mtxt mlen mat mwr merr mfail mcmd mcm, xObj ad hsv mal fai, xOff tA ad v shrt w_grp seen w_tp shr w_need w_ordr w_size, xScr tA K ad pos cmd vals txt len, xHis tA ad hc hn hs, xBef tA ad bt, xSav tA ad sv, xLin tA ad lnb lml lct]) (Lc := [xMod tA am ms mbef msav misv mpast mpm mthr mways mnds mtkp mline mlm mtxt mlen mat mwr merr mfail mcmd mcm]) (Lr := [xOut tA o (zU og 0 zc), xOud tA od dg, xObj ad hsv mal fai, xOff tA ad v shrt w_grp seen w_tp shr w_need w_ordr w_size, xScr tA K ad pos cmd vals txt len, xHis tA ad hc hn hs, xBef tA ad bt, xSav tA ad sv, xLin tA ad lnb lml lct]) (Lc' := fun u => [xMod tA am ms mbef msav misv mpast mpm u.2.2.2 u.1 u.2.1 u.2.2.1 mline mlm mtxt mlen mat mwr merr mfail mcmd mcm]) (Lf := fun u => [xOut tA o (zU og 0 zc), xOud tA od dg, xMod tA am ms mbef msav misv mpast mpm u.2.2.2 u.1 u.2.1 u.2.2.1 mline mlm mtxt mlen mat mwr merr mfail mcmd mcm, xObj ad hsv mal fai, xOff tA ad v shrt w_grp seen w_tp shr w_need w_ordr w_size, xScr tA K ad pos cmd vals txt len, xHis tA ad hc hn hs, xBef tA ad bt, xSav tA ad sv, xLin tA ad lnb lml lct]) (is := [2, 0, 1, 3, 4, 5, 6, 7, 8, 9]) (isF := [0, 1, 9, 2, 3, 4, 5, 6, 7, 8]) ⟨hx, hb, hml, hown, hts⟩ (c_X11_shareByOrders l D tA (am 0) (am 1) (am 2) (am 3) (am 4) (am 5) (am 6) (am 7) (am 8) (am 9) (am 10) H.size ms mbef msav misv mpast mpm mthr mways mnds mtkp mline mlm mtxt mlen mat mwr merr mfail mcmd mcm (xz xs (i + 1)) (xz_in _ _) hmv.1) (cwV 1 hts (gx_tbl gL_law_X11_shareByOrders) rfl rfl rfl (by decide +kernel) ⟨Nat.le_of_ble_eq_true rfl, Nat.le_of_ble_eq_true rfl⟩) hK hP hD hS hA ⟨rfl, rfl, (by decide)⟩ ⟨fun _ => rfl, fun _ => rfl, (by decide)⟩ (ci := 13) (q0 := 0) rfl rfl rfl rfl rfl hl.1 (Nat.le_of_ble_eq_true rfl) dL_law_1954 (by show _ + 0 ≤ 603072 ∧ _ + 0 ≤ 7207018; omega) ?_
    intro zb u H locs hmq hP hD hS
    obtain ⟨y_mways, y_mnds, y_mtkp, y_mthr⟩ := u
    have hP : va_P D vwCl ([xOut tA o (zU og 0 zc), xOud tA od dg, xMod tA am ms mbef msav misv mpast mpm y_mthr y_mways y_mnds y_mtkp mline mlm mtxt mlen mat mwr merr mfail mcmd mcm, xObj ad hsv mal fai, xOff tA ad v shrt w_grp seen w_tp shr w_need w_ordr w_size, xScr tA K ad pos cmd vals txt len, xHis tA ad hc hn hs, xBef tA ad bt, xSav tA ad sv, xLin tA ad lnb lml lct]).flatten H := hP
    have hD : va_D (lwA s) ([xOut tA o (zU og 0 zc), xOud tA od dg, xMod tA am ms mbef msav misv mpast mpm y_mthr y_mways y_mnds y_mtkp mline mlm mtxt mlen mat mwr merr mfail mcmd mcm, xObj ad hsv mal fai, xOff tA ad v shrt w_grp seen w_tp shr w_need w_ordr w_size, xScr tA K ad pos cmd vals txt len, xHis tA ad hc hn hs, xBef tA ad bt, xSav tA ad sv, xLin tA ad lnb lml lct]).flatten := hD
    have mq : gatM ms y_mtkp y_mnds := hmq.1
    have mqz : (y_mthr = 1 ∧ ¬ (0 ≤ (xz xs (i + 1)) ∧ (xz xs (i + 1)) < ms 1)) ∨ ((0 ≤ (xz xs (i + 1)) ∧ (xz xs (i + 1)) < ms 1) ∧ ((y_mthr = 2 ∧ y_mtkp (xz xs (i + 1)) = 0) ∨ (y_mthr = 0 ∧ y_mtkp (xz xs (i + 1)) = 1 ∧ zb = shR (mkT (ms 1) y_mtkp) y_mnds (y_mnds (xz xs (i + 1))).toNat))) := hmq.2
    clear hmq
    refine lv_istore (lv' := [(7, .int (iI zb)), (6, .int (iI z6)), (0, .ref b), (1, .ref (ad 0)), (2, .ref (am 0)), (3, .ref o), (4, .ref od), (5, .int (iI i))]) hx hb dL_law_1957 hl (by decide) rfl (fun ls hl => ?_)
    have hTV : y_mthr = 0 ∧ zb = zc := by
      rcases mqz with ⟨-, m⟩ | ⟨m1, mz⟩
      · rw [e1] at m
        exact absurd kq.1 m
      · have q := rel_share hv hr kq.2.2 m1 mq
        rcases q with ⟨q1, -⟩ | ⟨-, q2, q3⟩
        · exact absurd q1 kq.2.1
        · rcases mz with ⟨-, mz⟩ | ⟨m0, -, mz⟩
          · omega
          · exact ⟨m0, mz.trans q3.symm⟩
    have hT : y_mthr = z6 := hTV.1.trans hz6.symm
    have hI2 : LInv (n + 1) v hs sv pos cmd vals txt len hc hn hsv mal fai lnb lct ms msav misv mpast mpm mline mlm mtxt mlen merr mfail mcmd := by
      exact LI_q hn9 hI
    refine lv_aload_n hx hb dL_law_1959 rfl (lv_at hl 4 rfl) ?_
    refine zz_callVi_ch (As := []) (rest := []) (L := [xOut tA o (zU og 0 zc), xOud tA od dg, xMod tA am ms mbef msav misv mpast mpm y_mthr y_mways y_mnds y_mtkp mline mlm mtxt mlen mat mwr merr mfail mcmd mcm, xObj ad hsv mal fai, xOff tA ad v shrt w_grp seen w_tp shr w_need w_ordr w_size, xScr tA K ad pos cmd vals txt len, xHis tA ad hc hn hs, xBef tA ad bt, xSav tA ad sv, xLin tA ad lnb lml lct]) (Lc := [xMod tA am ms mbef msav misv mpast mpm y_mthr y_mways y_mnds y_mtkp mline mlm mtxt mlen mat mwr merr mfail mcmd mcm]) (Lr := [xOut tA o (zU og 0 zc), xOud tA od dg, xObj ad hsv mal fai, xOff tA ad v shrt w_grp seen w_tp shr w_need w_ordr w_size, xScr tA K ad pos cmd vals txt len, xHis tA ad hc hn hs, xBef tA ad bt, xSav tA ad sv, xLin tA ad lnb lml lct]) (Lc' := fun u => [xMod tA am ms mbef msav misv mpast mpm y_mthr y_mways y_mnds y_mtkp mline mlm mtxt mlen mat mwr merr mfail mcmd mcm]) (Lf := fun u => [xOut tA o (zU og 0 zc), xOud tA od dg, xMod tA am ms mbef msav misv mpast mpm y_mthr y_mways y_mnds y_mtkp mline mlm mtxt mlen mat mwr merr mfail mcmd mcm, xObj ad hsv mal fai, xOff tA ad v shrt w_grp seen w_tp shr w_need w_ordr w_size, xScr tA K ad pos cmd vals txt len, xHis tA ad hc hn hs, xBef tA ad bt, xSav tA ad sv, xLin tA ad lnb lml lct]) (is := [2, 0, 1, 3, 4, 5, 6, 7, 8, 9]) (isF := [0, 1, 9, 2, 3, 4, 5, 6, 7, 8]) ⟨hx, hb, hml, hown, hts⟩ (c_X11_thrown l D tA (am 0) (am 1) (am 2) (am 3) (am 4) (am 5) (am 6) (am 7) (am 8) (am 9) (am 10) H.size ms mbef msav misv mpast mpm y_mthr y_mways y_mnds y_mtkp mline mlm mtxt mlen mat mwr merr mfail mcmd mcm) (cwV 0 hts (gx_tbl gL_law_X11_thrown) rfl rfl rfl (by decide +kernel) ⟨Nat.le_of_ble_eq_true rfl, Nat.le_of_ble_eq_true rfl⟩) hK hP hD hS hA ⟨rfl, rfl, (by decide)⟩ ⟨fun _ => rfl, fun _ => rfl, (by decide)⟩ (ci := 13) (q0 := 0) rfl rfl rfl rfl rfl hl.1 (Nat.le_of_ble_eq_true rfl) dL_law_1960 (by show _ + 0 ≤ 603072 ∧ _ + 0 ≤ 7207018; omega) ?_
    intro zt u H locs hzt hP hD hS
    have hP : va_P D vwCl ([xOut tA o (zU og 0 zc), xOud tA od dg, xMod tA am ms mbef msav misv mpast mpm y_mthr y_mways y_mnds y_mtkp mline mlm mtxt mlen mat mwr merr mfail mcmd mcm, xObj ad hsv mal fai, xOff tA ad v shrt w_grp seen w_tp shr w_need w_ordr w_size, xScr tA K ad pos cmd vals txt len, xHis tA ad hc hn hs, xBef tA ad bt, xSav tA ad sv, xLin tA ad lnb lml lct]).flatten H := hP
    have hD : va_D (lwA s) ([xOut tA o (zU og 0 zc), xOud tA od dg, xMod tA am ms mbef msav misv mpast mpm y_mthr y_mways y_mnds y_mtkp mline mlm mtxt mlen mat mwr merr mfail mcmd mcm, xObj ad hsv mal fai, xOff tA ad v shrt w_grp seen w_tp shr w_need w_ordr w_size, xScr tA K ad pos cmd vals txt len, xHis tA ad hc hn hs, xBef tA ad bt, xSav tA ad sv, xLin tA ad lnb lml lct]).flatten := hD
    have hzt : zt = y_mthr := hzt
    have hz69 : 0 ≤ z6 ∧ z6 ≤ 9 := by omega
    refine lv_iload hx hb dL_law_1963 (lv_at hl 1 rfl) ?_
    refine zz_icmp_eq (tgt := 1970) hx hb dL_law_1965 (by decide) (by omega) (by omega) (fun _ => ?_) (fun c9 => absurd (by omega) c9)
    refine lv_iload hx hb dL_law_1970 (lv_at hl 1 rfl) ?_
    refine zz_if_ne (tgt := 1987) hx hb dL_law_1972 (by decide) (by omega) (fun c9 => absurd hz6 c9) (fun _ => ?_)
    refine lv_aload_n hx hb dL_law_1975 rfl (lv_at hl 5 rfl) ?_
    refine zz_iconst hx hb dL_law_1976 ?_
    refine zz_lald hx hb hK hP 0 rfl (by decide) (by decide) dL_law_1977 ?_
    rw [zU_same]
    refine lv_iload hx hb dL_law_1978 (lv_at hl 0 rfl) ?_
    refine zz_i2l hx hb dL_law_1980 (by omega) ?_
    rw [hTV.2]
    refine zz_lcmp hx hb dL_law_1981 (by omega) (by omega) ?_
    rw [cmpZ_s]
    refine zz_if_eq (tgt := 1987) hx hb dL_law_1982 (by decide) (by decide) (fun _ => ?_) (fun c9 => absurd rfl c9)
    refine lv_goto (tgt := 2917) hx hb dL_law_1987 (by decide) ?_
    refine W.widen (k := k9 + 20) (n := n9 + 200) (by omega) (by omega) ?_
    exact kk v shrt w_grp seen w_tp shr w_need w_ordr w_size pos cmd vals txt len hc hn hs bt sv hsv mal fai lnb lml lct ms mbef msav misv mpast mpm y_mthr y_mways y_mnds y_mtkp mline mlm mtxt mlen mat mwr merr mfail mcmd mcm (zU og 0 zc) dg _ _ _ hI2 hP hD hS (lv_sub hl [2, 3, 4, 5, 6, 7] rfl)
  · obtain ⟨kx, w_tp, w_need, w_grp, w_ordr, w_size⟩ := u
    have kq : (kx = 1 ∧ ¬ (0 ≤ (xz xs (i + 1)) ∧ (xz xs (i + 1)) < (v 7 0))) ∨ (kx = 4 ∧ (0 ≤ (xz xs (i + 1)) ∧ (xz xs (i + 1)) < (v 7 0)) ∧ shrP (eg (v 1 0) (v 2) (v 3) (v 4) (v 5)) (v 7 0) (v 8) (v 9) (xz xs (i + 1)) (-1)) := hq.1
    have kc : (kx = 1 ∧ z6 = 1) ∨ (kx = 4 ∧ z6 = 2) := hq.2
    have hP : va_P D vwCl ([xOut tA o og, xOud tA od dg, xMod tA am ms mbef msav misv mpast mpm mthr mways mnds mtkp mline mlm mtxt mlen mat mwr merr mfail mcmd mcm, xObj ad hsv mal fai, xOff tA ad v shrt w_grp seen w_tp shr w_need w_ordr w_size, xScr tA K ad pos cmd vals txt len, xHis tA ad hc hn hs, xBef tA ad bt, xSav tA ad sv, xLin tA ad lnb lml lct]).flatten H := hP
    have hD : va_D (lwA s) ([xOut tA o og, xOud tA od dg, xMod tA am ms mbef msav misv mpast mpm mthr mways mnds mtkp mline mlm mtxt mlen mat mwr merr mfail mcmd mcm, xObj ad hsv mal fai, xOff tA ad v shrt w_grp seen w_tp shr w_need w_ordr w_size, xScr tA K ad pos cmd vals txt len, xHis tA ad hc hn hs, xBef tA ad bt, xSav tA ad sv, xLin tA ad lnb lml lct]).flatten := hD
    refine lv_istore (lv' := [(6, .int (iI z6)), (0, .ref b), (1, .ref (ad 0)), (2, .ref (am 0)), (3, .ref o), (4, .ref od), (5, .int (iI i))]) hx hb dL_law_1945 hl (by decide) rfl (fun ls hl => ?_)
    refine lv_aload_n hx hb dL_law_1947 rfl (lv_at hl 3 rfl) ?_
    refine lv_aload_n hx hb dL_law_1948 rfl (lv_at hl 1 rfl) ?_
    refine lv_iload hx hb dL_law_1949 (lv_at hl 6 rfl) ?_
    refine zz_iconst hx hb dL_law_1951 ?_
    refine zz_iadd hx hb dL_law_1952 ?_
    refine zz_sld hx hb hX hbl hbA hS (k := i + 1) (by omega) hL dL_law_1953 ?_
    refine zz_callVi_ch (As := [.int (iI (xz xs (i + 1)))]) (rest := []) (L := [xOut tA o og, xOud tA od dg, xMod tA am ms mbef msav misv mpast mpm mthr mways mnds mtkp mline mlm mtxt mlen mat mwr merr mfail mcmd mcm, xObj ad hsv mal fai, xOff tA ad v shrt w_grp seen w_tp shr w_need w_ordr w_size, xScr tA K ad pos cmd vals txt len, xHis tA ad hc hn hs, xBef tA ad bt, xSav tA ad sv, xLin tA ad lnb lml lct]) (Lc := [xMod tA am ms mbef msav misv mpast mpm mthr mways mnds mtkp mline mlm mtxt mlen mat mwr merr mfail mcmd mcm]) (Lr := [xOut tA o og, xOud tA od dg, xObj ad hsv mal fai, xOff tA ad v shrt w_grp seen w_tp shr w_need w_ordr w_size, xScr tA K ad pos cmd vals txt len, xHis tA ad hc hn hs, xBef tA ad bt, xSav tA ad sv, xLin tA ad lnb lml lct]) (Lc' := fun u => [xMod tA am ms mbef msav misv mpast mpm u.2.2.2 u.1 u.2.1 u.2.2.1 mline mlm mtxt mlen mat mwr merr mfail mcmd mcm]) (Lf := fun u => [xOut tA o og, xOud tA od dg, xMod tA am ms mbef msav misv mpast mpm u.2.2.2 u.1 u.2.1 u.2.2.1 mline mlm mtxt mlen mat mwr merr mfail mcmd mcm, xObj ad hsv mal fai, xOff tA ad v shrt w_grp seen w_tp shr w_need w_ordr w_size, xScr tA K ad pos cmd vals txt len, xHis tA ad hc hn hs, xBef tA ad bt, xSav tA ad sv, xLin tA ad lnb lml lct]) (is := [2, 0, 1, 3, 4, 5, 6, 7, 8, 9]) (isF := [0, 1, 9, 2, 3, 4, 5, 6, 7, 8]) ⟨hx, hb, hml, hown, hts⟩ (c_X11_shareByOrders l D tA (am 0) (am 1) (am 2) (am 3) (am 4) (am 5) (am 6) (am 7) (am 8) (am 9) (am 10) H.size ms mbef msav misv mpast mpm mthr mways mnds mtkp mline mlm mtxt mlen mat mwr merr mfail mcmd mcm (xz xs (i + 1)) (xz_in _ _) hmv.1) (cwV 1 hts (gx_tbl gL_law_X11_shareByOrders) rfl rfl rfl (by decide +kernel) ⟨Nat.le_of_ble_eq_true rfl, Nat.le_of_ble_eq_true rfl⟩) hK hP hD hS hA ⟨rfl, rfl, (by decide)⟩ ⟨fun _ => rfl, fun _ => rfl, (by decide)⟩ (ci := 13) (q0 := 0) rfl rfl rfl rfl rfl hl.1 (Nat.le_of_ble_eq_true rfl) dL_law_1954 (by show _ + 0 ≤ 603072 ∧ _ + 0 ≤ 7207018; omega) ?_
    intro zb u H locs hmq hP hD hS
    obtain ⟨y_mways, y_mnds, y_mtkp, y_mthr⟩ := u
    have hP : va_P D vwCl ([xOut tA o og, xOud tA od dg, xMod tA am ms mbef msav misv mpast mpm y_mthr y_mways y_mnds y_mtkp mline mlm mtxt mlen mat mwr merr mfail mcmd mcm, xObj ad hsv mal fai, xOff tA ad v shrt w_grp seen w_tp shr w_need w_ordr w_size, xScr tA K ad pos cmd vals txt len, xHis tA ad hc hn hs, xBef tA ad bt, xSav tA ad sv, xLin tA ad lnb lml lct]).flatten H := hP
    have hD : va_D (lwA s) ([xOut tA o og, xOud tA od dg, xMod tA am ms mbef msav misv mpast mpm y_mthr y_mways y_mnds y_mtkp mline mlm mtxt mlen mat mwr merr mfail mcmd mcm, xObj ad hsv mal fai, xOff tA ad v shrt w_grp seen w_tp shr w_need w_ordr w_size, xScr tA K ad pos cmd vals txt len, xHis tA ad hc hn hs, xBef tA ad bt, xSav tA ad sv, xLin tA ad lnb lml lct]).flatten := hD
    have mq : gatM ms y_mtkp y_mnds := hmq.1
    have mqz : (y_mthr = 1 ∧ ¬ (0 ≤ (xz xs (i + 1)) ∧ (xz xs (i + 1)) < ms 1)) ∨ ((0 ≤ (xz xs (i + 1)) ∧ (xz xs (i + 1)) < ms 1) ∧ ((y_mthr = 2 ∧ y_mtkp (xz xs (i + 1)) = 0) ∨ (y_mthr = 0 ∧ y_mtkp (xz xs (i + 1)) = 1 ∧ zb = shR (mkT (ms 1) y_mtkp) y_mnds (y_mnds (xz xs (i + 1))).toNat))) := hmq.2
    clear hmq
    refine lv_istore (lv' := [(7, .int (iI zb)), (6, .int (iI z6)), (0, .ref b), (1, .ref (ad 0)), (2, .ref (am 0)), (3, .ref o), (4, .ref od), (5, .int (iI i))]) hx hb dL_law_1957 hl (by decide) rfl (fun ls hl => ?_)
    have hT : y_mthr = z6 := by
      rcases kq with ⟨k1, k2⟩ | ⟨k1, k2, k3⟩
      · rcases mqz with ⟨m0, -⟩ | ⟨m1, -⟩
        · omega
        · rw [e1] at m1
          exact absurd m1 k2
      · rcases mqz with ⟨-, m⟩ | ⟨m1, mz⟩
        · rw [e1] at m
          exact absurd k2 m
        · have q := rel_share hv hr k3 m1 mq
          rcases q with ⟨-, q2⟩ | ⟨q1, -⟩
          · omega
          · exact absurd rfl q1
    have hI2 : LInv (n + 1) v hs sv pos cmd vals txt len hc hn hsv mal fai lnb lct ms msav misv mpast mpm mline mlm mtxt mlen merr mfail mcmd := by
      exact LI_q hn9 hI
    refine lv_aload_n hx hb dL_law_1959 rfl (lv_at hl 4 rfl) ?_
    refine zz_callVi_ch (As := []) (rest := []) (L := [xOut tA o og, xOud tA od dg, xMod tA am ms mbef msav misv mpast mpm y_mthr y_mways y_mnds y_mtkp mline mlm mtxt mlen mat mwr merr mfail mcmd mcm, xObj ad hsv mal fai, xOff tA ad v shrt w_grp seen w_tp shr w_need w_ordr w_size, xScr tA K ad pos cmd vals txt len, xHis tA ad hc hn hs, xBef tA ad bt, xSav tA ad sv, xLin tA ad lnb lml lct]) (Lc := [xMod tA am ms mbef msav misv mpast mpm y_mthr y_mways y_mnds y_mtkp mline mlm mtxt mlen mat mwr merr mfail mcmd mcm]) (Lr := [xOut tA o og, xOud tA od dg, xObj ad hsv mal fai, xOff tA ad v shrt w_grp seen w_tp shr w_need w_ordr w_size, xScr tA K ad pos cmd vals txt len, xHis tA ad hc hn hs, xBef tA ad bt, xSav tA ad sv, xLin tA ad lnb lml lct]) (Lc' := fun u => [xMod tA am ms mbef msav misv mpast mpm y_mthr y_mways y_mnds y_mtkp mline mlm mtxt mlen mat mwr merr mfail mcmd mcm]) (Lf := fun u => [xOut tA o og, xOud tA od dg, xMod tA am ms mbef msav misv mpast mpm y_mthr y_mways y_mnds y_mtkp mline mlm mtxt mlen mat mwr merr mfail mcmd mcm, xObj ad hsv mal fai, xOff tA ad v shrt w_grp seen w_tp shr w_need w_ordr w_size, xScr tA K ad pos cmd vals txt len, xHis tA ad hc hn hs, xBef tA ad bt, xSav tA ad sv, xLin tA ad lnb lml lct]) (is := [2, 0, 1, 3, 4, 5, 6, 7, 8, 9]) (isF := [0, 1, 9, 2, 3, 4, 5, 6, 7, 8]) ⟨hx, hb, hml, hown, hts⟩ (c_X11_thrown l D tA (am 0) (am 1) (am 2) (am 3) (am 4) (am 5) (am 6) (am 7) (am 8) (am 9) (am 10) H.size ms mbef msav misv mpast mpm y_mthr y_mways y_mnds y_mtkp mline mlm mtxt mlen mat mwr merr mfail mcmd mcm) (cwV 0 hts (gx_tbl gL_law_X11_thrown) rfl rfl rfl (by decide +kernel) ⟨Nat.le_of_ble_eq_true rfl, Nat.le_of_ble_eq_true rfl⟩) hK hP hD hS hA ⟨rfl, rfl, (by decide)⟩ ⟨fun _ => rfl, fun _ => rfl, (by decide)⟩ (ci := 13) (q0 := 0) rfl rfl rfl rfl rfl hl.1 (Nat.le_of_ble_eq_true rfl) dL_law_1960 (by show _ + 0 ≤ 603072 ∧ _ + 0 ≤ 7207018; omega) ?_
    intro zt u H locs hzt hP hD hS
    have hP : va_P D vwCl ([xOut tA o og, xOud tA od dg, xMod tA am ms mbef msav misv mpast mpm y_mthr y_mways y_mnds y_mtkp mline mlm mtxt mlen mat mwr merr mfail mcmd mcm, xObj ad hsv mal fai, xOff tA ad v shrt w_grp seen w_tp shr w_need w_ordr w_size, xScr tA K ad pos cmd vals txt len, xHis tA ad hc hn hs, xBef tA ad bt, xSav tA ad sv, xLin tA ad lnb lml lct]).flatten H := hP
    have hD : va_D (lwA s) ([xOut tA o og, xOud tA od dg, xMod tA am ms mbef msav misv mpast mpm y_mthr y_mways y_mnds y_mtkp mline mlm mtxt mlen mat mwr merr mfail mcmd mcm, xObj ad hsv mal fai, xOff tA ad v shrt w_grp seen w_tp shr w_need w_ordr w_size, xScr tA K ad pos cmd vals txt len, xHis tA ad hc hn hs, xBef tA ad bt, xSav tA ad sv, xLin tA ad lnb lml lct]).flatten := hD
    have hzt : zt = y_mthr := hzt
    have hz69 : 0 ≤ z6 ∧ z6 ≤ 9 := by omega
    refine lv_iload hx hb dL_law_1963 (lv_at hl 1 rfl) ?_
    refine zz_icmp_eq (tgt := 1970) hx hb dL_law_1965 (by decide) (by omega) (by omega) (fun _ => ?_) (fun c9 => absurd (by omega) c9)
    refine lv_iload hx hb dL_law_1970 (lv_at hl 1 rfl) ?_
    refine zz_if_ne (tgt := 1987) hx hb dL_law_1972 (by decide) (by omega) (fun _ => ?_) (fun c9 => absurd c9 (by omega))
    refine lv_goto (tgt := 2917) hx hb dL_law_1987 (by decide) ?_
    refine W.widen (k := k9 + 20) (n := n9 + 200) (by omega) (by omega) ?_
    exact kk v shrt w_grp seen w_tp shr w_need w_ordr w_size pos cmd vals txt len hc hn hs bt sv hsv mal fai lnb lml lct ms mbef msav misv mpast mpm y_mthr y_mways y_mnds y_mtkp mline mlm mtxt mlen mat mwr merr mfail mcmd mcm og dg _ _ _ hI2 hP hD hS (lv_sub hl [2, 3, 4, 5, 6, 7] rfl)
