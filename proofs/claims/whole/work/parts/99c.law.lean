/-! ===== the law, call by call (3) ===== -/
set_option maxHeartbeats 8000000 in
set_option maxRecDepth 100000 in
theorem law_c12 {p : Program} {l : Launch} (hst : l.stackTraces = false) {e : Env} {s : State} {m : MethodId} {below : List Frame} {meth : Method} {c : Code} {D : va_G} {tA : Nat → ClassId} {K : Nat → Nat} {b L : Nat} {xs : Nat → Int32} (hL : L ≤ 2560) (C0 : lw_At p s m meth c b L xs) (hK : zK D tA s) (hZ : zT K (lwA s) s) {ad am : Nat → Nat} {o od : Nat} {i n : Int} (hi : 0 ≤ i ∧ i + 5 ≤ L) (hn9 : n < 600) {k9 n9 : Nat} (hk9 : k9 + 20 ≤ 603072 ∧ n9 + 200 ≤ 7207018) {v : Nat → Int → Int} {shrt : Int → Int} {grp : Int → Int} {seen : Int → Int} {tp : Int → Int} {shr : Int → Int} {need : Int → Int} {ordr : Int → Int} {size : Int} {pos : Int} {cmd : Int} {vals : Int → Int} {txt : Int → Int} {len : Int} {hc : Int} {hn : Int} {hs : Nat → Nat → Int → Int} {bt : Nat → Int → Int} {sv : Nat → Int → Int} {hsv : Int} {mal : Int} {fai : Int} {lnb : Int → Int} {lml : Int} {lct : Int} {ms : Int → Int} {mbef : Int → Int} {msav : Int → Int} {misv : Int} {mpast : Int → Int} {mpm : Int} {mthr : Int} {mways : Int → Int} {mnds : Int → Int} {mtkp : Int → Int} {mline : Int → Int} {mlm : Int} {mtxt : Int → Int} {mlen : Int} {mat : Int} {mwr : Int} {merr : Int} {mfail : Int} {mcmd : Int → Int} {mcm : Int} {og : Int → Int} {dg : Nat → UInt64} {H : Heap} {locs : List Loc} {ls : Array Slot} (hI : LInv n v hs sv pos cmd vals txt len hc hn hsv mal fai lnb lct ms msav misv mpast mpm mline mlm mtxt mlen merr mfail mcmd) (hP : va_P D vwCl (xW tA K ad am o od v shrt grp seen tp shr need ordr size pos cmd vals txt len hc hn hs bt sv hsv mal fai lnb lml lct ms mbef msav misv mpast mpm mthr mways mnds mtkp mline mlm mtxt mlen mat mwr merr mfail mcmd mcm og dg).flatten H) (hD : va_D (lwA s) (xW tA K ad am o od v shrt grp seen tp shr need ordr size pos cmd vals txt len hc hn hs bt sv hsv mal fai lnb lml lct ms mbef msav misv mpast mpm mthr mways mnds mtkp mline mlm mtxt mlen mat mwr merr mfail mcmd mcm og dg).flatten) (hS : va_S (lwA s) s.heap H locs) (hl : lv_has ls 9 [(0, .ref b), (1, .ref (ad 0)), (2, .ref (am 0)), (3, .ref o), (4, .ref od), (5, .int (iI i))]) (kk : lwK p l e s m below meth c D tA K ad am o od b i n k9 n9) : W p l e room_1 s m #[Value.ref b] below meth c H locs k9 n9 (lw_Z below #[Value.ref b] s) (F0 m 972 ls []) := by
  obtain ⟨hx, hb, hrt, hml, hown, hts, hX, hbl, hlocks, hgv⟩ := id C0
  have hts := lw_more hts
  have hA : ∀ q : Nat, s.heap.size ≤ q → lwA s q := fun _ h => h
  have hbA : ¬ lwA s b := Nat.not_le.mpr hbl
  have hCn := hZ.2.2.2
  obtain ⟨⟨n0, n6, l0, l6, ln⟩, hLS, ⟨hhn, hhc, hpm, hhi⟩, ⟨hsv01, hmis, hsvv, hsvr⟩, ⟨hlen, htxt, htx⟩, ⟨hlm, hln, hl0, hl16, hlb⟩, ⟨her, hfa, hm1, hm2, hf1, hf2⟩, ⟨hcd0, hcd1, hps0, hps1, hva⟩, hcr⟩ := id hI
  have hv := hLS.1
  have hr := hLS.2
  have hch : ChS v := hv.1
  have hu9 : ChW v := hv.2.1
  obtain ⟨-, -, hcc, hsp, hmo, hfog, hrg, hni, hfd, hmt9, hln9, hsum⟩ := SVk_out (show SVk _ _ (etS v) from hv)
  have hmv := rel_MV hv hr (by omega) (by omega)
  obtain ⟨e0, e1, e2, e3, e4, e5, e6⟩ := id hr.1
  have eE := rel_sE hch hr
  have hmon : ∀ j, 0 ≤ j → j < v 7 0 → 0 ≤ v 10 j ∧ v 10 j ≤ 6000000 := fun j j0 j1 => by have := hmo j j0 j1; omega
  have hlnd : ∀ j, 0 ≤ j → j < v 7 0 → (0 ≤ v 11 j ∧ v 11 j ≤ 600) ∧ (0 ≤ v 12 j ∧ v 12 j ≤ 600) := fun j j0 j1 => by have := hln9 j j0 j1; omega
  refine lv_aload_n hx hb dL_law_972 rfl (lv_at hl 1 rfl) ?_
  refine lv_aload_n hx hb dL_law_973 rfl (lv_at hl 0 rfl) ?_
  refine lv_iload hx hb dL_law_974 (lv_at hl 5 rfl) ?_
  refine zz_iconst hx hb dL_law_976 ?_
  refine zz_iadd hx hb dL_law_977 ?_
  refine zz_sld hx hb hX hbl hbA hS (k := i + 1) (by omega) hL dL_law_978 ?_
  refine lv_aload_n hx hb dL_law_979 rfl (lv_at hl 0 rfl) ?_
  refine lv_iload hx hb dL_law_980 (lv_at hl 5 rfl) ?_
  refine zz_iconst hx hb dL_law_982 ?_
  refine zz_iadd hx hb dL_law_983 ?_
  refine zz_sld hx hb hX hbl hbA hS (k := i + 2) (by omega) hL dL_law_984 ?_
  refine lv_aload_n hx hb dL_law_985 rfl (lv_at hl 3 rfl) ?_
  refine zh_callSi_ch (As := [.ref (ad 0), .int (iI (xz xs (i + 1))), .int (iI (xz xs (i + 2))), .ref o]) (rest := []) (L := [xOut tA o og, xOud tA od dg, xMod tA am ms mbef msav misv mpast mpm mthr mways mnds mtkp mline mlm mtxt mlen mat mwr merr mfail mcmd mcm, xObj ad hsv mal fai, xOff tA ad v shrt grp seen tp shr need ordr size, xScr tA K ad pos cmd vals txt len, xHis tA ad hc hn hs, xBef tA ad bt, xSav tA ad sv, xLin tA ad lnb lml lct]) (Lc := [xOut tA o og, xObj ad hsv mal fai, xOff tA ad v shrt grp seen tp shr need ordr size]) (Lr := [xOud tA od dg, xMod tA am ms mbef msav misv mpast mpm mthr mways mnds mtkp mline mlm mtxt mlen mat mwr merr mfail mcmd mcm, xScr tA K ad pos cmd vals txt len, xHis tA ad hc hn hs, xBef tA ad bt, xSav tA ad sv, xLin tA ad lnb lml lct]) (Lc' := fun u => Sum.elim (fun u => [xOut tA o (zU og 0 u.1), xObj ad hsv mal fai, xOff tA ad v u.2.1 grp u.2.2 tp shr need ordr size]) (fun u => [xOut tA o og, xObj ad hsv mal fai, xOff tA ad v u.2.1 grp u.2.2 tp shr need ordr size]) u) (Lf := fun u => Sum.elim (fun u => [xOut tA o (zU og 0 u.1), xOud tA od dg, xMod tA am ms mbef msav misv mpast mpm mthr mways mnds mtkp mline mlm mtxt mlen mat mwr merr mfail mcmd mcm, xObj ad hsv mal fai, xOff tA ad v u.2.1 grp u.2.2 tp shr need ordr size, xScr tA K ad pos cmd vals txt len, xHis tA ad hc hn hs, xBef tA ad bt, xSav tA ad sv, xLin tA ad lnb lml lct]) (fun u => [xOut tA o og, xOud tA od dg, xMod tA am ms mbef msav misv mpast mpm mthr mways mnds mtkp mline mlm mtxt mlen mat mwr merr mfail mcmd mcm, xObj ad hsv mal fai, xOff tA ad v u.2.1 grp u.2.2 tp shr need ordr size, xScr tA K ad pos cmd vals txt len, xHis tA ad hc hn hs, xBef tA ad bt, xSav tA ad sv, xLin tA ad lnb lml lct]) u) (is := [0, 3, 4, 1, 2, 5, 6, 7, 8, 9]) (isF := [7, 0, 1, 8, 9, 2, 3, 4, 5, 6]) ⟨hx, hb, hml, hown, hts⟩ (c_L_distance l hst K D tA (ad 0) (ad 1) (ad 2) (ad 3) (ad 4) (ad 5) (ad 6) (ad 7) (ad 8) (ad 9) (ad 10) (ad 11) (ad 12) (ad 13) (ad 14) (ad 15) (ad 16) (ad 17) (ad 18) (ad 19) (ad 20) (ad 21) (ad 22) (ad 23) (ad 24) (ad 27) (ad 146) (ad 133) (ad 159) o H.size og (v 0 0) (v 1 0) (v 2) (v 3) (v 4) (v 5) (v 6) (v 7 0) (v 8) (v 9) (v 10) (v 11) (v 12) (v 13 0) (v 14 0) (v 15 0) (v 16 0) (v 17 0) (v 18 0) shrt grp seen tp shr need ordr size hsv mal fai  (xz xs (i + 1)) (xz xs (i + 2)) (xz_in _ _) (xz_in _ _) hch) (vx_cwSW 4 hts (gx_wr gL_law_L_distance) rfl rfl rfl (by decide +kernel) ⟨Nat.le_of_ble_eq_true rfl, Nat.le_of_ble_eq_true rfl⟩) hK hP hD hS hA hZ ⟨rfl, rfl, (by decide)⟩ ⟨fun u => by cases u <;> rfl, fun u => by cases u <;> rfl, (by decide)⟩ rfl rfl hl.1 (Nat.le_of_ble_eq_true rfl) dL_law_986 (by show k9 + 2 ≤ 603072 ∧ n9 + 12 ≤ 7207018; omega) ?_
  intro z6 u H locs hq hP hD hS
  rcases u with ⟨zc, u⟩ | u
  · obtain ⟨w_shrt, w_seen⟩ := u
    obtain ⟨hz6, kq, hzr⟩ := hq
    have kq : inP (v 0 0) (xz xs (i + 1)) (xz xs (i + 2)) ∧ zc ≠ -1 ∧ distP (eg (v 1 0) (v 2) (v 3) (v 4) (v 5) 20) (xz xs (i + 1)) (xz xs (i + 2)) zc := kq
    have hz6 : z6 = 0 := hz6
    have hzr : -2147483648 ≤ zc ∧ zc ≤ 2147483647 := hzr
    have hP : va_P D vwCl ([xOut tA o (zU og 0 zc), xOud tA od dg, xMod tA am ms mbef msav misv mpast mpm mthr mways mnds mtkp mline mlm mtxt mlen mat mwr merr mfail mcmd mcm, xObj ad hsv mal fai, xOff tA ad v w_shrt grp w_seen tp shr need ordr size, xScr tA K ad pos cmd vals txt len, xHis tA ad hc hn hs, xBef tA ad bt, xSav tA ad sv, xLin tA ad lnb lml lct]).flatten H := hP
    have hD : va_D (lwA s) ([xOut tA o (zU og 0 zc), xOud tA od dg, xMod tA am ms mbef msav misv mpast mpm mthr mways mnds mtkp mline mlm mtxt mlen mat mwr merr mfail mcmd mcm, xObj ad hsv mal fai, xOff tA ad v w_shrt grp w_seen tp shr need ordr size, xScr tA K ad pos cmd vals txt len, xHis tA ad hc hn hs, xBef tA ad bt, xSav tA ad sv, xLin tA ad lnb lml lct]).flatten := hD
    refine lv_istore (lv' := [(6, .int (iI z6)), (0, .ref b), (1, .ref (ad 0)), (2, .ref (am 0)), (3, .ref o), (4, .ref od), (5, .int (iI i))]) hx hb dL_law_989 hl (by decide) rfl (fun ls hl => ?_)
    refine lv_aload_n hx hb dL_law_991 rfl (lv_at hl 3 rfl) ?_
    refine lv_aload_n hx hb dL_law_992 rfl (lv_at hl 1 rfl) ?_
    refine lv_iload hx hb dL_law_993 (lv_at hl 6 rfl) ?_
    refine zz_iconst hx hb dL_law_995 ?_
    refine zz_iadd hx hb dL_law_996 ?_
    refine zz_sld hx hb hX hbl hbA hS (k := i + 1) (by omega) hL dL_law_997 ?_
    refine lv_aload_n hx hb dL_law_998 rfl (lv_at hl 1 rfl) ?_
    refine lv_iload hx hb dL_law_999 (lv_at hl 6 rfl) ?_
    refine zz_iconst hx hb dL_law_1001 ?_
    refine zz_iadd hx hb dL_law_1002 ?_
    refine zz_sld hx hb hX hbl hbA hS (k := i + 2) (by omega) hL dL_law_1003 ?_
    refine zz_callVi_ch (As := [.int (iI (xz xs (i + 1))), .int (iI (xz xs (i + 2)))]) (rest := []) (L := [xOut tA o (zU og 0 zc), xOud tA od dg, xMod tA am ms mbef msav misv mpast mpm mthr mways mnds mtkp mline mlm mtxt mlen mat mwr merr mfail mcmd mcm, xObj ad hsv mal fai, xOff tA ad v w_shrt grp w_seen tp shr need ordr size, xScr tA K ad pos cmd vals txt len, xHis tA ad hc hn hs, xBef tA ad bt, xSav tA ad sv, xLin tA ad lnb lml lct]) (Lc := [xMod tA am ms mbef msav misv mpast mpm mthr mways mnds mtkp mline mlm mtxt mlen mat mwr merr mfail mcmd mcm]) (Lr := [xOut tA o (zU og 0 zc), xOud tA od dg, xObj ad hsv mal fai, xOff tA ad v w_shrt grp w_seen tp shr need ordr size, xScr tA K ad pos cmd vals txt len, xHis tA ad hc hn hs, xBef tA ad bt, xSav tA ad sv, xLin tA ad lnb lml lct]) (Lc' := fun u => [xMod tA am ms mbef msav misv mpast mpm u.2 u.1 mnds mtkp mline mlm mtxt mlen mat mwr merr mfail mcmd mcm]) (Lf := fun u => [xOut tA o (zU og 0 zc), xOud tA od dg, xMod tA am ms mbef msav misv mpast mpm u.2 u.1 mnds mtkp mline mlm mtxt mlen mat mwr merr mfail mcmd mcm, xObj ad hsv mal fai, xOff tA ad v w_shrt grp w_seen tp shr need ordr size, xScr tA K ad pos cmd vals txt len, xHis tA ad hc hn hs, xBef tA ad bt, xSav tA ad sv, xLin tA ad lnb lml lct]) (is := [2, 0, 1, 3, 4, 5, 6, 7, 8, 9]) (isF := [0, 1, 9, 2, 3, 4, 5, 6, 7, 8]) ⟨hx, hb, hml, hown, hts⟩ (c_X11_distance l D tA (am 0) (am 1) (am 2) (am 3) (am 4) (am 5) (am 6) (am 7) (am 8) (am 9) (am 10) H.size ms mbef msav misv mpast mpm mthr mways mnds mtkp mline mlm mtxt mlen mat mwr merr mfail mcmd mcm (xz xs (i + 1)) (xz xs (i + 2)) (xz_in _ _) (xz_in _ _) hmv.1) (cwV 2 hts (gx_tbl gL_law_X11_distance) rfl rfl rfl (by decide +kernel) ⟨Nat.le_of_ble_eq_true rfl, Nat.le_of_ble_eq_true rfl⟩) hK hP hD hS hA ⟨rfl, rfl, (by decide)⟩ ⟨fun _ => rfl, fun _ => rfl, (by decide)⟩ (ci := 13) (q0 := 0) rfl rfl rfl rfl rfl hl.1 (Nat.le_of_ble_eq_true rfl) dL_law_1004 (by show _ + 0 ≤ 603072 ∧ _ + 0 ≤ 7207018; omega) ?_
    intro zb u H locs hmq hP hD hS
    obtain ⟨y_mways, y_mthr⟩ := u
    have hP : va_P D vwCl ([xOut tA o (zU og 0 zc), xOud tA od dg, xMod tA am ms mbef msav misv mpast mpm y_mthr y_mways mnds mtkp mline mlm mtxt mlen mat mwr merr mfail mcmd mcm, xObj ad hsv mal fai, xOff tA ad v w_shrt grp w_seen tp shr need ordr size, xScr tA K ad pos cmd vals txt len, xHis tA ad hc hn hs, xBef tA ad bt, xSav tA ad sv, xLin tA ad lnb lml lct]).flatten H := hP
    have hD : va_D (lwA s) ([xOut tA o (zU og 0 zc), xOud tA od dg, xMod tA am ms mbef msav misv mpast mpm y_mthr y_mways mnds mtkp mline mlm mtxt mlen mat mwr merr mfail mcmd mcm, xObj ad hsv mal fai, xOff tA ad v w_shrt grp w_seen tp shr need ordr size, xScr tA K ad pos cmd vals txt len, xHis tA ad hc hn hs, xBef tA ad bt, xSav tA ad sv, xLin tA ad lnb lml lct]).flatten := hD
    have mq : askP (inP (ms 0) (xz xs (i + 1)) (xz xs (i + 2))) (distP (egM ms (rgM ms 0)) (xz xs (i + 1)) (xz xs (i + 2))) zb y_mthr := hmq
    clear hmq
    refine lv_istore (lv' := [(7, .int (iI zb)), (6, .int (iI z6)), (0, .ref b), (1, .ref (ad 0)), (2, .ref (am 0)), (3, .ref o), (4, .ref od), (5, .int (iI i))]) hx hb dL_law_1007 hl (by decide) rfl (fun ls hl => ?_)
    have hTV : y_mthr = 0 ∧ zb = zc := by
      rw [e0, rgM_0, ← rel_eg hch hr 20] at mq
      exact q_ask (fun x y hx hy => distP_uniq hx hy) kq mq
    have hT : y_mthr = z6 := hTV.1.trans hz6.symm
    have hI2 : LInv (n + 1) v hs sv pos cmd vals txt len hc hn hsv mal fai lnb lct ms msav misv mpast mpm mline mlm mtxt mlen merr mfail mcmd := by
      exact LI_q hn9 hI
    refine lv_aload_n hx hb dL_law_1009 rfl (lv_at hl 4 rfl) ?_
    refine zz_callVi_ch (As := []) (rest := []) (L := [xOut tA o (zU og 0 zc), xOud tA od dg, xMod tA am ms mbef msav misv mpast mpm y_mthr y_mways mnds mtkp mline mlm mtxt mlen mat mwr merr mfail mcmd mcm, xObj ad hsv mal fai, xOff tA ad v w_shrt grp w_seen tp shr need ordr size, xScr tA K ad pos cmd vals txt len, xHis tA ad hc hn hs, xBef tA ad bt, xSav tA ad sv, xLin tA ad lnb lml lct]) (Lc := [xMod tA am ms mbef msav misv mpast mpm y_mthr y_mways mnds mtkp mline mlm mtxt mlen mat mwr merr mfail mcmd mcm]) (Lr := [xOut tA o (zU og 0 zc), xOud tA od dg, xObj ad hsv mal fai, xOff tA ad v w_shrt grp w_seen tp shr need ordr size, xScr tA K ad pos cmd vals txt len, xHis tA ad hc hn hs, xBef tA ad bt, xSav tA ad sv, xLin tA ad lnb lml lct]) (Lc' := fun u => [xMod tA am ms mbef msav misv mpast mpm y_mthr y_mways mnds mtkp mline mlm mtxt mlen mat mwr merr mfail mcmd mcm]) (Lf := fun u => [xOut tA o (zU og 0 zc), xOud tA od dg, xMod tA am ms mbef msav misv mpast mpm y_mthr y_mways mnds mtkp mline mlm mtxt mlen mat mwr merr mfail mcmd mcm, xObj ad hsv mal fai, xOff tA ad v w_shrt grp w_seen tp shr need ordr size, xScr tA K ad pos cmd vals txt len, xHis tA ad hc hn hs, xBef tA ad bt, xSav tA ad sv, xLin tA ad lnb lml lct]) (is := [2, 0, 1, 3, 4, 5, 6, 7, 8, 9]) (isF := [0, 1, 9, 2, 3, 4, 5, 6, 7, 8]) ⟨hx, hb, hml, hown, hts⟩ (c_X11_thrown l D tA (am 0) (am 1) (am 2) (am 3) (am 4) (am 5) (am 6) (am 7) (am 8) (am 9) (am 10) H.size ms mbef msav misv mpast mpm y_mthr y_mways mnds mtkp mline mlm mtxt mlen mat mwr merr mfail mcmd mcm) (cwV 0 hts (gx_tbl gL_law_X11_thrown) rfl rfl rfl (by decide +kernel) ⟨Nat.le_of_ble_eq_true rfl, Nat.le_of_ble_eq_true rfl⟩) hK hP hD hS hA ⟨rfl, rfl, (by decide)⟩ ⟨fun _ => rfl, fun _ => rfl, (by decide)⟩ (ci := 13) (q0 := 0) rfl rfl rfl rfl rfl hl.1 (Nat.le_of_ble_eq_true rfl) dL_law_1010 (by show _ + 0 ≤ 603072 ∧ _ + 0 ≤ 7207018; omega) ?_
    intro zt u H locs hzt hP hD hS
    have hP : va_P D vwCl ([xOut tA o (zU og 0 zc), xOud tA od dg, xMod tA am ms mbef msav misv mpast mpm y_mthr y_mways mnds mtkp mline mlm mtxt mlen mat mwr merr mfail mcmd mcm, xObj ad hsv mal fai, xOff tA ad v w_shrt grp w_seen tp shr need ordr size, xScr tA K ad pos cmd vals txt len, xHis tA ad hc hn hs, xBef tA ad bt, xSav tA ad sv, xLin tA ad lnb lml lct]).flatten H := hP
    have hD : va_D (lwA s) ([xOut tA o (zU og 0 zc), xOud tA od dg, xMod tA am ms mbef msav misv mpast mpm y_mthr y_mways mnds mtkp mline mlm mtxt mlen mat mwr merr mfail mcmd mcm, xObj ad hsv mal fai, xOff tA ad v w_shrt grp w_seen tp shr need ordr size, xScr tA K ad pos cmd vals txt len, xHis tA ad hc hn hs, xBef tA ad bt, xSav tA ad sv, xLin tA ad lnb lml lct]).flatten := hD
    have hzt : zt = y_mthr := hzt
    have hz69 : 0 ≤ z6 ∧ z6 ≤ 9 := by omega
    refine lv_iload hx hb dL_law_1013 (lv_at hl 1 rfl) ?_
    refine zz_icmp_eq (tgt := 1020) hx hb dL_law_1015 (by decide) (by omega) (by omega) (fun _ => ?_) (fun c9 => absurd (by omega) c9)
    refine lv_iload hx hb dL_law_1020 (lv_at hl 1 rfl) ?_
    refine zz_if_ne (tgt := 1037) hx hb dL_law_1022 (by decide) (by omega) (fun c9 => absurd hz6 c9) (fun _ => ?_)
    refine lv_aload_n hx hb dL_law_1025 rfl (lv_at hl 5 rfl) ?_
    refine zz_iconst hx hb dL_law_1026 ?_
    refine zz_lald hx hb hK hP 0 rfl (by decide) (by decide) dL_law_1027 ?_
    rw [zU_same]
    refine lv_iload hx hb dL_law_1028 (lv_at hl 0 rfl) ?_
    refine zz_i2l hx hb dL_law_1030 (by omega) ?_
    rw [hTV.2]
    refine zz_lcmp hx hb dL_law_1031 (by omega) (by omega) ?_
    rw [cmpZ_s]
    refine zz_if_eq (tgt := 1037) hx hb dL_law_1032 (by decide) (by decide) (fun _ => ?_) (fun c9 => absurd rfl c9)
    refine lv_goto (tgt := 2917) hx hb dL_law_1037 (by decide) ?_
    refine W.widen (k := k9 + 20) (n := n9 + 200) (by omega) (by omega) ?_
    exact kk v w_shrt grp w_seen tp shr need ordr size pos cmd vals txt len hc hn hs bt sv hsv mal fai lnb lml lct ms mbef msav misv mpast mpm y_mthr y_mways mnds mtkp mline mlm mtxt mlen mat mwr merr mfail mcmd mcm (zU og 0 zc) dg _ _ _ hI2 hP hD hS (lv_sub hl [2, 3, 4, 5, 6, 7] rfl)
  · obtain ⟨kx, w_shrt, w_seen⟩ := u
    have kq : (kx = 1 ∧ ¬ inP (v 0 0) (xz xs (i + 1)) (xz xs (i + 2))) ∨ (kx = 4 ∧ inP (v 0 0) (xz xs (i + 1)) (xz xs (i + 2)) ∧ distP (eg (v 1 0) (v 2) (v 3) (v 4) (v 5) 20) (xz xs (i + 1)) (xz xs (i + 2)) (-1)) := hq.1
    have kc : (kx = 1 ∧ z6 = 1) ∨ (kx = 4 ∧ z6 = 2) := hq.2
    have hP : va_P D vwCl ([xOut tA o og, xOud tA od dg, xMod tA am ms mbef msav misv mpast mpm mthr mways mnds mtkp mline mlm mtxt mlen mat mwr merr mfail mcmd mcm, xObj ad hsv mal fai, xOff tA ad v w_shrt grp w_seen tp shr need ordr size, xScr tA K ad pos cmd vals txt len, xHis tA ad hc hn hs, xBef tA ad bt, xSav tA ad sv, xLin tA ad lnb lml lct]).flatten H := hP
    have hD : va_D (lwA s) ([xOut tA o og, xOud tA od dg, xMod tA am ms mbef msav misv mpast mpm mthr mways mnds mtkp mline mlm mtxt mlen mat mwr merr mfail mcmd mcm, xObj ad hsv mal fai, xOff tA ad v w_shrt grp w_seen tp shr need ordr size, xScr tA K ad pos cmd vals txt len, xHis tA ad hc hn hs, xBef tA ad bt, xSav tA ad sv, xLin tA ad lnb lml lct]).flatten := hD
    refine lv_istore (lv' := [(6, .int (iI z6)), (0, .ref b), (1, .ref (ad 0)), (2, .ref (am 0)), (3, .ref o), (4, .ref od), (5, .int (iI i))]) hx hb dL_law_989 hl (by decide) rfl (fun ls hl => ?_)
    refine lv_aload_n hx hb dL_law_991 rfl (lv_at hl 3 rfl) ?_
    refine lv_aload_n hx hb dL_law_992 rfl (lv_at hl 1 rfl) ?_
    refine lv_iload hx hb dL_law_993 (lv_at hl 6 rfl) ?_
    refine zz_iconst hx hb dL_law_995 ?_
    refine zz_iadd hx hb dL_law_996 ?_
    refine zz_sld hx hb hX hbl hbA hS (k := i + 1) (by omega) hL dL_law_997 ?_
    refine lv_aload_n hx hb dL_law_998 rfl (lv_at hl 1 rfl) ?_
    refine lv_iload hx hb dL_law_999 (lv_at hl 6 rfl) ?_
    refine zz_iconst hx hb dL_law_1001 ?_
    refine zz_iadd hx hb dL_law_1002 ?_
    refine zz_sld hx hb hX hbl hbA hS (k := i + 2) (by omega) hL dL_law_1003 ?_
    refine zz_callVi_ch (As := [.int (iI (xz xs (i + 1))), .int (iI (xz xs (i + 2)))]) (rest := []) (L := [xOut tA o og, xOud tA od dg, xMod tA am ms mbef msav misv mpast mpm mthr mways mnds mtkp mline mlm mtxt mlen mat mwr merr mfail mcmd mcm, xObj ad hsv mal fai, xOff tA ad v w_shrt grp w_seen tp shr need ordr size, xScr tA K ad pos cmd vals txt len, xHis tA ad hc hn hs, xBef tA ad bt, xSav tA ad sv, xLin tA ad lnb lml lct]) (Lc := [xMod tA am ms mbef msav misv mpast mpm mthr mways mnds mtkp mline mlm mtxt mlen mat mwr merr mfail mcmd mcm]) (Lr := [xOut tA o og, xOud tA od dg, xObj ad hsv mal fai, xOff tA ad v w_shrt grp w_seen tp shr need ordr size, xScr tA K ad pos cmd vals txt len, xHis tA ad hc hn hs, xBef tA ad bt, xSav tA ad sv, xLin tA ad lnb lml lct]) (Lc' := fun u => [xMod tA am ms mbef msav misv mpast mpm u.2 u.1 mnds mtkp mline mlm mtxt mlen mat mwr merr mfail mcmd mcm]) (Lf := fun u => [xOut tA o og, xOud tA od dg, xMod tA am ms mbef msav misv mpast mpm u.2 u.1 mnds mtkp mline mlm mtxt mlen mat mwr merr mfail mcmd mcm, xObj ad hsv mal fai, xOff tA ad v w_shrt grp w_seen tp shr need ordr size, xScr tA K ad pos cmd vals txt len, xHis tA ad hc hn hs, xBef tA ad bt, xSav tA ad sv, xLin tA ad lnb lml lct]) (is := [2, 0, 1, 3, 4, 5, 6, 7, 8, 9]) (isF := [0, 1, 9, 2, 3, 4, 5, 6, 7, 8]) ⟨hx, hb, hml, hown, hts⟩ (c_X11_distance l D tA (am 0) (am 1) (am 2) (am 3) (am 4) (am 5) (am 6) (am 7) (am 8) (am 9) (am 10) H.size ms mbef msav misv mpast mpm mthr mways mnds mtkp mline mlm mtxt mlen mat mwr merr mfail mcmd mcm (xz xs (i + 1)) (xz xs (i + 2)) (xz_in _ _) (xz_in _ _) hmv.1) (cwV 2 hts (gx_tbl gL_law_X11_distance) rfl rfl rfl (by decide +kernel) ⟨Nat.le_of_ble_eq_true rfl, Nat.le_of_ble_eq_true rfl⟩) hK hP hD hS hA ⟨rfl, rfl, (by decide)⟩ ⟨fun _ => rfl, fun _ => rfl, (by decide)⟩ (ci := 13) (q0 := 0) rfl rfl rfl rfl rfl hl.1 (Nat.le_of_ble_eq_true rfl) dL_law_1004 (by show _ + 0 ≤ 603072 ∧ _ + 0 ≤ 7207018; omega) ?_
    intro zb u H locs hmq hP hD hS
    obtain ⟨y_mways, y_mthr⟩ := u
    have hP : va_P D vwCl ([xOut tA o og, xOud tA od dg, xMod tA am ms mbef msav misv mpast mpm y_mthr y_mways mnds mtkp mline mlm mtxt mlen mat mwr merr mfail mcmd mcm, xObj ad hsv mal fai, xOff tA ad v w_shrt grp w_seen tp shr need ordr size, xScr tA K ad pos cmd vals txt len, xHis tA ad hc hn hs, xBef tA ad bt, xSav tA ad sv, xLin tA ad lnb lml lct]).flatten H := hP
    have hD : va_D (lwA s) ([xOut tA o og, xOud tA od dg, xMod tA am ms mbef msav misv mpast mpm y_mthr y_mways mnds mtkp mline mlm mtxt mlen mat mwr merr mfail mcmd mcm, xObj ad hsv mal fai, xOff tA ad v w_shrt grp w_seen tp shr need ordr size, xScr tA K ad pos cmd vals txt len, xHis tA ad hc hn hs, xBef tA ad bt, xSav tA ad sv, xLin tA ad lnb lml lct]).flatten := hD
    have mq : askP (inP (ms 0) (xz xs (i + 1)) (xz xs (i + 2))) (distP (egM ms (rgM ms 0)) (xz xs (i + 1)) (xz xs (i + 2))) zb y_mthr := hmq
    clear hmq
    refine lv_istore (lv' := [(7, .int (iI zb)), (6, .int (iI z6)), (0, .ref b), (1, .ref (ad 0)), (2, .ref (am 0)), (3, .ref o), (4, .ref od), (5, .int (iI i))]) hx hb dL_law_1007 hl (by decide) rfl (fun ls hl => ?_)
    have hT : y_mthr = z6 := by
      rw [e0, rgM_0, ← rel_eg hch hr 20] at mq
      exact x_ask (fun x y hx hy => distP_uniq hx hy) kq kc mq
    have hI2 : LInv (n + 1) v hs sv pos cmd vals txt len hc hn hsv mal fai lnb lct ms msav misv mpast mpm mline mlm mtxt mlen merr mfail mcmd := by
      exact LI_q hn9 hI
    refine lv_aload_n hx hb dL_law_1009 rfl (lv_at hl 4 rfl) ?_
    refine zz_callVi_ch (As := []) (rest := []) (L := [xOut tA o og, xOud tA od dg, xMod tA am ms mbef msav misv mpast mpm y_mthr y_mways mnds mtkp mline mlm mtxt mlen mat mwr merr mfail mcmd mcm, xObj ad hsv mal fai, xOff tA ad v w_shrt grp w_seen tp shr need ordr size, xScr tA K ad pos cmd vals txt len, xHis tA ad hc hn hs, xBef tA ad bt, xSav tA ad sv, xLin tA ad lnb lml lct]) (Lc := [xMod tA am ms mbef msav misv mpast mpm y_mthr y_mways mnds mtkp mline mlm mtxt mlen mat mwr merr mfail mcmd mcm]) (Lr := [xOut tA o og, xOud tA od dg, xObj ad hsv mal fai, xOff tA ad v w_shrt grp w_seen tp shr need ordr size, xScr tA K ad pos cmd vals txt len, xHis tA ad hc hn hs, xBef tA ad bt, xSav tA ad sv, xLin tA ad lnb lml lct]) (Lc' := fun u => [xMod tA am ms mbef msav misv mpast mpm y_mthr y_mways mnds mtkp mline mlm mtxt mlen mat mwr merr mfail mcmd mcm]) (Lf := fun u => [xOut tA o og, xOud tA od dg, xMod tA am ms mbef msav misv mpast mpm y_mthr y_mways mnds mtkp mline mlm mtxt mlen mat mwr merr mfail mcmd mcm, xObj ad hsv mal fai, xOff tA ad v w_shrt grp w_seen tp shr need ordr size, xScr tA K ad pos cmd vals txt len, xHis tA ad hc hn hs, xBef tA ad bt, xSav tA ad sv, xLin tA ad lnb lml lct]) (is := [2, 0, 1, 3, 4, 5, 6, 7, 8, 9]) (isF := [0, 1, 9, 2, 3, 4, 5, 6, 7, 8]) ⟨hx, hb, hml, hown, hts⟩ (c_X11_thrown l D tA (am 0) (am 1) (am 2) (am 3) (am 4) (am 5) (am 6) (am 7) (am 8) (am 9) (am 10) H.size ms mbef msav misv mpast mpm y_mthr y_mways mnds mtkp mline mlm mtxt mlen mat mwr merr mfail mcmd mcm) (cwV 0 hts (gx_tbl gL_law_X11_thrown) rfl rfl rfl (by decide +kernel) ⟨Nat.le_of_ble_eq_true rfl, Nat.le_of_ble_eq_true rfl⟩) hK hP hD hS hA ⟨rfl, rfl, (by decide)⟩ ⟨fun _ => rfl, fun _ => rfl, (by decide)⟩ (ci := 13) (q0 := 0) rfl rfl rfl rfl rfl hl.1 (Nat.le_of_ble_eq_true rfl) dL_law_1010 (by show _ + 0 ≤ 603072 ∧ _ + 0 ≤ 7207018; omega) ?_
    intro zt u H locs hzt hP hD hS
    have hP : va_P D vwCl ([xOut tA o og, xOud tA od dg, xMod tA am ms mbef msav misv mpast mpm y_mthr y_mways mnds mtkp mline mlm mtxt mlen mat mwr merr mfail mcmd mcm, xObj ad hsv mal fai, xOff tA ad v w_shrt grp w_seen tp shr need ordr size, xScr tA K ad pos cmd vals txt len, xHis tA ad hc hn hs, xBef tA ad bt, xSav tA ad sv, xLin tA ad lnb lml lct]).flatten H := hP
    have hD : va_D (lwA s) ([xOut tA o og, xOud tA od dg, xMod tA am ms mbef msav misv mpast mpm y_mthr y_mways mnds mtkp mline mlm mtxt mlen mat mwr merr mfail mcmd mcm, xObj ad hsv mal fai, xOff tA ad v w_shrt grp w_seen tp shr need ordr size, xScr tA K ad pos cmd vals txt len, xHis tA ad hc hn hs, xBef tA ad bt, xSav tA ad sv, xLin tA ad lnb lml lct]).flatten := hD
    have hzt : zt = y_mthr := hzt
    have hz69 : 0 ≤ z6 ∧ z6 ≤ 9 := by omega
    refine lv_iload hx hb dL_law_1013 (lv_at hl 1 rfl) ?_
    refine zz_icmp_eq (tgt := 1020) hx hb dL_law_1015 (by decide) (by omega) (by omega) (fun _ => ?_) (fun c9 => absurd (by omega) c9)
    refine lv_iload hx hb dL_law_1020 (lv_at hl 1 rfl) ?_
    refine zz_if_ne (tgt := 1037) hx hb dL_law_1022 (by decide) (by omega) (fun _ => ?_) (fun c9 => absurd c9 (by omega))
    refine lv_goto (tgt := 2917) hx hb dL_law_1037 (by decide) ?_
    refine W.widen (k := k9 + 20) (n := n9 + 200) (by omega) (by omega) ?_
    exact kk v w_shrt grp w_seen tp shr need ordr size pos cmd vals txt len hc hn hs bt sv hsv mal fai lnb lml lct ms mbef msav misv mpast mpm y_mthr y_mways mnds mtkp mline mlm mtxt mlen mat mwr merr mfail mcmd mcm og dg _ _ _ hI2 hP hD hS (lv_sub hl [2, 3, 4, 5, 6, 7] rfl)

set_option maxHeartbeats 8000000 in
set_option maxRecDepth 100000 in
theorem law_c13 {p : Program} {l : Launch} (hst : l.stackTraces = false) {e : Env} {s : State} {m : MethodId} {below : List Frame} {meth : Method} {c : Code} {D : va_G} {tA : Nat → ClassId} {K : Nat → Nat} {b L : Nat} {xs : Nat → Int32} (hL : L ≤ 2560) (C0 : lw_At p s m meth c b L xs) (hK : zK D tA s) (hZ : zT K (lwA s) s) {ad am : Nat → Nat} {o od : Nat} {i n : Int} (hi : 0 ≤ i ∧ i + 5 ≤ L) (hn9 : n < 600) {k9 n9 : Nat} (hk9 : k9 + 20 ≤ 603072 ∧ n9 + 200 ≤ 7207018) {v : Nat → Int → Int} {shrt : Int → Int} {grp : Int → Int} {seen : Int → Int} {tp : Int → Int} {shr : Int → Int} {need : Int → Int} {ordr : Int → Int} {size : Int} {pos : Int} {cmd : Int} {vals : Int → Int} {txt : Int → Int} {len : Int} {hc : Int} {hn : Int} {hs : Nat → Nat → Int → Int} {bt : Nat → Int → Int} {sv : Nat → Int → Int} {hsv : Int} {mal : Int} {fai : Int} {lnb : Int → Int} {lml : Int} {lct : Int} {ms : Int → Int} {mbef : Int → Int} {msav : Int → Int} {misv : Int} {mpast : Int → Int} {mpm : Int} {mthr : Int} {mways : Int → Int} {mnds : Int → Int} {mtkp : Int → Int} {mline : Int → Int} {mlm : Int} {mtxt : Int → Int} {mlen : Int} {mat : Int} {mwr : Int} {merr : Int} {mfail : Int} {mcmd : Int → Int} {mcm : Int} {og : Int → Int} {dg : Nat → UInt64} {H : Heap} {locs : List Loc} {ls : Array Slot} (hI : LInv n v hs sv pos cmd vals txt len hc hn hsv mal fai lnb lct ms msav misv mpast mpm mline mlm mtxt mlen merr mfail mcmd) (hP : va_P D vwCl (xW tA K ad am o od v shrt grp seen tp shr need ordr size pos cmd vals txt len hc hn hs bt sv hsv mal fai lnb lml lct ms mbef msav misv mpast mpm mthr mways mnds mtkp mline mlm mtxt mlen mat mwr merr mfail mcmd mcm og dg).flatten H) (hD : va_D (lwA s) (xW tA K ad am o od v shrt grp seen tp shr need ordr size pos cmd vals txt len hc hn hs bt sv hsv mal fai lnb lml lct ms mbef msav misv mpast mpm mthr mways mnds mtkp mline mlm mtxt mlen mat mwr merr mfail mcmd mcm og dg).flatten) (hS : va_S (lwA s) s.heap H locs) (hl : lv_has ls 9 [(0, .ref b), (1, .ref (ad 0)), (2, .ref (am 0)), (3, .ref o), (4, .ref od), (5, .int (iI i))]) (kk : lwK p l e s m below meth c D tA K ad am o od b i n k9 n9) : W p l e room_1 s m #[Value.ref b] below meth c H locs k9 n9 (lw_Z below #[Value.ref b] s) (F0 m 1040 ls []) := by
  obtain ⟨hx, hb, hrt, hml, hown, hts, hX, hbl, hlocks, hgv⟩ := id C0
  have hts := lw_more hts
  have hA : ∀ q : Nat, s.heap.size ≤ q → lwA s q := fun _ h => h
  have hbA : ¬ lwA s b := Nat.not_le.mpr hbl
  have hCn := hZ.2.2.2
  obtain ⟨⟨n0, n6, l0, l6, ln⟩, hLS, ⟨hhn, hhc, hpm, hhi⟩, ⟨hsv01, hmis, hsvv, hsvr⟩, ⟨hlen, htxt, htx⟩, ⟨hlm, hln, hl0, hl16, hlb⟩, ⟨her, hfa, hm1, hm2, hf1, hf2⟩, ⟨hcd0, hcd1, hps0, hps1, hva⟩, hcr⟩ := id hI
  have hv := hLS.1
  have hr := hLS.2
  have hch : ChS v := hv.1
  have hu9 : ChW v := hv.2.1
  obtain ⟨-, -, hcc, hsp, hmo, hfog, hrg, hni, hfd, hmt9, hln9, hsum⟩ := SVk_out (show SVk _ _ (etS v) from hv)
  have hmv := rel_MV hv hr (by omega) (by omega)
  obtain ⟨e0, e1, e2, e3, e4, e5, e6⟩ := id hr.1
  have eE := rel_sE hch hr
  have hmon : ∀ j, 0 ≤ j → j < v 7 0 → 0 ≤ v 10 j ∧ v 10 j ≤ 6000000 := fun j j0 j1 => by have := hmo j j0 j1; omega
  have hlnd : ∀ j, 0 ≤ j → j < v 7 0 → (0 ≤ v 11 j ∧ v 11 j ≤ 600) ∧ (0 ≤ v 12 j ∧ v 12 j ≤ 600) := fun j j0 j1 => by have := hln9 j j0 j1; omega
  refine lv_aload_n hx hb dL_law_1040 rfl (lv_at hl 1 rfl) ?_
  refine lv_aload_n hx hb dL_law_1041 rfl (lv_at hl 0 rfl) ?_
  refine lv_iload hx hb dL_law_1042 (lv_at hl 5 rfl) ?_
  refine zz_iconst hx hb dL_law_1044 ?_
  refine zz_iadd hx hb dL_law_1045 ?_
  refine zz_sld hx hb hX hbl hbA hS (k := i + 1) (by omega) hL dL_law_1046 ?_
  refine lv_aload_n hx hb dL_law_1047 rfl (lv_at hl 0 rfl) ?_
  refine lv_iload hx hb dL_law_1048 (lv_at hl 5 rfl) ?_
  refine zz_iconst hx hb dL_law_1050 ?_
  refine zz_iadd hx hb dL_law_1051 ?_
  refine zz_sld hx hb hX hbl hbA hS (k := i + 2) (by omega) hL dL_law_1052 ?_
  refine lv_aload_n hx hb dL_law_1053 rfl (lv_at hl 3 rfl) ?_
  refine zh_callSi_ch (As := [.ref (ad 0), .int (iI (xz xs (i + 1))), .int (iI (xz xs (i + 2))), .ref o]) (rest := []) (L := [xOut tA o og, xOud tA od dg, xMod tA am ms mbef msav misv mpast mpm mthr mways mnds mtkp mline mlm mtxt mlen mat mwr merr mfail mcmd mcm, xObj ad hsv mal fai, xOff tA ad v shrt grp seen tp shr need ordr size, xScr tA K ad pos cmd vals txt len, xHis tA ad hc hn hs, xBef tA ad bt, xSav tA ad sv, xLin tA ad lnb lml lct]) (Lc := [xOut tA o og, xObj ad hsv mal fai, xOff tA ad v shrt grp seen tp shr need ordr size]) (Lr := [xOud tA od dg, xMod tA am ms mbef msav misv mpast mpm mthr mways mnds mtkp mline mlm mtxt mlen mat mwr merr mfail mcmd mcm, xScr tA K ad pos cmd vals txt len, xHis tA ad hc hn hs, xBef tA ad bt, xSav tA ad sv, xLin tA ad lnb lml lct]) (Lc' := fun u => Sum.elim (fun u => [xOut tA o (zU og 0 u.1), xObj ad hsv mal fai, xOff tA ad v u.2.1 grp u.2.2 tp shr need ordr size]) (fun u => [xOut tA o og, xObj ad hsv mal fai, xOff tA ad v u.2.1 grp u.2.2 tp shr need ordr size]) u) (Lf := fun u => Sum.elim (fun u => [xOut tA o (zU og 0 u.1), xOud tA od dg, xMod tA am ms mbef msav misv mpast mpm mthr mways mnds mtkp mline mlm mtxt mlen mat mwr merr mfail mcmd mcm, xObj ad hsv mal fai, xOff tA ad v u.2.1 grp u.2.2 tp shr need ordr size, xScr tA K ad pos cmd vals txt len, xHis tA ad hc hn hs, xBef tA ad bt, xSav tA ad sv, xLin tA ad lnb lml lct]) (fun u => [xOut tA o og, xOud tA od dg, xMod tA am ms mbef msav misv mpast mpm mthr mways mnds mtkp mline mlm mtxt mlen mat mwr merr mfail mcmd mcm, xObj ad hsv mal fai, xOff tA ad v u.2.1 grp u.2.2 tp shr need ordr size, xScr tA K ad pos cmd vals txt len, xHis tA ad hc hn hs, xBef tA ad bt, xSav tA ad sv, xLin tA ad lnb lml lct]) u) (is := [0, 3, 4, 1, 2, 5, 6, 7, 8, 9]) (isF := [7, 0, 1, 8, 9, 2, 3, 4, 5, 6]) ⟨hx, hb, hml, hown, hts⟩ (c_L_distanceByRounds l hst K D tA (ad 0) (ad 1) (ad 2) (ad 3) (ad 4) (ad 5) (ad 6) (ad 7) (ad 8) (ad 9) (ad 10) (ad 11) (ad 12) (ad 13) (ad 14) (ad 15) (ad 16) (ad 17) (ad 18) (ad 19) (ad 20) (ad 21) (ad 22) (ad 23) (ad 24) (ad 27) (ad 146) (ad 133) (ad 159) o H.size og (v 0 0) (v 1 0) (v 2) (v 3) (v 4) (v 5) (v 6) (v 7 0) (v 8) (v 9) (v 10) (v 11) (v 12) (v 13 0) (v 14 0) (v 15 0) (v 16 0) (v 17 0) (v 18 0) shrt grp seen tp shr need ordr size hsv mal fai  (xz xs (i + 1)) (xz xs (i + 2)) (xz_in _ _) (xz_in _ _) hch hu9) (vx_cwSW 4 hts (gx_wr gL_law_L_distanceByRounds) rfl rfl rfl (by decide +kernel) ⟨Nat.le_of_ble_eq_true rfl, Nat.le_of_ble_eq_true rfl⟩) hK hP hD hS hA hZ ⟨rfl, rfl, (by decide)⟩ ⟨fun u => by cases u <;> rfl, fun u => by cases u <;> rfl, (by decide)⟩ rfl rfl hl.1 (Nat.le_of_ble_eq_true rfl) dL_law_1054 (by show k9 + 2 ≤ 603072 ∧ n9 + 12 ≤ 7207018; omega) ?_
  intro z6 u H locs hq hP hD hS
  rcases u with ⟨zc, u⟩ | u
  · obtain ⟨w_shrt, w_seen⟩ := u
    obtain ⟨hz6, kq, hzr⟩ := hq
    have kq : inP (v 0 0) (xz xs (i + 1)) (xz xs (i + 2)) ∧ zc ≠ -1 ∧ distP (eg (v 1 0) (v 2) (v 3) (v 4) (v 5) 20) (xz xs (i + 1)) (xz xs (i + 2)) zc := kq
    have hz6 : z6 = 0 := hz6
    have hzr : -2147483648 ≤ zc ∧ zc ≤ 2147483647 := hzr
    have hP : va_P D vwCl ([xOut tA o (zU og 0 zc), xOud tA od dg, xMod tA am ms mbef msav misv mpast mpm mthr mways mnds mtkp mline mlm mtxt mlen mat mwr merr mfail mcmd mcm, xObj ad hsv mal fai, xOff tA ad v w_shrt grp w_seen tp shr need ordr size, xScr tA K ad pos cmd vals txt len, xHis tA ad hc hn hs, xBef tA ad bt, xSav tA ad sv, xLin tA ad lnb lml lct]).flatten H := hP
    have hD : va_D (lwA s) ([xOut tA o (zU og 0 zc), xOud tA od dg, xMod tA am ms mbef msav misv mpast mpm mthr mways mnds mtkp mline mlm mtxt mlen mat mwr merr mfail mcmd mcm, xObj ad hsv mal fai, xOff tA ad v w_shrt grp w_seen tp shr need ordr size, xScr tA K ad pos cmd vals txt len, xHis tA ad hc hn hs, xBef tA ad bt, xSav tA ad sv, xLin tA ad lnb lml lct]).flatten := hD
    refine lv_istore (lv' := [(6, .int (iI z6)), (0, .ref b), (1, .ref (ad 0)), (2, .ref (am 0)), (3, .ref o), (4, .ref od), (5, .int (iI i))]) hx hb dL_law_1057 hl (by decide) rfl (fun ls hl => ?_)
    refine lv_aload_n hx hb dL_law_1059 rfl (lv_at hl 3 rfl) ?_
    refine lv_aload_n hx hb dL_law_1060 rfl (lv_at hl 1 rfl) ?_
    refine lv_iload hx hb dL_law_1061 (lv_at hl 6 rfl) ?_
    refine zz_iconst hx hb dL_law_1063 ?_
    refine zz_iadd hx hb dL_law_1064 ?_
    refine zz_sld hx hb hX hbl hbA hS (k := i + 1) (by omega) hL dL_law_1065 ?_
    refine lv_aload_n hx hb dL_law_1066 rfl (lv_at hl 1 rfl) ?_
    refine lv_iload hx hb dL_law_1067 (lv_at hl 6 rfl) ?_
    refine zz_iconst hx hb dL_law_1069 ?_
    refine zz_iadd hx hb dL_law_1070 ?_
    refine zz_sld hx hb hX hbl hbA hS (k := i + 2) (by omega) hL dL_law_1071 ?_
    refine zz_callVi_ch (As := [.int (iI (xz xs (i + 1))), .int (iI (xz xs (i + 2)))]) (rest := []) (L := [xOut tA o (zU og 0 zc), xOud tA od dg, xMod tA am ms mbef msav misv mpast mpm mthr mways mnds mtkp mline mlm mtxt mlen mat mwr merr mfail mcmd mcm, xObj ad hsv mal fai, xOff tA ad v w_shrt grp w_seen tp shr need ordr size, xScr tA K ad pos cmd vals txt len, xHis tA ad hc hn hs, xBef tA ad bt, xSav tA ad sv, xLin tA ad lnb lml lct]) (Lc := [xMod tA am ms mbef msav misv mpast mpm mthr mways mnds mtkp mline mlm mtxt mlen mat mwr merr mfail mcmd mcm]) (Lr := [xOut tA o (zU og 0 zc), xOud tA od dg, xObj ad hsv mal fai, xOff tA ad v w_shrt grp w_seen tp shr need ordr size, xScr tA K ad pos cmd vals txt len, xHis tA ad hc hn hs, xBef tA ad bt, xSav tA ad sv, xLin tA ad lnb lml lct]) (Lc' := fun u => [xMod tA am ms mbef msav misv mpast mpm u.2 u.1 mnds mtkp mline mlm mtxt mlen mat mwr merr mfail mcmd mcm]) (Lf := fun u => [xOut tA o (zU og 0 zc), xOud tA od dg, xMod tA am ms mbef msav misv mpast mpm u.2 u.1 mnds mtkp mline mlm mtxt mlen mat mwr merr mfail mcmd mcm, xObj ad hsv mal fai, xOff tA ad v w_shrt grp w_seen tp shr need ordr size, xScr tA K ad pos cmd vals txt len, xHis tA ad hc hn hs, xBef tA ad bt, xSav tA ad sv, xLin tA ad lnb lml lct]) (is := [2, 0, 1, 3, 4, 5, 6, 7, 8, 9]) (isF := [0, 1, 9, 2, 3, 4, 5, 6, 7, 8]) ⟨hx, hb, hml, hown, hts⟩ (c_X11_distanceByRounds l D tA (am 0) (am 1) (am 2) (am 3) (am 4) (am 5) (am 6) (am 7) (am 8) (am 9) (am 10) H.size ms mbef msav misv mpast mpm mthr mways mnds mtkp mline mlm mtxt mlen mat mwr merr mfail mcmd mcm (xz xs (i + 1)) (xz xs (i + 2)) (xz_in _ _) (xz_in _ _) hmv.1) (cwV 2 hts (gx_tbl gL_law_X11_distanceByRounds) rfl rfl rfl (by decide +kernel) ⟨Nat.le_of_ble_eq_true rfl, Nat.le_of_ble_eq_true rfl⟩) hK hP hD hS hA ⟨rfl, rfl, (by decide)⟩ ⟨fun _ => rfl, fun _ => rfl, (by decide)⟩ (ci := 13) (q0 := 0) rfl rfl rfl rfl rfl hl.1 (Nat.le_of_ble_eq_true rfl) dL_law_1072 (by show _ + 0 ≤ 603072 ∧ _ + 0 ≤ 7207018; omega) ?_
    intro zb u H locs hmq hP hD hS
    obtain ⟨y_mways, y_mthr⟩ := u
    have hP : va_P D vwCl ([xOut tA o (zU og 0 zc), xOud tA od dg, xMod tA am ms mbef msav misv mpast mpm y_mthr y_mways mnds mtkp mline mlm mtxt mlen mat mwr merr mfail mcmd mcm, xObj ad hsv mal fai, xOff tA ad v w_shrt grp w_seen tp shr need ordr size, xScr tA K ad pos cmd vals txt len, xHis tA ad hc hn hs, xBef tA ad bt, xSav tA ad sv, xLin tA ad lnb lml lct]).flatten H := hP
    have hD : va_D (lwA s) ([xOut tA o (zU og 0 zc), xOud tA od dg, xMod tA am ms mbef msav misv mpast mpm y_mthr y_mways mnds mtkp mline mlm mtxt mlen mat mwr merr mfail mcmd mcm, xObj ad hsv mal fai, xOff tA ad v w_shrt grp w_seen tp shr need ordr size, xScr tA K ad pos cmd vals txt len, xHis tA ad hc hn hs, xBef tA ad bt, xSav tA ad sv, xLin tA ad lnb lml lct]).flatten := hD
    have mq : askP (inP (ms 0) (xz xs (i + 1)) (xz xs (i + 2))) (distP (egM ms (rgM ms 0)) (xz xs (i + 1)) (xz xs (i + 2))) zb y_mthr := hmq
    clear hmq
    refine lv_istore (lv' := [(7, .int (iI zb)), (6, .int (iI z6)), (0, .ref b), (1, .ref (ad 0)), (2, .ref (am 0)), (3, .ref o), (4, .ref od), (5, .int (iI i))]) hx hb dL_law_1075 hl (by decide) rfl (fun ls hl => ?_)
    have hTV : y_mthr = 0 ∧ zb = zc := by
      rw [e0, rgM_0, ← rel_eg hch hr 20] at mq
      exact q_ask (fun x y hx hy => distP_uniq hx hy) kq mq
    have hT : y_mthr = z6 := hTV.1.trans hz6.symm
    have hI2 : LInv (n + 1) v hs sv pos cmd vals txt len hc hn hsv mal fai lnb lct ms msav misv mpast mpm mline mlm mtxt mlen merr mfail mcmd := by
      exact LI_q hn9 hI
    refine lv_aload_n hx hb dL_law_1077 rfl (lv_at hl 4 rfl) ?_
    refine zz_callVi_ch (As := []) (rest := []) (L := [xOut tA o (zU og 0 zc), xOud tA od dg, xMod tA am ms mbef msav misv mpast mpm y_mthr y_mways mnds mtkp mline mlm mtxt mlen mat mwr merr mfail mcmd mcm, xObj ad hsv mal fai, xOff tA ad v w_shrt grp w_seen tp shr need ordr size, xScr tA K ad pos cmd vals txt len, xHis tA ad hc hn hs, xBef tA ad bt, xSav tA ad sv, xLin tA ad lnb lml lct]) (Lc := [xMod tA am ms mbef msav misv mpast mpm y_mthr y_mways mnds mtkp mline mlm mtxt mlen mat mwr merr mfail mcmd mcm]) (Lr := [xOut tA o (zU og 0 zc), xOud tA od dg, xObj ad hsv mal fai, xOff tA ad v w_shrt grp w_seen tp shr need ordr size, xScr tA K ad pos cmd vals txt len, xHis tA ad hc hn hs, xBef tA ad bt, xSav tA ad sv, xLin tA ad lnb lml lct]) (Lc' := fun u => [xMod tA am ms mbef msav misv mpast mpm y_mthr y_mways mnds mtkp mline mlm mtxt mlen mat mwr merr mfail mcmd mcm]) (Lf := fun u => [xOut tA o (zU og 0 zc), xOud tA od dg, xMod tA am ms mbef msav misv mpast mpm y_mthr y_mways mnds mtkp mline mlm mtxt mlen mat mwr merr mfail mcmd mcm, xObj ad hsv mal fai, xOff tA ad v w_shrt grp w_seen tp shr need ordr size, xScr tA K ad pos cmd vals txt len, xHis tA ad hc hn hs, xBef tA ad bt, xSav tA ad sv, xLin tA ad lnb lml lct]) (is := [2, 0, 1, 3, 4, 5, 6, 7, 8, 9]) (isF := [0, 1, 9, 2, 3, 4, 5, 6, 7, 8]) ⟨hx, hb, hml, hown, hts⟩ (c_X11_thrown l D tA (am 0) (am 1) (am 2) (am 3) (am 4) (am 5) (am 6) (am 7) (am 8) (am 9) (am 10) H.size ms mbef msav misv mpast mpm y_mthr y_mways mnds mtkp mline mlm mtxt mlen mat mwr merr mfail mcmd mcm) (cwV 0 hts (gx_tbl gL_law_X11_thrown) rfl rfl rfl (by decide +kernel) ⟨Nat.le_of_ble_eq_true rfl, Nat.le_of_ble_eq_true rfl⟩) hK hP hD hS hA ⟨rfl, rfl, (by decide)⟩ ⟨fun _ => rfl, fun _ => rfl, (by decide)⟩ (ci := 13) (q0 := 0) rfl rfl rfl rfl rfl hl.1 (Nat.le_of_ble_eq_true rfl) dL_law_1078 (by show _ + 0 ≤ 603072 ∧ _ + 0 ≤ 7207018; omega) ?_
    intro zt u H locs hzt hP hD hS
    have hP : va_P D vwCl ([xOut tA o (zU og 0 zc), xOud tA od dg, xMod tA am ms mbef msav misv mpast mpm y_mthr y_mways mnds mtkp mline mlm mtxt mlen mat mwr merr mfail mcmd mcm, xObj ad hsv mal fai, xOff tA ad v w_shrt grp w_seen tp shr need ordr size, xScr tA K ad pos cmd vals txt len, xHis tA ad hc hn hs, xBef tA ad bt, xSav tA ad sv, xLin tA ad lnb lml lct]).flatten H := hP
    have hD : va_D (lwA s) ([xOut tA o (zU og 0 zc), xOud tA od dg, xMod tA am ms mbef msav misv mpast mpm y_mthr y_mways mnds mtkp mline mlm mtxt mlen mat mwr merr mfail mcmd mcm, xObj ad hsv mal fai, xOff tA ad v w_shrt grp w_seen tp shr need ordr size, xScr tA K ad pos cmd vals txt len, xHis tA ad hc hn hs, xBef tA ad bt, xSav tA ad sv, xLin tA ad lnb lml lct]).flatten := hD
    have hzt : zt = y_mthr := hzt
    have hz69 : 0 ≤ z6 ∧ z6 ≤ 9 := by omega
    refine lv_iload hx hb dL_law_1081 (lv_at hl 1 rfl) ?_
    refine zz_icmp_eq (tgt := 1088) hx hb dL_law_1083 (by decide) (by omega) (by omega) (fun _ => ?_) (fun c9 => absurd (by omega) c9)
    refine lv_iload hx hb dL_law_1088 (lv_at hl 1 rfl) ?_
    refine zz_if_ne (tgt := 1105) hx hb dL_law_1090 (by decide) (by omega) (fun c9 => absurd hz6 c9) (fun _ => ?_)
    refine lv_aload_n hx hb dL_law_1093 rfl (lv_at hl 5 rfl) ?_
    refine zz_iconst hx hb dL_law_1094 ?_
    refine zz_lald hx hb hK hP 0 rfl (by decide) (by decide) dL_law_1095 ?_
    rw [zU_same]
    refine lv_iload hx hb dL_law_1096 (lv_at hl 0 rfl) ?_
    refine zz_i2l hx hb dL_law_1098 (by omega) ?_
    rw [hTV.2]
    refine zz_lcmp hx hb dL_law_1099 (by omega) (by omega) ?_
    rw [cmpZ_s]
    refine zz_if_eq (tgt := 1105) hx hb dL_law_1100 (by decide) (by decide) (fun _ => ?_) (fun c9 => absurd rfl c9)
    refine lv_goto (tgt := 2917) hx hb dL_law_1105 (by decide) ?_
    refine W.widen (k := k9 + 20) (n := n9 + 200) (by omega) (by omega) ?_
    exact kk v w_shrt grp w_seen tp shr need ordr size pos cmd vals txt len hc hn hs bt sv hsv mal fai lnb lml lct ms mbef msav misv mpast mpm y_mthr y_mways mnds mtkp mline mlm mtxt mlen mat mwr merr mfail mcmd mcm (zU og 0 zc) dg _ _ _ hI2 hP hD hS (lv_sub hl [2, 3, 4, 5, 6, 7] rfl)
  · obtain ⟨kx, w_shrt, w_seen⟩ := u
    have kq : (kx = 1 ∧ ¬ inP (v 0 0) (xz xs (i + 1)) (xz xs (i + 2))) ∨ (kx = 4 ∧ inP (v 0 0) (xz xs (i + 1)) (xz xs (i + 2)) ∧ distP (eg (v 1 0) (v 2) (v 3) (v 4) (v 5) 20) (xz xs (i + 1)) (xz xs (i + 2)) (-1)) := hq.1
    have kc : (kx = 1 ∧ z6 = 1) ∨ (kx = 4 ∧ z6 = 2) := hq.2
    have hP : va_P D vwCl ([xOut tA o og, xOud tA od dg, xMod tA am ms mbef msav misv mpast mpm mthr mways mnds mtkp mline mlm mtxt mlen mat mwr merr mfail mcmd mcm, xObj ad hsv mal fai, xOff tA ad v w_shrt grp w_seen tp shr need ordr size, xScr tA K ad pos cmd vals txt len, xHis tA ad hc hn hs, xBef tA ad bt, xSav tA ad sv, xLin tA ad lnb lml lct]).flatten H := hP
    have hD : va_D (lwA s) ([xOut tA o og, xOud tA od dg, xMod tA am ms mbef msav misv mpast mpm mthr mways mnds mtkp mline mlm mtxt mlen mat mwr merr mfail mcmd mcm, xObj ad hsv mal fai, xOff tA ad v w_shrt grp w_seen tp shr need ordr size, xScr tA K ad pos cmd vals txt len, xHis tA ad hc hn hs, xBef tA ad bt, xSav tA ad sv, xLin tA ad lnb lml lct]).flatten := hD
    refine lv_istore (lv' := [(6, .int (iI z6)), (0, .ref b), (1, .ref (ad 0)), (2, .ref (am 0)), (3, .ref o), (4, .ref od), (5, .int (iI i))]) hx hb dL_law_1057 hl (by decide) rfl (fun ls hl => ?_)
    refine lv_aload_n hx hb dL_law_1059 rfl (lv_at hl 3 rfl) ?_
    refine lv_aload_n hx hb dL_law_1060 rfl (lv_at hl 1 rfl) ?_
    refine lv_iload hx hb dL_law_1061 (lv_at hl 6 rfl) ?_
    refine zz_iconst hx hb dL_law_1063 ?_
    refine zz_iadd hx hb dL_law_1064 ?_
    refine zz_sld hx hb hX hbl hbA hS (k := i + 1) (by omega) hL dL_law_1065 ?_
    refine lv_aload_n hx hb dL_law_1066 rfl (lv_at hl 1 rfl) ?_
    refine lv_iload hx hb dL_law_1067 (lv_at hl 6 rfl) ?_
    refine zz_iconst hx hb dL_law_1069 ?_
    refine zz_iadd hx hb dL_law_1070 ?_
    refine zz_sld hx hb hX hbl hbA hS (k := i + 2) (by omega) hL dL_law_1071 ?_
    refine zz_callVi_ch (As := [.int (iI (xz xs (i + 1))), .int (iI (xz xs (i + 2)))]) (rest := []) (L := [xOut tA o og, xOud tA od dg, xMod tA am ms mbef msav misv mpast mpm mthr mways mnds mtkp mline mlm mtxt mlen mat mwr merr mfail mcmd mcm, xObj ad hsv mal fai, xOff tA ad v w_shrt grp w_seen tp shr need ordr size, xScr tA K ad pos cmd vals txt len, xHis tA ad hc hn hs, xBef tA ad bt, xSav tA ad sv, xLin tA ad lnb lml lct]) (Lc := [xMod tA am ms mbef msav misv mpast mpm mthr mways mnds mtkp mline mlm mtxt mlen mat mwr merr mfail mcmd mcm]) (Lr := [xOut tA o og, xOud tA od dg, xObj ad hsv mal fai, xOff tA ad v w_shrt grp w_seen tp shr need ordr size, xScr tA K ad pos cmd vals txt len, xHis tA ad hc hn hs, xBef tA ad bt, xSav tA ad sv, xLin tA ad lnb lml lct]) (Lc' := fun u => [xMod tA am ms mbef msav misv mpast mpm u.2 u.1 mnds mtkp mline mlm mtxt mlen mat mwr merr mfail mcmd mcm]) (Lf := fun u => [xOut tA o og, xOud tA od dg, xMod tA am ms mbef msav misv mpast mpm u.2 u.1 mnds mtkp mline mlm mtxt mlen mat mwr merr mfail mcmd mcm, xObj ad hsv mal fai, xOff tA ad v w_shrt grp w_seen tp shr need ordr size, xScr tA K ad pos cmd vals txt len, xHis tA ad hc hn hs, xBef tA ad bt, xSav tA ad sv, xLin tA ad lnb lml lct]) (is := [2, 0, 1, 3, 4, 5, 6, 7, 8, 9]) (isF := [0, 1, 9, 2, 3, 4, 5, 6, 7, 8]) ⟨hx, hb, hml, hown, hts⟩ (c_X11_distanceByRounds l D tA (am 0) (am 1) (am 2) (am 3) (am 4) (am 5) (am 6) (am 7) (am 8) (am 9) (am 10) H.size ms mbef msav misv mpast mpm mthr mways mnds mtkp mline mlm mtxt mlen mat mwr merr mfail mcmd mcm (xz xs (i + 1)) (xz xs (i + 2)) (xz_in _ _) (xz_in _ _) hmv.1) (cwV 2 hts (gx_tbl gL_law_X11_distanceByRounds) rfl rfl rfl (by decide +kernel) ⟨Nat.le_of_ble_eq_true rfl, Nat.le_of_ble_eq_true rfl⟩) hK hP hD hS hA ⟨rfl, rfl, (by decide)⟩ ⟨fun _ => rfl, fun _ => rfl, (by decide)⟩ (ci := 13) (q0 := 0) rfl rfl rfl rfl rfl hl.1 (Nat.le_of_ble_eq_true rfl) dL_law_1072 (by show _ + 0 ≤ 603072 ∧ _ + 0 ≤ 7207018; omega) ?_
    intro zb u H locs hmq hP hD hS
    obtain ⟨y_mways, y_mthr⟩ := u
    have hP : va_P D vwCl ([xOut tA o og, xOud tA od dg, xMod tA am ms mbef msav misv mpast mpm y_mthr y_mways mnds mtkp mline mlm mtxt mlen mat mwr merr mfail mcmd mcm, xObj ad hsv mal fai, xOff tA ad v w_shrt grp w_seen tp shr need ordr size, xScr tA K ad pos cmd vals txt len, xHis tA ad hc hn hs, xBef tA ad bt, xSav tA ad sv, xLin tA ad lnb lml lct]).flatten H := hP
    have hD : va_D (lwA s) ([xOut tA o og, xOud tA od dg, xMod tA am ms mbef msav misv mpast mpm y_mthr y_mways mnds mtkp mline mlm mtxt mlen mat mwr merr mfail mcmd mcm, xObj ad hsv mal fai, xOff tA ad v w_shrt grp w_seen tp shr need ordr size, xScr tA K ad pos cmd vals txt len, xHis tA ad hc hn hs, xBef tA ad bt, xSav tA ad sv, xLin tA ad lnb lml lct]).flatten := hD
    have mq : askP (inP (ms 0) (xz xs (i + 1)) (xz xs (i + 2))) (distP (egM ms (rgM ms 0)) (xz xs (i + 1)) (xz xs (i + 2))) zb y_mthr := hmq
    clear hmq
    refine lv_istore (lv' := [(7, .int (iI zb)), (6, .int (iI z6)), (0, .ref b), (1, .ref (ad 0)), (2, .ref (am 0)), (3, .ref o), (4, .ref od), (5, .int (iI i))]) hx hb dL_law_1075 hl (by decide) rfl (fun ls hl => ?_)
    have hT : y_mthr = z6 := by
      rw [e0, rgM_0, ← rel_eg hch hr 20] at mq
      exact x_ask (fun x y hx hy => distP_uniq hx hy) kq kc mq
    have hI2 : LInv (n + 1) v hs sv pos cmd vals txt len hc hn hsv mal fai lnb lct ms msav misv mpast mpm mline mlm mtxt mlen merr mfail mcmd := by
      exact LI_q hn9 hI
    refine lv_aload_n hx hb dL_law_1077 rfl (lv_at hl 4 rfl) ?_
    refine zz_callVi_ch (As := []) (rest := []) (L := [xOut tA o og, xOud tA od dg, xMod tA am ms mbef msav misv mpast mpm y_mthr y_mways mnds mtkp mline mlm mtxt mlen mat mwr merr mfail mcmd mcm, xObj ad hsv mal fai, xOff tA ad v w_shrt grp w_seen tp shr need ordr size, xScr tA K ad pos cmd vals txt len, xHis tA ad hc hn hs, xBef tA ad bt, xSav tA ad sv, xLin tA ad lnb lml lct]) (Lc := [xMod tA am ms mbef msav misv mpast mpm y_mthr y_mways mnds mtkp mline mlm mtxt mlen mat mwr merr mfail mcmd mcm]) (Lr := [xOut tA o og, xOud tA od dg, xObj ad hsv mal fai, xOff tA ad v w_shrt grp w_seen tp shr need ordr size, xScr tA K ad pos cmd vals txt len, xHis tA ad hc hn hs, xBef tA ad bt, xSav tA ad sv, xLin tA ad lnb lml lct]) (Lc' := fun u => [xMod tA am ms mbef msav misv mpast mpm y_mthr y_mways mnds mtkp mline mlm mtxt mlen mat mwr merr mfail mcmd mcm]) (Lf := fun u => [xOut tA o og, xOud tA od dg, xMod tA am ms mbef msav misv mpast mpm y_mthr y_mways mnds mtkp mline mlm mtxt mlen mat mwr merr mfail mcmd mcm, xObj ad hsv mal fai, xOff tA ad v w_shrt grp w_seen tp shr need ordr size, xScr tA K ad pos cmd vals txt len, xHis tA ad hc hn hs, xBef tA ad bt, xSav tA ad sv, xLin tA ad lnb lml lct]) (is := [2, 0, 1, 3, 4, 5, 6, 7, 8, 9]) (isF := [0, 1, 9, 2, 3, 4, 5, 6, 7, 8]) ⟨hx, hb, hml, hown, hts⟩ (c_X11_thrown l D tA (am 0) (am 1) (am 2) (am 3) (am 4) (am 5) (am 6) (am 7) (am 8) (am 9) (am 10) H.size ms mbef msav misv mpast mpm y_mthr y_mways mnds mtkp mline mlm mtxt mlen mat mwr merr mfail mcmd mcm) (cwV 0 hts (gx_tbl gL_law_X11_thrown) rfl rfl rfl (by decide +kernel) ⟨Nat.le_of_ble_eq_true rfl, Nat.le_of_ble_eq_true rfl⟩) hK hP hD hS hA ⟨rfl, rfl, (by decide)⟩ ⟨fun _ => rfl, fun _ => rfl, (by decide)⟩ (ci := 13) (q0 := 0) rfl rfl rfl rfl rfl hl.1 (Nat.le_of_ble_eq_true rfl) dL_law_1078 (by show _ + 0 ≤ 603072 ∧ _ + 0 ≤ 7207018; omega) ?_
    intro zt u H locs hzt hP hD hS
    have hP : va_P D vwCl ([xOut tA o og, xOud tA od dg, xMod tA am ms mbef msav misv mpast mpm y_mthr y_mways mnds mtkp mline mlm mtxt mlen mat mwr merr mfail mcmd mcm, xObj ad hsv mal fai, xOff tA ad v w_shrt grp w_seen tp shr need ordr size, xScr tA K ad pos cmd vals txt len, xHis tA ad hc hn hs, xBef tA ad bt, xSav tA ad sv, xLin tA ad lnb lml lct]).flatten H := hP
    have hD : va_D (lwA s) ([xOut tA o og, xOud tA od dg, xMod tA am ms mbef msav misv mpast mpm y_mthr y_mways mnds mtkp mline mlm mtxt mlen mat mwr merr mfail mcmd mcm, xObj ad hsv mal fai, xOff tA ad v w_shrt grp w_seen tp shr need ordr size, xScr tA K ad pos cmd vals txt len, xHis tA ad hc hn hs, xBef tA ad bt, xSav tA ad sv, xLin tA ad lnb lml lct]).flatten := hD
    have hzt : zt = y_mthr := hzt
    have hz69 : 0 ≤ z6 ∧ z6 ≤ 9 := by omega
    refine lv_iload hx hb dL_law_1081 (lv_at hl 1 rfl) ?_
    refine zz_icmp_eq (tgt := 1088) hx hb dL_law_1083 (by decide) (by omega) (by omega) (fun _ => ?_) (fun c9 => absurd (by omega) c9)
    refine lv_iload hx hb dL_law_1088 (lv_at hl 1 rfl) ?_
    refine zz_if_ne (tgt := 1105) hx hb dL_law_1090 (by decide) (by omega) (fun _ => ?_) (fun c9 => absurd c9 (by omega))
    refine lv_goto (tgt := 2917) hx hb dL_law_1105 (by decide) ?_
    refine W.widen (k := k9 + 20) (n := n9 + 200) (by omega) (by omega) ?_
    exact kk v w_shrt grp w_seen tp shr need ordr size pos cmd vals txt len hc hn hs bt sv hsv mal fai lnb lml lct ms mbef msav misv mpast mpm y_mthr y_mways mnds mtkp mline mlm mtxt mlen mat mwr merr mfail mcmd mcm og dg _ _ _ hI2 hP hD hS (lv_sub hl [2, 3, 4, 5, 6, 7] rfl)

set_option maxHeartbeats 8000000 in
set_option maxRecDepth 100000 in
theorem law_c14 {p : Program} {l : Launch} (hst : l.stackTraces = false) {e : Env} {s : State} {m : MethodId} {below : List Frame} {meth : Method} {c : Code} {D : va_G} {tA : Nat → ClassId} {K : Nat → Nat} {b L : Nat} {xs : Nat → Int32} (hL : L ≤ 2560) (C0 : lw_At p s m meth c b L xs) (hK : zK D tA s) (hZ : zT K (lwA s) s) {ad am : Nat → Nat} {o od : Nat} {i n : Int} (hi : 0 ≤ i ∧ i + 5 ≤ L) (hn9 : n < 600) {k9 n9 : Nat} (hk9 : k9 + 20 ≤ 603072 ∧ n9 + 200 ≤ 7207018) {v : Nat → Int → Int} {shrt : Int → Int} {grp : Int → Int} {seen : Int → Int} {tp : Int → Int} {shr : Int → Int} {need : Int → Int} {ordr : Int → Int} {size : Int} {pos : Int} {cmd : Int} {vals : Int → Int} {txt : Int → Int} {len : Int} {hc : Int} {hn : Int} {hs : Nat → Nat → Int → Int} {bt : Nat → Int → Int} {sv : Nat → Int → Int} {hsv : Int} {mal : Int} {fai : Int} {lnb : Int → Int} {lml : Int} {lct : Int} {ms : Int → Int} {mbef : Int → Int} {msav : Int → Int} {misv : Int} {mpast : Int → Int} {mpm : Int} {mthr : Int} {mways : Int → Int} {mnds : Int → Int} {mtkp : Int → Int} {mline : Int → Int} {mlm : Int} {mtxt : Int → Int} {mlen : Int} {mat : Int} {mwr : Int} {merr : Int} {mfail : Int} {mcmd : Int → Int} {mcm : Int} {og : Int → Int} {dg : Nat → UInt64} {H : Heap} {locs : List Loc} {ls : Array Slot} (hI : LInv n v hs sv pos cmd vals txt len hc hn hsv mal fai lnb lct ms msav misv mpast mpm mline mlm mtxt mlen merr mfail mcmd) (hP : va_P D vwCl (xW tA K ad am o od v shrt grp seen tp shr need ordr size pos cmd vals txt len hc hn hs bt sv hsv mal fai lnb lml lct ms mbef msav misv mpast mpm mthr mways mnds mtkp mline mlm mtxt mlen mat mwr merr mfail mcmd mcm og dg).flatten H) (hD : va_D (lwA s) (xW tA K ad am o od v shrt grp seen tp shr need ordr size pos cmd vals txt len hc hn hs bt sv hsv mal fai lnb lml lct ms mbef msav misv mpast mpm mthr mways mnds mtkp mline mlm mtxt mlen mat mwr merr mfail mcmd mcm og dg).flatten) (hS : va_S (lwA s) s.heap H locs) (hl : lv_has ls 9 [(0, .ref b), (1, .ref (ad 0)), (2, .ref (am 0)), (3, .ref o), (4, .ref od), (5, .int (iI i))]) (kk : lwK p l e s m below meth c D tA K ad am o od b i n k9 n9) : W p l e room_1 s m #[Value.ref b] below meth c H locs k9 n9 (lw_Z below #[Value.ref b] s) (F0 m 1108 ls []) := by
  obtain ⟨hx, hb, hrt, hml, hown, hts, hX, hbl, hlocks, hgv⟩ := id C0
  have hts := lw_more hts
  have hA : ∀ q : Nat, s.heap.size ≤ q → lwA s q := fun _ h => h
  have hbA : ¬ lwA s b := Nat.not_le.mpr hbl
  have hCn := hZ.2.2.2
  obtain ⟨⟨n0, n6, l0, l6, ln⟩, hLS, ⟨hhn, hhc, hpm, hhi⟩, ⟨hsv01, hmis, hsvv, hsvr⟩, ⟨hlen, htxt, htx⟩, ⟨hlm, hln, hl0, hl16, hlb⟩, ⟨her, hfa, hm1, hm2, hf1, hf2⟩, ⟨hcd0, hcd1, hps0, hps1, hva⟩, hcr⟩ := id hI
  have hv := hLS.1
  have hr := hLS.2
  have hch : ChS v := hv.1
  have hu9 : ChW v := hv.2.1
  obtain ⟨-, -, hcc, hsp, hmo, hfog, hrg, hni, hfd, hmt9, hln9, hsum⟩ := SVk_out (show SVk _ _ (etS v) from hv)
  have hmv := rel_MV hv hr (by omega) (by omega)
  obtain ⟨e0, e1, e2, e3, e4, e5, e6⟩ := id hr.1
  have eE := rel_sE hch hr
  have hmon : ∀ j, 0 ≤ j → j < v 7 0 → 0 ≤ v 10 j ∧ v 10 j ≤ 6000000 := fun j j0 j1 => by have := hmo j j0 j1; omega
  have hlnd : ∀ j, 0 ≤ j → j < v 7 0 → (0 ≤ v 11 j ∧ v 11 j ≤ 600) ∧ (0 ≤ v 12 j ∧ v 12 j ≤ 600) := fun j j0 j1 => by have := hln9 j j0 j1; omega
  refine lv_aload_n hx hb dL_law_1108 rfl (lv_at hl 1 rfl) ?_
  refine lv_aload_n hx hb dL_law_1109 rfl (lv_at hl 0 rfl) ?_
  refine lv_iload hx hb dL_law_1110 (lv_at hl 5 rfl) ?_
  refine zz_iconst hx hb dL_law_1112 ?_
  refine zz_iadd hx hb dL_law_1113 ?_
  refine zz_sld hx hb hX hbl hbA hS (k := i + 1) (by omega) hL dL_law_1114 ?_
  refine lv_aload_n hx hb dL_law_1115 rfl (lv_at hl 0 rfl) ?_
  refine lv_iload hx hb dL_law_1116 (lv_at hl 5 rfl) ?_
  refine zz_iconst hx hb dL_law_1118 ?_
  refine zz_iadd hx hb dL_law_1119 ?_
  refine zz_sld hx hb hX hbl hbA hS (k := i + 2) (by omega) hL dL_law_1120 ?_
  refine lv_aload_n hx hb dL_law_1121 rfl (lv_at hl 3 rfl) ?_
  refine zh_callSi_ch (As := [.ref (ad 0), .int (iI (xz xs (i + 1))), .int (iI (xz xs (i + 2))), .ref o]) (rest := []) (L := [xOut tA o og, xOud tA od dg, xMod tA am ms mbef msav misv mpast mpm mthr mways mnds mtkp mline mlm mtxt mlen mat mwr merr mfail mcmd mcm, xObj ad hsv mal fai, xOff tA ad v shrt grp seen tp shr need ordr size, xScr tA K ad pos cmd vals txt len, xHis tA ad hc hn hs, xBef tA ad bt, xSav tA ad sv, xLin tA ad lnb lml lct]) (Lc := [xOut tA o og, xObj ad hsv mal fai, xOff tA ad v shrt grp seen tp shr need ordr size]) (Lr := [xOud tA od dg, xMod tA am ms mbef msav misv mpast mpm mthr mways mnds mtkp mline mlm mtxt mlen mat mwr merr mfail mcmd mcm, xScr tA K ad pos cmd vals txt len, xHis tA ad hc hn hs, xBef tA ad bt, xSav tA ad sv, xLin tA ad lnb lml lct]) (Lc' := fun u => Sum.elim (fun u => [xOut tA o (zU og 0 u.1), xObj ad hsv mal fai, xOff tA ad v u.2.1 grp u.2.2 tp shr need ordr size]) (fun u => [xOut tA o og, xObj ad hsv mal fai, xOff tA ad v u.2.1 grp u.2.2 tp shr need ordr size]) u) (Lf := fun u => Sum.elim (fun u => [xOut tA o (zU og 0 u.1), xOud tA od dg, xMod tA am ms mbef msav misv mpast mpm mthr mways mnds mtkp mline mlm mtxt mlen mat mwr merr mfail mcmd mcm, xObj ad hsv mal fai, xOff tA ad v u.2.1 grp u.2.2 tp shr need ordr size, xScr tA K ad pos cmd vals txt len, xHis tA ad hc hn hs, xBef tA ad bt, xSav tA ad sv, xLin tA ad lnb lml lct]) (fun u => [xOut tA o og, xOud tA od dg, xMod tA am ms mbef msav misv mpast mpm mthr mways mnds mtkp mline mlm mtxt mlen mat mwr merr mfail mcmd mcm, xObj ad hsv mal fai, xOff tA ad v u.2.1 grp u.2.2 tp shr need ordr size, xScr tA K ad pos cmd vals txt len, xHis tA ad hc hn hs, xBef tA ad bt, xSav tA ad sv, xLin tA ad lnb lml lct]) u) (is := [0, 3, 4, 1, 2, 5, 6, 7, 8, 9]) (isF := [7, 0, 1, 8, 9, 2, 3, 4, 5, 6]) ⟨hx, hb, hml, hown, hts⟩ (c_L_litDistance l hst K D tA (ad 0) (ad 1) (ad 2) (ad 3) (ad 4) (ad 5) (ad 6) (ad 7) (ad 8) (ad 9) (ad 10) (ad 11) (ad 12) (ad 13) (ad 14) (ad 15) (ad 16) (ad 17) (ad 18) (ad 19) (ad 20) (ad 21) (ad 22) (ad 23) (ad 24) (ad 27) (ad 146) (ad 133) (ad 159) o H.size og (v 0 0) (v 1 0) (v 2) (v 3) (v 4) (v 5) (v 6) (v 7 0) (v 8) (v 9) (v 10) (v 11) (v 12) (v 13 0) (v 14 0) (v 15 0) (v 16 0) (v 17 0) (v 18 0) shrt grp seen tp shr need ordr size hsv mal fai  (xz xs (i + 1)) (xz xs (i + 2)) (xz_in _ _) (xz_in _ _) hch hrg) (vx_cwSW 4 hts (gx_wr gL_law_L_litDistance) rfl rfl rfl (by decide +kernel) ⟨Nat.le_of_ble_eq_true rfl, Nat.le_of_ble_eq_true rfl⟩) hK hP hD hS hA hZ ⟨rfl, rfl, (by decide)⟩ ⟨fun u => by cases u <;> rfl, fun u => by cases u <;> rfl, (by decide)⟩ rfl rfl hl.1 (Nat.le_of_ble_eq_true rfl) dL_law_1122 (by show k9 + 2 ≤ 603072 ∧ n9 + 12 ≤ 7207018; omega) ?_
  intro z6 u H locs hq hP hD hS
  rcases u with ⟨zc, u⟩ | u
  · obtain ⟨w_shrt, w_seen⟩ := u
    obtain ⟨hz6, kq, hzr⟩ := hq
    have kq : inP (v 0 0) (xz xs (i + 1)) (xz xs (i + 2)) ∧ zc ≠ -1 ∧ distP (eg (v 1 0) (v 2) (v 3) (v 4) (v 5) (v 13 0)) (xz xs (i + 1)) (xz xs (i + 2)) zc := kq
    have hz6 : z6 = 0 := hz6
    have hzr : -2147483648 ≤ zc ∧ zc ≤ 2147483647 := hzr
    have hP : va_P D vwCl ([xOut tA o (zU og 0 zc), xOud tA od dg, xMod tA am ms mbef msav misv mpast mpm mthr mways mnds mtkp mline mlm mtxt mlen mat mwr merr mfail mcmd mcm, xObj ad hsv mal fai, xOff tA ad v w_shrt grp w_seen tp shr need ordr size, xScr tA K ad pos cmd vals txt len, xHis tA ad hc hn hs, xBef tA ad bt, xSav tA ad sv, xLin tA ad lnb lml lct]).flatten H := hP
    have hD : va_D (lwA s) ([xOut tA o (zU og 0 zc), xOud tA od dg, xMod tA am ms mbef msav misv mpast mpm mthr mways mnds mtkp mline mlm mtxt mlen mat mwr merr mfail mcmd mcm, xObj ad hsv mal fai, xOff tA ad v w_shrt grp w_seen tp shr need ordr size, xScr tA K ad pos cmd vals txt len, xHis tA ad hc hn hs, xBef tA ad bt, xSav tA ad sv, xLin tA ad lnb lml lct]).flatten := hD
    refine lv_istore (lv' := [(6, .int (iI z6)), (0, .ref b), (1, .ref (ad 0)), (2, .ref (am 0)), (3, .ref o), (4, .ref od), (5, .int (iI i))]) hx hb dL_law_1125 hl (by decide) rfl (fun ls hl => ?_)
    refine lv_aload_n hx hb dL_law_1127 rfl (lv_at hl 3 rfl) ?_
    refine lv_aload_n hx hb dL_law_1128 rfl (lv_at hl 1 rfl) ?_
    refine lv_iload hx hb dL_law_1129 (lv_at hl 6 rfl) ?_
    refine zz_iconst hx hb dL_law_1131 ?_
    refine zz_iadd hx hb dL_law_1132 ?_
    refine zz_sld hx hb hX hbl hbA hS (k := i + 1) (by omega) hL dL_law_1133 ?_
    refine lv_aload_n hx hb dL_law_1134 rfl (lv_at hl 1 rfl) ?_
    refine lv_iload hx hb dL_law_1135 (lv_at hl 6 rfl) ?_
    refine zz_iconst hx hb dL_law_1137 ?_
    refine zz_iadd hx hb dL_law_1138 ?_
    refine zz_sld hx hb hX hbl hbA hS (k := i + 2) (by omega) hL dL_law_1139 ?_
    refine zz_callVi_ch (As := [.int (iI (xz xs (i + 1))), .int (iI (xz xs (i + 2)))]) (rest := []) (L := [xOut tA o (zU og 0 zc), xOud tA od dg, xMod tA am ms mbef msav misv mpast mpm mthr mways mnds mtkp mline mlm mtxt mlen mat mwr merr mfail mcmd mcm, xObj ad hsv mal fai, xOff tA ad v w_shrt grp w_seen tp shr need ordr size, xScr tA K ad pos cmd vals txt len, xHis tA ad hc hn hs, xBef tA ad bt, xSav tA ad sv, xLin tA ad lnb lml lct]) (Lc := [xMod tA am ms mbef msav misv mpast mpm mthr mways mnds mtkp mline mlm mtxt mlen mat mwr merr mfail mcmd mcm]) (Lr := [xOut tA o (zU og 0 zc), xOud tA od dg, xObj ad hsv mal fai, xOff tA ad v w_shrt grp w_seen tp shr need ordr size, xScr tA K ad pos cmd vals txt len, xHis tA ad hc hn hs, xBef tA ad bt, xSav tA ad sv, xLin tA ad lnb lml lct]) (Lc' := fun u => [xMod tA am ms mbef msav misv mpast mpm u.2 u.1 mnds mtkp mline mlm mtxt mlen mat mwr merr mfail mcmd mcm]) (Lf := fun u => [xOut tA o (zU og 0 zc), xOud tA od dg, xMod tA am ms mbef msav misv mpast mpm u.2 u.1 mnds mtkp mline mlm mtxt mlen mat mwr merr mfail mcmd mcm, xObj ad hsv mal fai, xOff tA ad v w_shrt grp w_seen tp shr need ordr size, xScr tA K ad pos cmd vals txt len, xHis tA ad hc hn hs, xBef tA ad bt, xSav tA ad sv, xLin tA ad lnb lml lct]) (is := [2, 0, 1, 3, 4, 5, 6, 7, 8, 9]) (isF := [0, 1, 9, 2, 3, 4, 5, 6, 7, 8]) ⟨hx, hb, hml, hown, hts⟩ (c_X11_litDistance l D tA (am 0) (am 1) (am 2) (am 3) (am 4) (am 5) (am 6) (am 7) (am 8) (am 9) (am 10) H.size ms mbef msav misv mpast mpm mthr mways mnds mtkp mline mlm mtxt mlen mat mwr merr mfail mcmd mcm (xz xs (i + 1)) (xz xs (i + 2)) (xz_in _ _) (xz_in _ _) hmv.1) (cwV 2 hts (gx_tbl gL_law_X11_litDistance) rfl rfl rfl (by decide +kernel) ⟨Nat.le_of_ble_eq_true rfl, Nat.le_of_ble_eq_true rfl⟩) hK hP hD hS hA ⟨rfl, rfl, (by decide)⟩ ⟨fun _ => rfl, fun _ => rfl, (by decide)⟩ (ci := 13) (q0 := 0) rfl rfl rfl rfl rfl hl.1 (Nat.le_of_ble_eq_true rfl) dL_law_1140 (by show _ + 0 ≤ 603072 ∧ _ + 0 ≤ 7207018; omega) ?_
    intro zb u H locs hmq hP hD hS
    obtain ⟨y_mways, y_mthr⟩ := u
    have hP : va_P D vwCl ([xOut tA o (zU og 0 zc), xOud tA od dg, xMod tA am ms mbef msav misv mpast mpm y_mthr y_mways mnds mtkp mline mlm mtxt mlen mat mwr merr mfail mcmd mcm, xObj ad hsv mal fai, xOff tA ad v w_shrt grp w_seen tp shr need ordr size, xScr tA K ad pos cmd vals txt len, xHis tA ad hc hn hs, xBef tA ad bt, xSav tA ad sv, xLin tA ad lnb lml lct]).flatten H := hP
    have hD : va_D (lwA s) ([xOut tA o (zU og 0 zc), xOud tA od dg, xMod tA am ms mbef msav misv mpast mpm y_mthr y_mways mnds mtkp mline mlm mtxt mlen mat mwr merr mfail mcmd mcm, xObj ad hsv mal fai, xOff tA ad v w_shrt grp w_seen tp shr need ordr size, xScr tA K ad pos cmd vals txt len, xHis tA ad hc hn hs, xBef tA ad bt, xSav tA ad sv, xLin tA ad lnb lml lct]).flatten := hD
    have mq : askP (inP (ms 0) (xz xs (i + 1)) (xz xs (i + 2))) (distP (egM ms (rgM ms 1)) (xz xs (i + 1)) (xz xs (i + 2))) zb y_mthr := hmq
    clear hmq
    refine lv_istore (lv' := [(7, .int (iI zb)), (6, .int (iI z6)), (0, .ref b), (1, .ref (ad 0)), (2, .ref (am 0)), (3, .ref o), (4, .ref od), (5, .int (iI i))]) hx hb dL_law_1143 hl (by decide) rfl (fun ls hl => ?_)
    have hTV : y_mthr = 0 ∧ zb = zc := by
      rw [e0, rgM_1, e3, ← rel_eg hch hr (v 13 0)] at mq
      exact q_ask (fun x y hx hy => distP_uniq hx hy) kq mq
    have hT : y_mthr = z6 := hTV.1.trans hz6.symm
    have hI2 : LInv (n + 1) v hs sv pos cmd vals txt len hc hn hsv mal fai lnb lct ms msav misv mpast mpm mline mlm mtxt mlen merr mfail mcmd := by
      exact LI_q hn9 hI
    refine lv_aload_n hx hb dL_law_1145 rfl (lv_at hl 4 rfl) ?_
    refine zz_callVi_ch (As := []) (rest := []) (L := [xOut tA o (zU og 0 zc), xOud tA od dg, xMod tA am ms mbef msav misv mpast mpm y_mthr y_mways mnds mtkp mline mlm mtxt mlen mat mwr merr mfail mcmd mcm, xObj ad hsv mal fai, xOff tA ad v w_shrt grp w_seen tp shr need ordr size, xScr tA K ad pos cmd vals txt len, xHis tA ad hc hn hs, xBef tA ad bt, xSav tA ad sv, xLin tA ad lnb lml lct]) (Lc := [xMod tA am ms mbef msav misv mpast mpm y_mthr y_mways mnds mtkp mline mlm mtxt mlen mat mwr merr mfail mcmd mcm]) (Lr := [xOut tA o (zU og 0 zc), xOud tA od dg, xObj ad hsv mal fai, xOff tA ad v w_shrt grp w_seen tp shr need ordr size, xScr tA K ad pos cmd vals txt len, xHis tA ad hc hn hs, xBef tA ad bt, xSav tA ad sv, xLin tA ad lnb lml lct]) (Lc' := fun u => [xMod tA am ms mbef msav misv mpast mpm y_mthr y_mways mnds mtkp mline mlm mtxt mlen mat mwr merr mfail mcmd mcm]) (Lf := fun u => [xOut tA o (zU og 0 zc), xOud tA od dg, xMod tA am ms mbef msav misv mpast mpm y_mthr y_mways mnds mtkp mline mlm mtxt mlen mat mwr merr mfail mcmd mcm, xObj ad hsv mal fai, xOff tA ad v w_shrt grp w_seen tp shr need ordr size, xScr tA K ad pos cmd vals txt len, xHis tA ad hc hn hs, xBef tA ad bt, xSav tA ad sv, xLin tA ad lnb lml lct]) (is := [2, 0, 1, 3, 4, 5, 6, 7, 8, 9]) (isF := [0, 1, 9, 2, 3, 4, 5, 6, 7, 8]) ⟨hx, hb, hml, hown, hts⟩ (c_X11_thrown l D tA (am 0) (am 1) (am 2) (am 3) (am 4) (am 5) (am 6) (am 7) (am 8) (am 9) (am 10) H.size ms mbef msav misv mpast mpm y_mthr y_mways mnds mtkp mline mlm mtxt mlen mat mwr merr mfail mcmd mcm) (cwV 0 hts (gx_tbl gL_law_X11_thrown) rfl rfl rfl (by decide +kernel) ⟨Nat.le_of_ble_eq_true rfl, Nat.le_of_ble_eq_true rfl⟩) hK hP hD hS hA ⟨rfl, rfl, (by decide)⟩ ⟨fun _ => rfl, fun _ => rfl, (by decide)⟩ (ci := 13) (q0 := 0) rfl rfl rfl rfl rfl hl.1 (Nat.le_of_ble_eq_true rfl) dL_law_1146 (by show _ + 0 ≤ 603072 ∧ _ + 0 ≤ 7207018; omega) ?_
    intro zt u H locs hzt hP hD hS
    have hP : va_P D vwCl ([xOut tA o (zU og 0 zc), xOud tA od dg, xMod tA am ms mbef msav misv mpast mpm y_mthr y_mways mnds mtkp mline mlm mtxt mlen mat mwr merr mfail mcmd mcm, xObj ad hsv mal fai, xOff tA ad v w_shrt grp w_seen tp shr need ordr size, xScr tA K ad pos cmd vals txt len, xHis tA ad hc hn hs, xBef tA ad bt, xSav tA ad sv, xLin tA ad lnb lml lct]).flatten H := hP
    have hD : va_D (lwA s) ([xOut tA o (zU og 0 zc), xOud tA od dg, xMod tA am ms mbef msav misv mpast mpm y_mthr y_mways mnds mtkp mline mlm mtxt mlen mat mwr merr mfail mcmd mcm, xObj ad hsv mal fai, xOff tA ad v w_shrt grp w_seen tp shr need ordr size, xScr tA K ad pos cmd vals txt len, xHis tA ad hc hn hs, xBef tA ad bt, xSav tA ad sv, xLin tA ad lnb lml lct]).flatten := hD
    have hzt : zt = y_mthr := hzt
    have hz69 : 0 ≤ z6 ∧ z6 ≤ 9 := by omega
    refine lv_iload hx hb dL_law_1149 (lv_at hl 1 rfl) ?_
    refine zz_icmp_eq (tgt := 1156) hx hb dL_law_1151 (by decide) (by omega) (by omega) (fun _ => ?_) (fun c9 => absurd (by omega) c9)
    refine lv_iload hx hb dL_law_1156 (lv_at hl 1 rfl) ?_
    refine zz_if_ne (tgt := 1173) hx hb dL_law_1158 (by decide) (by omega) (fun c9 => absurd hz6 c9) (fun _ => ?_)
    refine lv_aload_n hx hb dL_law_1161 rfl (lv_at hl 5 rfl) ?_
    refine zz_iconst hx hb dL_law_1162 ?_
    refine zz_lald hx hb hK hP 0 rfl (by decide) (by decide) dL_law_1163 ?_
    rw [zU_same]
    refine lv_iload hx hb dL_law_1164 (lv_at hl 0 rfl) ?_
    refine zz_i2l hx hb dL_law_1166 (by omega) ?_
    rw [hTV.2]
    refine zz_lcmp hx hb dL_law_1167 (by omega) (by omega) ?_
    rw [cmpZ_s]
    refine zz_if_eq (tgt := 1173) hx hb dL_law_1168 (by decide) (by decide) (fun _ => ?_) (fun c9 => absurd rfl c9)
    refine lv_goto (tgt := 2917) hx hb dL_law_1173 (by decide) ?_
    refine W.widen (k := k9 + 20) (n := n9 + 200) (by omega) (by omega) ?_
    exact kk v w_shrt grp w_seen tp shr need ordr size pos cmd vals txt len hc hn hs bt sv hsv mal fai lnb lml lct ms mbef msav misv mpast mpm y_mthr y_mways mnds mtkp mline mlm mtxt mlen mat mwr merr mfail mcmd mcm (zU og 0 zc) dg _ _ _ hI2 hP hD hS (lv_sub hl [2, 3, 4, 5, 6, 7] rfl)
  · obtain ⟨kx, w_shrt, w_seen⟩ := u
    have kq : (kx = 1 ∧ ¬ inP (v 0 0) (xz xs (i + 1)) (xz xs (i + 2))) ∨ (kx = 4 ∧ inP (v 0 0) (xz xs (i + 1)) (xz xs (i + 2)) ∧ distP (eg (v 1 0) (v 2) (v 3) (v 4) (v 5) (v 13 0)) (xz xs (i + 1)) (xz xs (i + 2)) (-1)) := hq.1
    have kc : (kx = 1 ∧ z6 = 1) ∨ (kx = 4 ∧ z6 = 2) := hq.2
    have hP : va_P D vwCl ([xOut tA o og, xOud tA od dg, xMod tA am ms mbef msav misv mpast mpm mthr mways mnds mtkp mline mlm mtxt mlen mat mwr merr mfail mcmd mcm, xObj ad hsv mal fai, xOff tA ad v w_shrt grp w_seen tp shr need ordr size, xScr tA K ad pos cmd vals txt len, xHis tA ad hc hn hs, xBef tA ad bt, xSav tA ad sv, xLin tA ad lnb lml lct]).flatten H := hP
    have hD : va_D (lwA s) ([xOut tA o og, xOud tA od dg, xMod tA am ms mbef msav misv mpast mpm mthr mways mnds mtkp mline mlm mtxt mlen mat mwr merr mfail mcmd mcm, xObj ad hsv mal fai, xOff tA ad v w_shrt grp w_seen tp shr need ordr size, xScr tA K ad pos cmd vals txt len, xHis tA ad hc hn hs, xBef tA ad bt, xSav tA ad sv, xLin tA ad lnb lml lct]).flatten := hD
    refine lv_istore (lv' := [(6, .int (iI z6)), (0, .ref b), (1, .ref (ad 0)), (2, .ref (am 0)), (3, .ref o), (4, .ref od), (5, .int (iI i))]) hx hb dL_law_1125 hl (by decide) rfl (fun ls hl => ?_)
    refine lv_aload_n hx hb dL_law_1127 rfl (lv_at hl 3 rfl) ?_
    refine lv_aload_n hx hb dL_law_1128 rfl (lv_at hl 1 rfl) ?_
    refine lv_iload hx hb dL_law_1129 (lv_at hl 6 rfl) ?_
    refine zz_iconst hx hb dL_law_1131 ?_
    refine zz_iadd hx hb dL_law_1132 ?_
    refine zz_sld hx hb hX hbl hbA hS (k := i + 1) (by omega) hL dL_law_1133 ?_
    refine lv_aload_n hx hb dL_law_1134 rfl (lv_at hl 1 rfl) ?_
    refine lv_iload hx hb dL_law_1135 (lv_at hl 6 rfl) ?_
    refine zz_iconst hx hb dL_law_1137 ?_
    refine zz_iadd hx hb dL_law_1138 ?_
    refine zz_sld hx hb hX hbl hbA hS (k := i + 2) (by omega) hL dL_law_1139 ?_
    refine zz_callVi_ch (As := [.int (iI (xz xs (i + 1))), .int (iI (xz xs (i + 2)))]) (rest := []) (L := [xOut tA o og, xOud tA od dg, xMod tA am ms mbef msav misv mpast mpm mthr mways mnds mtkp mline mlm mtxt mlen mat mwr merr mfail mcmd mcm, xObj ad hsv mal fai, xOff tA ad v w_shrt grp w_seen tp shr need ordr size, xScr tA K ad pos cmd vals txt len, xHis tA ad hc hn hs, xBef tA ad bt, xSav tA ad sv, xLin tA ad lnb lml lct]) (Lc := [xMod tA am ms mbef msav misv mpast mpm mthr mways mnds mtkp mline mlm mtxt mlen mat mwr merr mfail mcmd mcm]) (Lr := [xOut tA o og, xOud tA od dg, xObj ad hsv mal fai, xOff tA ad v w_shrt grp w_seen tp shr need ordr size, xScr tA K ad pos cmd vals txt len, xHis tA ad hc hn hs, xBef tA ad bt, xSav tA ad sv, xLin tA ad lnb lml lct]) (Lc' := fun u => [xMod tA am ms mbef msav misv mpast mpm u.2 u.1 mnds mtkp mline mlm mtxt mlen mat mwr merr mfail mcmd mcm]) (Lf := fun u => [xOut tA o og, xOud tA od dg, xMod tA am ms mbef msav misv mpast mpm u.2 u.1 mnds mtkp mline mlm mtxt mlen mat mwr merr mfail mcmd mcm, xObj ad hsv mal fai, xOff tA ad v w_shrt grp w_seen tp shr need ordr size, xScr tA K ad pos cmd vals txt len, xHis tA ad hc hn hs, xBef tA ad bt, xSav tA ad sv, xLin tA ad lnb lml lct]) (is := [2, 0, 1, 3, 4, 5, 6, 7, 8, 9]) (isF := [0, 1, 9, 2, 3, 4, 5, 6, 7, 8]) ⟨hx, hb, hml, hown, hts⟩ (c_X11_litDistance l D tA (am 0) (am 1) (am 2) (am 3) (am 4) (am 5) (am 6) (am 7) (am 8) (am 9) (am 10) H.size ms mbef msav misv mpast mpm mthr mways mnds mtkp mline mlm mtxt mlen mat mwr merr mfail mcmd mcm (xz xs (i + 1)) (xz xs (i + 2)) (xz_in _ _) (xz_in _ _) hmv.1) (cwV 2 hts (gx_tbl gL_law_X11_litDistance) rfl rfl rfl (by decide +kernel) ⟨Nat.le_of_ble_eq_true rfl, Nat.le_of_ble_eq_true rfl⟩) hK hP hD hS hA ⟨rfl, rfl, (by decide)⟩ ⟨fun _ => rfl, fun _ => rfl, (by decide)⟩ (ci := 13) (q0 := 0) rfl rfl rfl rfl rfl hl.1 (Nat.le_of_ble_eq_true rfl) dL_law_1140 (by show _ + 0 ≤ 603072 ∧ _ + 0 ≤ 7207018; omega) ?_
    intro zb u H locs hmq hP hD hS
    obtain ⟨y_mways, y_mthr⟩ := u
    have hP : va_P D vwCl ([xOut tA o og, xOud tA od dg, xMod tA am ms mbef msav misv mpast mpm y_mthr y_mways mnds mtkp mline mlm mtxt mlen mat mwr merr mfail mcmd mcm, xObj ad hsv mal fai, xOff tA ad v w_shrt grp w_seen tp shr need ordr size, xScr tA K ad pos cmd vals txt len, xHis tA ad hc hn hs, xBef tA ad bt, xSav tA ad sv, xLin tA ad lnb lml lct]).flatten H := hP
    have hD : va_D (lwA s) ([xOut tA o og, xOud tA od dg, xMod tA am ms mbef msav misv mpast mpm y_mthr y_mways mnds mtkp mline mlm mtxt mlen mat mwr merr mfail mcmd mcm, xObj ad hsv mal fai, xOff tA ad v w_shrt grp w_seen tp shr need ordr size, xScr tA K ad pos cmd vals txt len, xHis tA ad hc hn hs, xBef tA ad bt, xSav tA ad sv, xLin tA ad lnb lml lct]).flatten := hD
    have mq : askP (inP (ms 0) (xz xs (i + 1)) (xz xs (i + 2))) (distP (egM ms (rgM ms 1)) (xz xs (i + 1)) (xz xs (i + 2))) zb y_mthr := hmq
    clear hmq
    refine lv_istore (lv' := [(7, .int (iI zb)), (6, .int (iI z6)), (0, .ref b), (1, .ref (ad 0)), (2, .ref (am 0)), (3, .ref o), (4, .ref od), (5, .int (iI i))]) hx hb dL_law_1143 hl (by decide) rfl (fun ls hl => ?_)
    have hT : y_mthr = z6 := by
      rw [e0, rgM_1, e3, ← rel_eg hch hr (v 13 0)] at mq
      exact x_ask (fun x y hx hy => distP_uniq hx hy) kq kc mq
    have hI2 : LInv (n + 1) v hs sv pos cmd vals txt len hc hn hsv mal fai lnb lct ms msav misv mpast mpm mline mlm mtxt mlen merr mfail mcmd := by
      exact LI_q hn9 hI
    refine lv_aload_n hx hb dL_law_1145 rfl (lv_at hl 4 rfl) ?_
    refine zz_callVi_ch (As := []) (rest := []) (L := [xOut tA o og, xOud tA od dg, xMod tA am ms mbef msav misv mpast mpm y_mthr y_mways mnds mtkp mline mlm mtxt mlen mat mwr merr mfail mcmd mcm, xObj ad hsv mal fai, xOff tA ad v w_shrt grp w_seen tp shr need ordr size, xScr tA K ad pos cmd vals txt len, xHis tA ad hc hn hs, xBef tA ad bt, xSav tA ad sv, xLin tA ad lnb lml lct]) (Lc := [xMod tA am ms mbef msav misv mpast mpm y_mthr y_mways mnds mtkp mline mlm mtxt mlen mat mwr merr mfail mcmd mcm]) (Lr := [xOut tA o og, xOud tA od dg, xObj ad hsv mal fai, xOff tA ad v w_shrt grp w_seen tp shr need ordr size, xScr tA K ad pos cmd vals txt len, xHis tA ad hc hn hs, xBef tA ad bt, xSav tA ad sv, xLin tA ad lnb lml lct]) (Lc' := fun u => [xMod tA am ms mbef msav misv mpast mpm y_mthr y_mways mnds mtkp mline mlm mtxt mlen mat mwr merr mfail mcmd mcm]) (Lf := fun u => [xOut tA o og, xOud tA od dg, xMod tA am ms mbef msav misv mpast mpm y_mthr y_mways mnds mtkp mline mlm mtxt mlen mat mwr merr mfail mcmd mcm, xObj ad hsv mal fai, xOff tA ad v w_shrt grp w_seen tp shr need ordr size, xScr tA K ad pos cmd vals txt len, xHis tA ad hc hn hs, xBef tA ad bt, xSav tA ad sv, xLin tA ad lnb lml lct]) (is := [2, 0, 1, 3, 4, 5, 6, 7, 8, 9]) (isF := [0, 1, 9, 2, 3, 4, 5, 6, 7, 8]) ⟨hx, hb, hml, hown, hts⟩ (c_X11_thrown l D tA (am 0) (am 1) (am 2) (am 3) (am 4) (am 5) (am 6) (am 7) (am 8) (am 9) (am 10) H.size ms mbef msav misv mpast mpm y_mthr y_mways mnds mtkp mline mlm mtxt mlen mat mwr merr mfail mcmd mcm) (cwV 0 hts (gx_tbl gL_law_X11_thrown) rfl rfl rfl (by decide +kernel) ⟨Nat.le_of_ble_eq_true rfl, Nat.le_of_ble_eq_true rfl⟩) hK hP hD hS hA ⟨rfl, rfl, (by decide)⟩ ⟨fun _ => rfl, fun _ => rfl, (by decide)⟩ (ci := 13) (q0 := 0) rfl rfl rfl rfl rfl hl.1 (Nat.le_of_ble_eq_true rfl) dL_law_1146 (by show _ + 0 ≤ 603072 ∧ _ + 0 ≤ 7207018; omega) ?_
    intro zt u H locs hzt hP hD hS
    have hP : va_P D vwCl ([xOut tA o og, xOud tA od dg, xMod tA am ms mbef msav misv mpast mpm y_mthr y_mways mnds mtkp mline mlm mtxt mlen mat mwr merr mfail mcmd mcm, xObj ad hsv mal fai, xOff tA ad v w_shrt grp w_seen tp shr need ordr size, xScr tA K ad pos cmd vals txt len, xHis tA ad hc hn hs, xBef tA ad bt, xSav tA ad sv, xLin tA ad lnb lml lct]).flatten H := hP
    have hD : va_D (lwA s) ([xOut tA o og, xOud tA od dg, xMod tA am ms mbef msav misv mpast mpm y_mthr y_mways mnds mtkp mline mlm mtxt mlen mat mwr merr mfail mcmd mcm, xObj ad hsv mal fai, xOff tA ad v w_shrt grp w_seen tp shr need ordr size, xScr tA K ad pos cmd vals txt len, xHis tA ad hc hn hs, xBef tA ad bt, xSav tA ad sv, xLin tA ad lnb lml lct]).flatten := hD
    have hzt : zt = y_mthr := hzt
    have hz69 : 0 ≤ z6 ∧ z6 ≤ 9 := by omega
    refine lv_iload hx hb dL_law_1149 (lv_at hl 1 rfl) ?_
    refine zz_icmp_eq (tgt := 1156) hx hb dL_law_1151 (by decide) (by omega) (by omega) (fun _ => ?_) (fun c9 => absurd (by omega) c9)
    refine lv_iload hx hb dL_law_1156 (lv_at hl 1 rfl) ?_
    refine zz_if_ne (tgt := 1173) hx hb dL_law_1158 (by decide) (by omega) (fun _ => ?_) (fun c9 => absurd c9 (by omega))
    refine lv_goto (tgt := 2917) hx hb dL_law_1173 (by decide) ?_
    refine W.widen (k := k9 + 20) (n := n9 + 200) (by omega) (by omega) ?_
    exact kk v w_shrt grp w_seen tp shr need ordr size pos cmd vals txt len hc hn hs bt sv hsv mal fai lnb lml lct ms mbef msav misv mpast mpm y_mthr y_mways mnds mtkp mline mlm mtxt mlen mat mwr merr mfail mcmd mcm og dg _ _ _ hI2 hP hD hS (lv_sub hl [2, 3, 4, 5, 6, 7] rfl)

set_option maxHeartbeats 8000000 in
set_option maxRecDepth 100000 in
theorem law_c15 {p : Program} {l : Launch} (hst : l.stackTraces = false) {e : Env} {s : State} {m : MethodId} {below : List Frame} {meth : Method} {c : Code} {D : va_G} {tA : Nat → ClassId} {K : Nat → Nat} {b L : Nat} {xs : Nat → Int32} (hL : L ≤ 2560) (C0 : lw_At p s m meth c b L xs) (hK : zK D tA s) (hZ : zT K (lwA s) s) {ad am : Nat → Nat} {o od : Nat} {i n : Int} (hi : 0 ≤ i ∧ i + 5 ≤ L) (hn9 : n < 600) {k9 n9 : Nat} (hk9 : k9 + 20 ≤ 603072 ∧ n9 + 200 ≤ 7207018) {v : Nat → Int → Int} {shrt : Int → Int} {grp : Int → Int} {seen : Int → Int} {tp : Int → Int} {shr : Int → Int} {need : Int → Int} {ordr : Int → Int} {size : Int} {pos : Int} {cmd : Int} {vals : Int → Int} {txt : Int → Int} {len : Int} {hc : Int} {hn : Int} {hs : Nat → Nat → Int → Int} {bt : Nat → Int → Int} {sv : Nat → Int → Int} {hsv : Int} {mal : Int} {fai : Int} {lnb : Int → Int} {lml : Int} {lct : Int} {ms : Int → Int} {mbef : Int → Int} {msav : Int → Int} {misv : Int} {mpast : Int → Int} {mpm : Int} {mthr : Int} {mways : Int → Int} {mnds : Int → Int} {mtkp : Int → Int} {mline : Int → Int} {mlm : Int} {mtxt : Int → Int} {mlen : Int} {mat : Int} {mwr : Int} {merr : Int} {mfail : Int} {mcmd : Int → Int} {mcm : Int} {og : Int → Int} {dg : Nat → UInt64} {H : Heap} {locs : List Loc} {ls : Array Slot} (hI : LInv n v hs sv pos cmd vals txt len hc hn hsv mal fai lnb lct ms msav misv mpast mpm mline mlm mtxt mlen merr mfail mcmd) (hP : va_P D vwCl (xW tA K ad am o od v shrt grp seen tp shr need ordr size pos cmd vals txt len hc hn hs bt sv hsv mal fai lnb lml lct ms mbef msav misv mpast mpm mthr mways mnds mtkp mline mlm mtxt mlen mat mwr merr mfail mcmd mcm og dg).flatten H) (hD : va_D (lwA s) (xW tA K ad am o od v shrt grp seen tp shr need ordr size pos cmd vals txt len hc hn hs bt sv hsv mal fai lnb lml lct ms mbef msav misv mpast mpm mthr mways mnds mtkp mline mlm mtxt mlen mat mwr merr mfail mcmd mcm og dg).flatten) (hS : va_S (lwA s) s.heap H locs) (hl : lv_has ls 9 [(0, .ref b), (1, .ref (ad 0)), (2, .ref (am 0)), (3, .ref o), (4, .ref od), (5, .int (iI i))]) (kk : lwK p l e s m below meth c D tA K ad am o od b i n k9 n9) : W p l e room_1 s m #[Value.ref b] below meth c H locs k9 n9 (lw_Z below #[Value.ref b] s) (F0 m 1176 ls []) := by
  obtain ⟨hx, hb, hrt, hml, hown, hts, hX, hbl, hlocks, hgv⟩ := id C0
  have hts := lw_more hts
  have hA : ∀ q : Nat, s.heap.size ≤ q → lwA s q := fun _ h => h
  have hbA : ¬ lwA s b := Nat.not_le.mpr hbl
  have hCn := hZ.2.2.2
  obtain ⟨⟨n0, n6, l0, l6, ln⟩, hLS, ⟨hhn, hhc, hpm, hhi⟩, ⟨hsv01, hmis, hsvv, hsvr⟩, ⟨hlen, htxt, htx⟩, ⟨hlm, hln, hl0, hl16, hlb⟩, ⟨her, hfa, hm1, hm2, hf1, hf2⟩, ⟨hcd0, hcd1, hps0, hps1, hva⟩, hcr⟩ := id hI
  have hv := hLS.1
  have hr := hLS.2
  have hch : ChS v := hv.1
  have hu9 : ChW v := hv.2.1
  obtain ⟨-, -, hcc, hsp, hmo, hfog, hrg, hni, hfd, hmt9, hln9, hsum⟩ := SVk_out (show SVk _ _ (etS v) from hv)
  have hmv := rel_MV hv hr (by omega) (by omega)
  obtain ⟨e0, e1, e2, e3, e4, e5, e6⟩ := id hr.1
  have eE := rel_sE hch hr
  have hmon : ∀ j, 0 ≤ j → j < v 7 0 → 0 ≤ v 10 j ∧ v 10 j ≤ 6000000 := fun j j0 j1 => by have := hmo j j0 j1; omega
  have hlnd : ∀ j, 0 ≤ j → j < v 7 0 → (0 ≤ v 11 j ∧ v 11 j ≤ 600) ∧ (0 ≤ v 12 j ∧ v 12 j ≤ 600) := fun j j0 j1 => by have := hln9 j j0 j1; omega
  refine lv_aload_n hx hb dL_law_1176 rfl (lv_at hl 1 rfl) ?_
  refine lv_aload_n hx hb dL_law_1177 rfl (lv_at hl 0 rfl) ?_
  refine lv_iload hx hb dL_law_1178 (lv_at hl 5 rfl) ?_
  refine zz_iconst hx hb dL_law_1180 ?_
  refine zz_iadd hx hb dL_law_1181 ?_
  refine zz_sld hx hb hX hbl hbA hS (k := i + 1) (by omega) hL dL_law_1182 ?_
  refine lv_aload_n hx hb dL_law_1183 rfl (lv_at hl 0 rfl) ?_
  refine lv_iload hx hb dL_law_1184 (lv_at hl 5 rfl) ?_
  refine zz_iconst hx hb dL_law_1186 ?_
  refine zz_iadd hx hb dL_law_1187 ?_
  refine zz_sld hx hb hX hbl hbA hS (k := i + 2) (by omega) hL dL_law_1188 ?_
  refine lv_aload_n hx hb dL_law_1189 rfl (lv_at hl 3 rfl) ?_
  refine zh_callSi_ch (As := [.ref (ad 0), .int (iI (xz xs (i + 1))), .int (iI (xz xs (i + 2))), .ref o]) (rest := []) (L := [xOut tA o og, xOud tA od dg, xMod tA am ms mbef msav misv mpast mpm mthr mways mnds mtkp mline mlm mtxt mlen mat mwr merr mfail mcmd mcm, xObj ad hsv mal fai, xOff tA ad v shrt grp seen tp shr need ordr size, xScr tA K ad pos cmd vals txt len, xHis tA ad hc hn hs, xBef tA ad bt, xSav tA ad sv, xLin tA ad lnb lml lct]) (Lc := [xOut tA o og, xObj ad hsv mal fai, xOff tA ad v shrt grp seen tp shr need ordr size]) (Lr := [xOud tA od dg, xMod tA am ms mbef msav misv mpast mpm mthr mways mnds mtkp mline mlm mtxt mlen mat mwr merr mfail mcmd mcm, xScr tA K ad pos cmd vals txt len, xHis tA ad hc hn hs, xBef tA ad bt, xSav tA ad sv, xLin tA ad lnb lml lct]) (Lc' := fun u => Sum.elim (fun u => [xOut tA o (zU og 0 u.1), xObj ad hsv mal fai, xOff tA ad v shrt u.2 seen tp shr need ordr size]) (fun u => [xOut tA o og, xObj ad hsv mal fai, xOff tA ad v shrt u.2 seen tp shr need ordr size]) u) (Lf := fun u => Sum.elim (fun u => [xOut tA o (zU og 0 u.1), xOud tA od dg, xMod tA am ms mbef msav misv mpast mpm mthr mways mnds mtkp mline mlm mtxt mlen mat mwr merr mfail mcmd mcm, xObj ad hsv mal fai, xOff tA ad v shrt u.2 seen tp shr need ordr size, xScr tA K ad pos cmd vals txt len, xHis tA ad hc hn hs, xBef tA ad bt, xSav tA ad sv, xLin tA ad lnb lml lct]) (fun u => [xOut tA o og, xOud tA od dg, xMod tA am ms mbef msav misv mpast mpm mthr mways mnds mtkp mline mlm mtxt mlen mat mwr merr mfail mcmd mcm, xObj ad hsv mal fai, xOff tA ad v shrt u.2 seen tp shr need ordr size, xScr tA K ad pos cmd vals txt len, xHis tA ad hc hn hs, xBef tA ad bt, xSav tA ad sv, xLin tA ad lnb lml lct]) u) (is := [0, 3, 4, 1, 2, 5, 6, 7, 8, 9]) (isF := [7, 0, 1, 8, 9, 2, 3, 4, 5, 6]) ⟨hx, hb, hml, hown, hts⟩ (c_L_neededRange l hst K D tA (ad 0) (ad 1) (ad 2) (ad 3) (ad 4) (ad 5) (ad 6) (ad 7) (ad 8) (ad 9) (ad 10) (ad 11) (ad 12) (ad 13) (ad 14) (ad 15) (ad 16) (ad 17) (ad 18) (ad 19) (ad 20) (ad 21) (ad 22) (ad 23) (ad 24) (ad 27) (ad 146) (ad 133) (ad 159) o H.size og (v 0 0) (v 1 0) (v 2) (v 3) (v 4) (v 5) (v 6) (v 7 0) (v 8) (v 9) (v 10) (v 11) (v 12) (v 13 0) (v 14 0) (v 15 0) (v 16 0) (v 17 0) (v 18 0) shrt grp seen tp shr need ordr size hsv mal fai  (xz xs (i + 1)) (xz xs (i + 2)) (xz_in _ _) (xz_in _ _) hch) (vx_cwSW 4 hts (gx_wr gL_law_L_neededRange) rfl rfl rfl (by decide +kernel) ⟨Nat.le_of_ble_eq_true rfl, Nat.le_of_ble_eq_true rfl⟩) hK hP hD hS hA hZ ⟨rfl, rfl, (by decide)⟩ ⟨fun u => by cases u <;> rfl, fun u => by cases u <;> rfl, (by decide)⟩ rfl rfl hl.1 (Nat.le_of_ble_eq_true rfl) dL_law_1190 (by show k9 + 3 ≤ 603072 ∧ n9 + 18 ≤ 7207018; omega) ?_
  intro z6 u H locs hq hP hD hS
  rcases u with ⟨zc, u⟩ | u
  · obtain ⟨w_grp, rfl⟩ : ∃ q, q = u := ⟨_, rfl⟩
    obtain ⟨hz6, kq, hzr⟩ := hq
    have kq : inP (v 0 0) (xz xs (i + 1)) (xz xs (i + 2)) ∧ (xz xs (i + 1)) ≠ (xz xs (i + 2)) ∧ zc ≠ -1 ∧ needP (eg (v 1 0) (v 2) (v 3) (v 4) (v 5)) (xz xs (i + 1)) (xz xs (i + 2)) zc := kq
    have hz6 : z6 = 0 := hz6
    have hzr : -2147483648 ≤ zc ∧ zc ≤ 2147483647 := hzr
    have hP : va_P D vwCl ([xOut tA o (zU og 0 zc), xOud tA od dg, xMod tA am ms mbef msav misv mpast mpm mthr mways mnds mtkp mline mlm mtxt mlen mat mwr merr mfail mcmd mcm, xObj ad hsv mal fai, xOff tA ad v shrt w_grp seen tp shr need ordr size, xScr tA K ad pos cmd vals txt len, xHis tA ad hc hn hs, xBef tA ad bt, xSav tA ad sv, xLin tA ad lnb lml lct]).flatten H := hP
    have hD : va_D (lwA s) ([xOut tA o (zU og 0 zc), xOud tA od dg, xMod tA am ms mbef msav misv mpast mpm mthr mways mnds mtkp mline mlm mtxt mlen mat mwr merr mfail mcmd mcm, xObj ad hsv mal fai, xOff tA ad v shrt w_grp seen tp shr need ordr size, xScr tA K ad pos cmd vals txt len, xHis tA ad hc hn hs, xBef tA ad bt, xSav tA ad sv, xLin tA ad lnb lml lct]).flatten := hD
    refine lv_istore (lv' := [(6, .int (iI z6)), (0, .ref b), (1, .ref (ad 0)), (2, .ref (am 0)), (3, .ref o), (4, .ref od), (5, .int (iI i))]) hx hb dL_law_1193 hl (by decide) rfl (fun ls hl => ?_)
    refine lv_aload_n hx hb dL_law_1195 rfl (lv_at hl 3 rfl) ?_
    refine lv_aload_n hx hb dL_law_1196 rfl (lv_at hl 1 rfl) ?_
    refine lv_iload hx hb dL_law_1197 (lv_at hl 6 rfl) ?_
    refine zz_iconst hx hb dL_law_1199 ?_
    refine zz_iadd hx hb dL_law_1200 ?_
    refine zz_sld hx hb hX hbl hbA hS (k := i + 1) (by omega) hL dL_law_1201 ?_
    refine lv_aload_n hx hb dL_law_1202 rfl (lv_at hl 1 rfl) ?_
    refine lv_iload hx hb dL_law_1203 (lv_at hl 6 rfl) ?_
    refine zz_iconst hx hb dL_law_1205 ?_
    refine zz_iadd hx hb dL_law_1206 ?_
    refine zz_sld hx hb hX hbl hbA hS (k := i + 2) (by omega) hL dL_law_1207 ?_
    refine zz_callVi_ch (As := [.int (iI (xz xs (i + 1))), .int (iI (xz xs (i + 2)))]) (rest := []) (L := [xOut tA o (zU og 0 zc), xOud tA od dg, xMod tA am ms mbef msav misv mpast mpm mthr mways mnds mtkp mline mlm mtxt mlen mat mwr merr mfail mcmd mcm, xObj ad hsv mal fai, xOff tA ad v shrt w_grp seen tp shr need ordr size, xScr tA K ad pos cmd vals txt len, xHis tA ad hc hn hs, xBef tA ad bt, xSav tA ad sv, xLin tA ad lnb lml lct]) (Lc := [xMod tA am ms mbef msav misv mpast mpm mthr mways mnds mtkp mline mlm mtxt mlen mat mwr merr mfail mcmd mcm]) (Lr := [xOut tA o (zU og 0 zc), xOud tA od dg, xObj ad hsv mal fai, xOff tA ad v shrt w_grp seen tp shr need ordr size, xScr tA K ad pos cmd vals txt len, xHis tA ad hc hn hs, xBef tA ad bt, xSav tA ad sv, xLin tA ad lnb lml lct]) (Lc' := fun u => [xMod tA am ms mbef msav misv mpast mpm u.2 u.1 mnds mtkp mline mlm mtxt mlen mat mwr merr mfail mcmd mcm]) (Lf := fun u => [xOut tA o (zU og 0 zc), xOud tA od dg, xMod tA am ms mbef msav misv mpast mpm u.2 u.1 mnds mtkp mline mlm mtxt mlen mat mwr merr mfail mcmd mcm, xObj ad hsv mal fai, xOff tA ad v shrt w_grp seen tp shr need ordr size, xScr tA K ad pos cmd vals txt len, xHis tA ad hc hn hs, xBef tA ad bt, xSav tA ad sv, xLin tA ad lnb lml lct]) (is := [2, 0, 1, 3, 4, 5, 6, 7, 8, 9]) (isF := [0, 1, 9, 2, 3, 4, 5, 6, 7, 8]) ⟨hx, hb, hml, hown, hts⟩ (c_X11_neededRange l D tA (am 0) (am 1) (am 2) (am 3) (am 4) (am 5) (am 6) (am 7) (am 8) (am 9) (am 10) H.size ms mbef msav misv mpast mpm mthr mways mnds mtkp mline mlm mtxt mlen mat mwr merr mfail mcmd mcm (xz xs (i + 1)) (xz xs (i + 2)) (xz_in _ _) (xz_in _ _) hmv.1) (cwV 2 hts (gx_tbl gL_law_X11_neededRange) rfl rfl rfl (by decide +kernel) ⟨Nat.le_of_ble_eq_true rfl, Nat.le_of_ble_eq_true rfl⟩) hK hP hD hS hA ⟨rfl, rfl, (by decide)⟩ ⟨fun _ => rfl, fun _ => rfl, (by decide)⟩ (ci := 13) (q0 := 0) rfl rfl rfl rfl rfl hl.1 (Nat.le_of_ble_eq_true rfl) dL_law_1208 (by show _ + 0 ≤ 603072 ∧ _ + 0 ≤ 7207018; omega) ?_
    intro zb u H locs hmq hP hD hS
    obtain ⟨y_mways, y_mthr⟩ := u
    have hP : va_P D vwCl ([xOut tA o (zU og 0 zc), xOud tA od dg, xMod tA am ms mbef msav misv mpast mpm y_mthr y_mways mnds mtkp mline mlm mtxt mlen mat mwr merr mfail mcmd mcm, xObj ad hsv mal fai, xOff tA ad v shrt w_grp seen tp shr need ordr size, xScr tA K ad pos cmd vals txt len, xHis tA ad hc hn hs, xBef tA ad bt, xSav tA ad sv, xLin tA ad lnb lml lct]).flatten H := hP
    have hD : va_D (lwA s) ([xOut tA o (zU og 0 zc), xOud tA od dg, xMod tA am ms mbef msav misv mpast mpm y_mthr y_mways mnds mtkp mline mlm mtxt mlen mat mwr merr mfail mcmd mcm, xObj ad hsv mal fai, xOff tA ad v shrt w_grp seen tp shr need ordr size, xScr tA K ad pos cmd vals txt len, xHis tA ad hc hn hs, xBef tA ad bt, xSav tA ad sv, xLin tA ad lnb lml lct]).flatten := hD
    have mq : (y_mthr = 1 ∧ ¬ inP (ms 0) (xz xs (i + 1)) (xz xs (i + 2))) ∨ (inP (ms 0) (xz xs (i + 1)) (xz xs (i + 2)) ∧ ((y_mthr = 2 ∧ (xz xs (i + 1)) = (xz xs (i + 2))) ∨ ((xz xs (i + 1)) ≠ (xz xs (i + 2)) ∧ ((y_mthr = 3 ∧ needP (egM ms) (xz xs (i + 1)) (xz xs (i + 2)) (-1)) ∨ (y_mthr = 0 ∧ zb ≠ -1 ∧ needP (egM ms) (xz xs (i + 1)) (xz xs (i + 2)) zb))))) := hmq
    clear hmq
    refine lv_istore (lv' := [(7, .int (iI zb)), (6, .int (iI z6)), (0, .ref b), (1, .ref (ad 0)), (2, .ref (am 0)), (3, .ref o), (4, .ref od), (5, .int (iI i))]) hx hb dL_law_1211 hl (by decide) rfl (fun ls hl => ?_)
    have hTV : y_mthr = 0 ∧ zb = zc := by
      exact q_need hr eE kq mq
    have hT : y_mthr = z6 := hTV.1.trans hz6.symm
    have hI2 : LInv (n + 1) v hs sv pos cmd vals txt len hc hn hsv mal fai lnb lct ms msav misv mpast mpm mline mlm mtxt mlen merr mfail mcmd := by
      exact LI_q hn9 hI
    refine lv_aload_n hx hb dL_law_1213 rfl (lv_at hl 4 rfl) ?_
    refine zz_callVi_ch (As := []) (rest := []) (L := [xOut tA o (zU og 0 zc), xOud tA od dg, xMod tA am ms mbef msav misv mpast mpm y_mthr y_mways mnds mtkp mline mlm mtxt mlen mat mwr merr mfail mcmd mcm, xObj ad hsv mal fai, xOff tA ad v shrt w_grp seen tp shr need ordr size, xScr tA K ad pos cmd vals txt len, xHis tA ad hc hn hs, xBef tA ad bt, xSav tA ad sv, xLin tA ad lnb lml lct]) (Lc := [xMod tA am ms mbef msav misv mpast mpm y_mthr y_mways mnds mtkp mline mlm mtxt mlen mat mwr merr mfail mcmd mcm]) (Lr := [xOut tA o (zU og 0 zc), xOud tA od dg, xObj ad hsv mal fai, xOff tA ad v shrt w_grp seen tp shr need ordr size, xScr tA K ad pos cmd vals txt len, xHis tA ad hc hn hs, xBef tA ad bt, xSav tA ad sv, xLin tA ad lnb lml lct]) (Lc' := fun u => [xMod tA am ms mbef msav misv mpast mpm y_mthr y_mways mnds mtkp mline mlm mtxt mlen mat mwr merr mfail mcmd mcm]) (Lf := fun u => [xOut tA o (zU og 0 zc), xOud tA od dg, xMod tA am ms mbef msav misv mpast mpm y_mthr y_mways mnds mtkp mline mlm mtxt mlen mat mwr merr mfail mcmd mcm, xObj ad hsv mal fai, xOff tA ad v shrt w_grp seen tp shr need ordr size, xScr tA K ad pos cmd vals txt len, xHis tA ad hc hn hs, xBef tA ad bt, xSav tA ad sv, xLin tA ad lnb lml lct]) (is := [2, 0, 1, 3, 4, 5, 6, 7, 8, 9]) (isF := [0, 1, 9, 2, 3, 4, 5, 6, 7, 8]) ⟨hx, hb, hml, hown, hts⟩ (c_X11_thrown l D tA (am 0) (am 1) (am 2) (am 3) (am 4) (am 5) (am 6) (am 7) (am 8) (am 9) (am 10) H.size ms mbef msav misv mpast mpm y_mthr y_mways mnds mtkp mline mlm mtxt mlen mat mwr merr mfail mcmd mcm) (cwV 0 hts (gx_tbl gL_law_X11_thrown) rfl rfl rfl (by decide +kernel) ⟨Nat.le_of_ble_eq_true rfl, Nat.le_of_ble_eq_true rfl⟩) hK hP hD hS hA ⟨rfl, rfl, (by decide)⟩ ⟨fun _ => rfl, fun _ => rfl, (by decide)⟩ (ci := 13) (q0 := 0) rfl rfl rfl rfl rfl hl.1 (Nat.le_of_ble_eq_true rfl) dL_law_1214 (by show _ + 0 ≤ 603072 ∧ _ + 0 ≤ 7207018; omega) ?_
    intro zt u H locs hzt hP hD hS
    have hP : va_P D vwCl ([xOut tA o (zU og 0 zc), xOud tA od dg, xMod tA am ms mbef msav misv mpast mpm y_mthr y_mways mnds mtkp mline mlm mtxt mlen mat mwr merr mfail mcmd mcm, xObj ad hsv mal fai, xOff tA ad v shrt w_grp seen tp shr need ordr size, xScr tA K ad pos cmd vals txt len, xHis tA ad hc hn hs, xBef tA ad bt, xSav tA ad sv, xLin tA ad lnb lml lct]).flatten H := hP
    have hD : va_D (lwA s) ([xOut tA o (zU og 0 zc), xOud tA od dg, xMod tA am ms mbef msav misv mpast mpm y_mthr y_mways mnds mtkp mline mlm mtxt mlen mat mwr merr mfail mcmd mcm, xObj ad hsv mal fai, xOff tA ad v shrt w_grp seen tp shr need ordr size, xScr tA K ad pos cmd vals txt len, xHis tA ad hc hn hs, xBef tA ad bt, xSav tA ad sv, xLin tA ad lnb lml lct]).flatten := hD
    have hzt : zt = y_mthr := hzt
    have hz69 : 0 ≤ z6 ∧ z6 ≤ 9 := by omega
    refine lv_iload hx hb dL_law_1217 (lv_at hl 1 rfl) ?_
    refine zz_icmp_eq (tgt := 1224) hx hb dL_law_1219 (by decide) (by omega) (by omega) (fun _ => ?_) (fun c9 => absurd (by omega) c9)
    refine lv_iload hx hb dL_law_1224 (lv_at hl 1 rfl) ?_
    refine zz_if_ne (tgt := 1241) hx hb dL_law_1226 (by decide) (by omega) (fun c9 => absurd hz6 c9) (fun _ => ?_)
    refine lv_aload_n hx hb dL_law_1229 rfl (lv_at hl 5 rfl) ?_
    refine zz_iconst hx hb dL_law_1230 ?_
    refine zz_lald hx hb hK hP 0 rfl (by decide) (by decide) dL_law_1231 ?_
    rw [zU_same]
    refine lv_iload hx hb dL_law_1232 (lv_at hl 0 rfl) ?_
    refine zz_i2l hx hb dL_law_1234 (by omega) ?_
    rw [hTV.2]
    refine zz_lcmp hx hb dL_law_1235 (by omega) (by omega) ?_
    rw [cmpZ_s]
    refine zz_if_eq (tgt := 1241) hx hb dL_law_1236 (by decide) (by decide) (fun _ => ?_) (fun c9 => absurd rfl c9)
    refine lv_goto (tgt := 2917) hx hb dL_law_1241 (by decide) ?_
    refine W.widen (k := k9 + 20) (n := n9 + 200) (by omega) (by omega) ?_
    exact kk v shrt w_grp seen tp shr need ordr size pos cmd vals txt len hc hn hs bt sv hsv mal fai lnb lml lct ms mbef msav misv mpast mpm y_mthr y_mways mnds mtkp mline mlm mtxt mlen mat mwr merr mfail mcmd mcm (zU og 0 zc) dg _ _ _ hI2 hP hD hS (lv_sub hl [2, 3, 4, 5, 6, 7] rfl)
  · obtain ⟨kx, w_grp⟩ := u
    have kq : (kx = 1 ∧ ¬ inP (v 0 0) (xz xs (i + 1)) (xz xs (i + 2))) ∨ (kx = 2 ∧ inP (v 0 0) (xz xs (i + 1)) (xz xs (i + 2)) ∧ (xz xs (i + 1)) = (xz xs (i + 2))) ∨ (kx = 4 ∧ inP (v 0 0) (xz xs (i + 1)) (xz xs (i + 2)) ∧ (xz xs (i + 1)) ≠ (xz xs (i + 2)) ∧ needP (eg (v 1 0) (v 2) (v 3) (v 4) (v 5)) (xz xs (i + 1)) (xz xs (i + 2)) (-1)) := hq.1
    have kc : (kx = 1 ∧ z6 = 1) ∨ (kx = 2 ∧ z6 = 2) ∨ (kx = 4 ∧ z6 = 3) := hq.2
    have hP : va_P D vwCl ([xOut tA o og, xOud tA od dg, xMod tA am ms mbef msav misv mpast mpm mthr mways mnds mtkp mline mlm mtxt mlen mat mwr merr mfail mcmd mcm, xObj ad hsv mal fai, xOff tA ad v shrt w_grp seen tp shr need ordr size, xScr tA K ad pos cmd vals txt len, xHis tA ad hc hn hs, xBef tA ad bt, xSav tA ad sv, xLin tA ad lnb lml lct]).flatten H := hP
    have hD : va_D (lwA s) ([xOut tA o og, xOud tA od dg, xMod tA am ms mbef msav misv mpast mpm mthr mways mnds mtkp mline mlm mtxt mlen mat mwr merr mfail mcmd mcm, xObj ad hsv mal fai, xOff tA ad v shrt w_grp seen tp shr need ordr size, xScr tA K ad pos cmd vals txt len, xHis tA ad hc hn hs, xBef tA ad bt, xSav tA ad sv, xLin tA ad lnb lml lct]).flatten := hD
    refine lv_istore (lv' := [(6, .int (iI z6)), (0, .ref b), (1, .ref (ad 0)), (2, .ref (am 0)), (3, .ref o), (4, .ref od), (5, .int (iI i))]) hx hb dL_law_1193 hl (by decide) rfl (fun ls hl => ?_)
    refine lv_aload_n hx hb dL_law_1195 rfl (lv_at hl 3 rfl) ?_
    refine lv_aload_n hx hb dL_law_1196 rfl (lv_at hl 1 rfl) ?_
    refine lv_iload hx hb dL_law_1197 (lv_at hl 6 rfl) ?_
    refine zz_iconst hx hb dL_law_1199 ?_
    refine zz_iadd hx hb dL_law_1200 ?_
    refine zz_sld hx hb hX hbl hbA hS (k := i + 1) (by omega) hL dL_law_1201 ?_
    refine lv_aload_n hx hb dL_law_1202 rfl (lv_at hl 1 rfl) ?_
    refine lv_iload hx hb dL_law_1203 (lv_at hl 6 rfl) ?_
    refine zz_iconst hx hb dL_law_1205 ?_
    refine zz_iadd hx hb dL_law_1206 ?_
    refine zz_sld hx hb hX hbl hbA hS (k := i + 2) (by omega) hL dL_law_1207 ?_
    refine zz_callVi_ch (As := [.int (iI (xz xs (i + 1))), .int (iI (xz xs (i + 2)))]) (rest := []) (L := [xOut tA o og, xOud tA od dg, xMod tA am ms mbef msav misv mpast mpm mthr mways mnds mtkp mline mlm mtxt mlen mat mwr merr mfail mcmd mcm, xObj ad hsv mal fai, xOff tA ad v shrt w_grp seen tp shr need ordr size, xScr tA K ad pos cmd vals txt len, xHis tA ad hc hn hs, xBef tA ad bt, xSav tA ad sv, xLin tA ad lnb lml lct]) (Lc := [xMod tA am ms mbef msav misv mpast mpm mthr mways mnds mtkp mline mlm mtxt mlen mat mwr merr mfail mcmd mcm]) (Lr := [xOut tA o og, xOud tA od dg, xObj ad hsv mal fai, xOff tA ad v shrt w_grp seen tp shr need ordr size, xScr tA K ad pos cmd vals txt len, xHis tA ad hc hn hs, xBef tA ad bt, xSav tA ad sv, xLin tA ad lnb lml lct]) (Lc' := fun u => [xMod tA am ms mbef msav misv mpast mpm u.2 u.1 mnds mtkp mline mlm mtxt mlen mat mwr merr mfail mcmd mcm]) (Lf := fun u => [xOut tA o og, xOud tA od dg, xMod tA am ms mbef msav misv mpast mpm u.2 u.1 mnds mtkp mline mlm mtxt mlen mat mwr merr mfail mcmd mcm, xObj ad hsv mal fai, xOff tA ad v shrt w_grp seen tp shr need ordr size, xScr tA K ad pos cmd vals txt len, xHis tA ad hc hn hs, xBef tA ad bt, xSav tA ad sv, xLin tA ad lnb lml lct]) (is := [2, 0, 1, 3, 4, 5, 6, 7, 8, 9]) (isF := [0, 1, 9, 2, 3, 4, 5, 6, 7, 8]) ⟨hx, hb, hml, hown, hts⟩ (c_X11_neededRange l D tA (am 0) (am 1) (am 2) (am 3) (am 4) (am 5) (am 6) (am 7) (am 8) (am 9) (am 10) H.size ms mbef msav misv mpast mpm mthr mways mnds mtkp mline mlm mtxt mlen mat mwr merr mfail mcmd mcm (xz xs (i + 1)) (xz xs (i + 2)) (xz_in _ _) (xz_in _ _) hmv.1) (cwV 2 hts (gx_tbl gL_law_X11_neededRange) rfl rfl rfl (by decide +kernel) ⟨Nat.le_of_ble_eq_true rfl, Nat.le_of_ble_eq_true rfl⟩) hK hP hD hS hA ⟨rfl, rfl, (by decide)⟩ ⟨fun _ => rfl, fun _ => rfl, (by decide)⟩ (ci := 13) (q0 := 0) rfl rfl rfl rfl rfl hl.1 (Nat.le_of_ble_eq_true rfl) dL_law_1208 (by show _ + 0 ≤ 603072 ∧ _ + 0 ≤ 7207018; omega) ?_
    intro zb u H locs hmq hP hD hS
    obtain ⟨y_mways, y_mthr⟩ := u
    have hP : va_P D vwCl ([xOut tA o og, xOud tA od dg, xMod tA am ms mbef msav misv mpast mpm y_mthr y_mways mnds mtkp mline mlm mtxt mlen mat mwr merr mfail mcmd mcm, xObj ad hsv mal fai, xOff tA ad v shrt w_grp seen tp shr need ordr size, xScr tA K ad pos cmd vals txt len, xHis tA ad hc hn hs, xBef tA ad bt, xSav tA ad sv, xLin tA ad lnb lml lct]).flatten H := hP
    have hD : va_D (lwA s) ([xOut tA o og, xOud tA od dg, xMod tA am ms mbef msav misv mpast mpm y_mthr y_mways mnds mtkp mline mlm mtxt mlen mat mwr merr mfail mcmd mcm, xObj ad hsv mal fai, xOff tA ad v shrt w_grp seen tp shr need ordr size, xScr tA K ad pos cmd vals txt len, xHis tA ad hc hn hs, xBef tA ad bt, xSav tA ad sv, xLin tA ad lnb lml lct]).flatten := hD
    have mq : (y_mthr = 1 ∧ ¬ inP (ms 0) (xz xs (i + 1)) (xz xs (i + 2))) ∨ (inP (ms 0) (xz xs (i + 1)) (xz xs (i + 2)) ∧ ((y_mthr = 2 ∧ (xz xs (i + 1)) = (xz xs (i + 2))) ∨ ((xz xs (i + 1)) ≠ (xz xs (i + 2)) ∧ ((y_mthr = 3 ∧ needP (egM ms) (xz xs (i + 1)) (xz xs (i + 2)) (-1)) ∨ (y_mthr = 0 ∧ zb ≠ -1 ∧ needP (egM ms) (xz xs (i + 1)) (xz xs (i + 2)) zb))))) := hmq
    clear hmq
    refine lv_istore (lv' := [(7, .int (iI zb)), (6, .int (iI z6)), (0, .ref b), (1, .ref (ad 0)), (2, .ref (am 0)), (3, .ref o), (4, .ref od), (5, .int (iI i))]) hx hb dL_law_1211 hl (by decide) rfl (fun ls hl => ?_)
    have hT : y_mthr = z6 := by
      exact x_need hr eE kq kc mq
    have hI2 : LInv (n + 1) v hs sv pos cmd vals txt len hc hn hsv mal fai lnb lct ms msav misv mpast mpm mline mlm mtxt mlen merr mfail mcmd := by
      exact LI_q hn9 hI
    refine lv_aload_n hx hb dL_law_1213 rfl (lv_at hl 4 rfl) ?_
    refine zz_callVi_ch (As := []) (rest := []) (L := [xOut tA o og, xOud tA od dg, xMod tA am ms mbef msav misv mpast mpm y_mthr y_mways mnds mtkp mline mlm mtxt mlen mat mwr merr mfail mcmd mcm, xObj ad hsv mal fai, xOff tA ad v shrt w_grp seen tp shr need ordr size, xScr tA K ad pos cmd vals txt len, xHis tA ad hc hn hs, xBef tA ad bt, xSav tA ad sv, xLin tA ad lnb lml lct]) (Lc := [xMod tA am ms mbef msav misv mpast mpm y_mthr y_mways mnds mtkp mline mlm mtxt mlen mat mwr merr mfail mcmd mcm]) (Lr := [xOut tA o og, xOud tA od dg, xObj ad hsv mal fai, xOff tA ad v shrt w_grp seen tp shr need ordr size, xScr tA K ad pos cmd vals txt len, xHis tA ad hc hn hs, xBef tA ad bt, xSav tA ad sv, xLin tA ad lnb lml lct]) (Lc' := fun u => [xMod tA am ms mbef msav misv mpast mpm y_mthr y_mways mnds mtkp mline mlm mtxt mlen mat mwr merr mfail mcmd mcm]) (Lf := fun u => [xOut tA o og, xOud tA od dg, xMod tA am ms mbef msav misv mpast mpm y_mthr y_mways mnds mtkp mline mlm mtxt mlen mat mwr merr mfail mcmd mcm, xObj ad hsv mal fai, xOff tA ad v shrt w_grp seen tp shr need ordr size, xScr tA K ad pos cmd vals txt len, xHis tA ad hc hn hs, xBef tA ad bt, xSav tA ad sv, xLin tA ad lnb lml lct]) (is := [2, 0, 1, 3, 4, 5, 6, 7, 8, 9]) (isF := [0, 1, 9, 2, 3, 4, 5, 6, 7, 8]) ⟨hx, hb, hml, hown, hts⟩ (c_X11_thrown l D tA (am 0) (am 1) (am 2) (am 3) (am 4) (am 5) (am 6) (am 7) (am 8) (am 9) (am 10) H.size ms mbef msav misv mpast mpm y_mthr y_mways mnds mtkp mline mlm mtxt mlen mat mwr merr mfail mcmd mcm) (cwV 0 hts (gx_tbl gL_law_X11_thrown) rfl rfl rfl (by decide +kernel) ⟨Nat.le_of_ble_eq_true rfl, Nat.le_of_ble_eq_true rfl⟩) hK hP hD hS hA ⟨rfl, rfl, (by decide)⟩ ⟨fun _ => rfl, fun _ => rfl, (by decide)⟩ (ci := 13) (q0 := 0) rfl rfl rfl rfl rfl hl.1 (Nat.le_of_ble_eq_true rfl) dL_law_1214 (by show _ + 0 ≤ 603072 ∧ _ + 0 ≤ 7207018; omega) ?_
    intro zt u H locs hzt hP hD hS
    have hP : va_P D vwCl ([xOut tA o og, xOud tA od dg, xMod tA am ms mbef msav misv mpast mpm y_mthr y_mways mnds mtkp mline mlm mtxt mlen mat mwr merr mfail mcmd mcm, xObj ad hsv mal fai, xOff tA ad v shrt w_grp seen tp shr need ordr size, xScr tA K ad pos cmd vals txt len, xHis tA ad hc hn hs, xBef tA ad bt, xSav tA ad sv, xLin tA ad lnb lml lct]).flatten H := hP
    have hD : va_D (lwA s) ([xOut tA o og, xOud tA od dg, xMod tA am ms mbef msav misv mpast mpm y_mthr y_mways mnds mtkp mline mlm mtxt mlen mat mwr merr mfail mcmd mcm, xObj ad hsv mal fai, xOff tA ad v shrt w_grp seen tp shr need ordr size, xScr tA K ad pos cmd vals txt len, xHis tA ad hc hn hs, xBef tA ad bt, xSav tA ad sv, xLin tA ad lnb lml lct]).flatten := hD
    have hzt : zt = y_mthr := hzt
    have hz69 : 0 ≤ z6 ∧ z6 ≤ 9 := by omega
    refine lv_iload hx hb dL_law_1217 (lv_at hl 1 rfl) ?_
    refine zz_icmp_eq (tgt := 1224) hx hb dL_law_1219 (by decide) (by omega) (by omega) (fun _ => ?_) (fun c9 => absurd (by omega) c9)
    refine lv_iload hx hb dL_law_1224 (lv_at hl 1 rfl) ?_
    refine zz_if_ne (tgt := 1241) hx hb dL_law_1226 (by decide) (by omega) (fun _ => ?_) (fun c9 => absurd c9 (by omega))
    refine lv_goto (tgt := 2917) hx hb dL_law_1241 (by decide) ?_
    refine W.widen (k := k9 + 20) (n := n9 + 200) (by omega) (by omega) ?_
    exact kk v shrt w_grp seen tp shr need ordr size pos cmd vals txt len hc hn hs bt sv hsv mal fai lnb lml lct ms mbef msav misv mpast mpm y_mthr y_mways mnds mtkp mline mlm mtxt mlen mat mwr merr mfail mcmd mcm og dg _ _ _ hI2 hP hD hS (lv_sub hl [2, 3, 4, 5, 6, 7] rfl)

set_option maxHeartbeats 8000000 in
set_option maxRecDepth 100000 in
theorem law_c16 {p : Program} {l : Launch} (hst : l.stackTraces = false) {e : Env} {s : State} {m : MethodId} {below : List Frame} {meth : Method} {c : Code} {D : va_G} {tA : Nat → ClassId} {K : Nat → Nat} {b L : Nat} {xs : Nat → Int32} (hL : L ≤ 2560) (C0 : lw_At p s m meth c b L xs) (hK : zK D tA s) (hZ : zT K (lwA s) s) {ad am : Nat → Nat} {o od : Nat} {i n : Int} (hi : 0 ≤ i ∧ i + 5 ≤ L) (hn9 : n < 600) {k9 n9 : Nat} (hk9 : k9 + 20 ≤ 603072 ∧ n9 + 200 ≤ 7207018) {v : Nat → Int → Int} {shrt : Int → Int} {grp : Int → Int} {seen : Int → Int} {tp : Int → Int} {shr : Int → Int} {need : Int → Int} {ordr : Int → Int} {size : Int} {pos : Int} {cmd : Int} {vals : Int → Int} {txt : Int → Int} {len : Int} {hc : Int} {hn : Int} {hs : Nat → Nat → Int → Int} {bt : Nat → Int → Int} {sv : Nat → Int → Int} {hsv : Int} {mal : Int} {fai : Int} {lnb : Int → Int} {lml : Int} {lct : Int} {ms : Int → Int} {mbef : Int → Int} {msav : Int → Int} {misv : Int} {mpast : Int → Int} {mpm : Int} {mthr : Int} {mways : Int → Int} {mnds : Int → Int} {mtkp : Int → Int} {mline : Int → Int} {mlm : Int} {mtxt : Int → Int} {mlen : Int} {mat : Int} {mwr : Int} {merr : Int} {mfail : Int} {mcmd : Int → Int} {mcm : Int} {og : Int → Int} {dg : Nat → UInt64} {H : Heap} {locs : List Loc} {ls : Array Slot} (hI : LInv n v hs sv pos cmd vals txt len hc hn hsv mal fai lnb lct ms msav misv mpast mpm mline mlm mtxt mlen merr mfail mcmd) (hP : va_P D vwCl (xW tA K ad am o od v shrt grp seen tp shr need ordr size pos cmd vals txt len hc hn hs bt sv hsv mal fai lnb lml lct ms mbef msav misv mpast mpm mthr mways mnds mtkp mline mlm mtxt mlen mat mwr merr mfail mcmd mcm og dg).flatten H) (hD : va_D (lwA s) (xW tA K ad am o od v shrt grp seen tp shr need ordr size pos cmd vals txt len hc hn hs bt sv hsv mal fai lnb lml lct ms mbef msav misv mpast mpm mthr mways mnds mtkp mline mlm mtxt mlen mat mwr merr mfail mcmd mcm og dg).flatten) (hS : va_S (lwA s) s.heap H locs) (hl : lv_has ls 9 [(0, .ref b), (1, .ref (ad 0)), (2, .ref (am 0)), (3, .ref o), (4, .ref od), (5, .int (iI i))]) (kk : lwK p l e s m below meth c D tA K ad am o od b i n k9 n9) : W p l e room_1 s m #[Value.ref b] below meth c H locs k9 n9 (lw_Z below #[Value.ref b] s) (F0 m 1244 ls []) := by
  obtain ⟨hx, hb, hrt, hml, hown, hts, hX, hbl, hlocks, hgv⟩ := id C0
  have hts := lw_more hts
  have hA : ∀ q : Nat, s.heap.size ≤ q → lwA s q := fun _ h => h
  have hbA : ¬ lwA s b := Nat.not_le.mpr hbl
  have hCn := hZ.2.2.2
  obtain ⟨⟨n0, n6, l0, l6, ln⟩, hLS, ⟨hhn, hhc, hpm, hhi⟩, ⟨hsv01, hmis, hsvv, hsvr⟩, ⟨hlen, htxt, htx⟩, ⟨hlm, hln, hl0, hl16, hlb⟩, ⟨her, hfa, hm1, hm2, hf1, hf2⟩, ⟨hcd0, hcd1, hps0, hps1, hva⟩, hcr⟩ := id hI
  have hv := hLS.1
  have hr := hLS.2
  have hch : ChS v := hv.1
  have hu9 : ChW v := hv.2.1
  obtain ⟨-, -, hcc, hsp, hmo, hfog, hrg, hni, hfd, hmt9, hln9, hsum⟩ := SVk_out (show SVk _ _ (etS v) from hv)
  have hmv := rel_MV hv hr (by omega) (by omega)
  obtain ⟨e0, e1, e2, e3, e4, e5, e6⟩ := id hr.1
  have eE := rel_sE hch hr
  have hmon : ∀ j, 0 ≤ j → j < v 7 0 → 0 ≤ v 10 j ∧ v 10 j ≤ 6000000 := fun j j0 j1 => by have := hmo j j0 j1; omega
  have hlnd : ∀ j, 0 ≤ j → j < v 7 0 → (0 ≤ v 11 j ∧ v 11 j ≤ 600) ∧ (0 ≤ v 12 j ∧ v 12 j ≤ 600) := fun j j0 j1 => by have := hln9 j j0 j1; omega
  refine lv_aload_n hx hb dL_law_1244 rfl (lv_at hl 1 rfl) ?_
  refine lv_aload_n hx hb dL_law_1245 rfl (lv_at hl 0 rfl) ?_
  refine lv_iload hx hb dL_law_1246 (lv_at hl 5 rfl) ?_
  refine zz_iconst hx hb dL_law_1248 ?_
  refine zz_iadd hx hb dL_law_1249 ?_
  refine zz_sld hx hb hX hbl hbA hS (k := i + 1) (by omega) hL dL_law_1250 ?_
  refine lv_aload_n hx hb dL_law_1251 rfl (lv_at hl 0 rfl) ?_
  refine lv_iload hx hb dL_law_1252 (lv_at hl 5 rfl) ?_
  refine zz_iconst hx hb dL_law_1254 ?_
  refine zz_iadd hx hb dL_law_1255 ?_
  refine zz_sld hx hb hX hbl hbA hS (k := i + 2) (by omega) hL dL_law_1256 ?_
  refine lv_aload_n hx hb dL_law_1257 rfl (lv_at hl 3 rfl) ?_
  refine zh_callSi_ch (As := [.ref (ad 0), .int (iI (xz xs (i + 1))), .int (iI (xz xs (i + 2))), .ref o]) (rest := []) (L := [xOut tA o og, xOud tA od dg, xMod tA am ms mbef msav misv mpast mpm mthr mways mnds mtkp mline mlm mtxt mlen mat mwr merr mfail mcmd mcm, xObj ad hsv mal fai, xOff tA ad v shrt grp seen tp shr need ordr size, xScr tA K ad pos cmd vals txt len, xHis tA ad hc hn hs, xBef tA ad bt, xSav tA ad sv, xLin tA ad lnb lml lct]) (Lc := [xOut tA o og, xObj ad hsv mal fai, xOff tA ad v shrt grp seen tp shr need ordr size]) (Lr := [xOud tA od dg, xMod tA am ms mbef msav misv mpast mpm mthr mways mnds mtkp mline mlm mtxt mlen mat mwr merr mfail mcmd mcm, xScr tA K ad pos cmd vals txt len, xHis tA ad hc hn hs, xBef tA ad bt, xSav tA ad sv, xLin tA ad lnb lml lct]) (Lc' := fun u => Sum.elim (fun u => [xOut tA o (zU og 0 u.1), xObj ad hsv mal fai, xOff tA ad v shrt grp u.2 tp shr need ordr size]) (fun u => [xOut tA o og, xObj ad hsv mal fai, xOff tA ad v shrt grp u.2 tp shr need ordr size]) u) (Lf := fun u => Sum.elim (fun u => [xOut tA o (zU og 0 u.1), xOud tA od dg, xMod tA am ms mbef msav misv mpast mpm mthr mways mnds mtkp mline mlm mtxt mlen mat mwr merr mfail mcmd mcm, xObj ad hsv mal fai, xOff tA ad v shrt grp u.2 tp shr need ordr size, xScr tA K ad pos cmd vals txt len, xHis tA ad hc hn hs, xBef tA ad bt, xSav tA ad sv, xLin tA ad lnb lml lct]) (fun u => [xOut tA o og, xOud tA od dg, xMod tA am ms mbef msav misv mpast mpm mthr mways mnds mtkp mline mlm mtxt mlen mat mwr merr mfail mcmd mcm, xObj ad hsv mal fai, xOff tA ad v shrt grp u.2 tp shr need ordr size, xScr tA K ad pos cmd vals txt len, xHis tA ad hc hn hs, xBef tA ad bt, xSav tA ad sv, xLin tA ad lnb lml lct]) u) (is := [0, 3, 4, 1, 2, 5, 6, 7, 8, 9]) (isF := [7, 0, 1, 8, 9, 2, 3, 4, 5, 6]) ⟨hx, hb, hml, hown, hts⟩ (c_L_neededRangeByTrial l hst K D tA (ad 0) (ad 1) (ad 2) (ad 3) (ad 4) (ad 5) (ad 6) (ad 7) (ad 8) (ad 9) (ad 10) (ad 11) (ad 12) (ad 13) (ad 14) (ad 15) (ad 16) (ad 17) (ad 18) (ad 19) (ad 20) (ad 21) (ad 22) (ad 23) (ad 24) (ad 27) (ad 146) (ad 133) (ad 159) o H.size og (v 0 0) (v 1 0) (v 2) (v 3) (v 4) (v 5) (v 6) (v 7 0) (v 8) (v 9) (v 10) (v 11) (v 12) (v 13 0) (v 14 0) (v 15 0) (v 16 0) (v 17 0) (v 18 0) shrt grp seen tp shr need ordr size hsv mal fai  (xz xs (i + 1)) (xz xs (i + 2)) (xz_in _ _) (xz_in _ _) hch) (vx_cwSW 4 hts (gx_wr gL_law_L_neededRangeByTrial) rfl rfl rfl (by decide +kernel) ⟨Nat.le_of_ble_eq_true rfl, Nat.le_of_ble_eq_true rfl⟩) hK hP hD hS hA hZ ⟨rfl, rfl, (by decide)⟩ ⟨fun u => by cases u <;> rfl, fun u => by cases u <;> rfl, (by decide)⟩ rfl rfl hl.1 (Nat.le_of_ble_eq_true rfl) dL_law_1258 (by show k9 + 3 ≤ 603072 ∧ n9 + 18 ≤ 7207018; omega) ?_
  intro z6 u H locs hq hP hD hS
  rcases u with ⟨zc, u⟩ | u
  · obtain ⟨w_seen, rfl⟩ : ∃ q, q = u := ⟨_, rfl⟩
    obtain ⟨hz6, kq, hzr⟩ := hq
    have kq : inP (v 0 0) (xz xs (i + 1)) (xz xs (i + 2)) ∧ (xz xs (i + 1)) ≠ (xz xs (i + 2)) ∧ zc ≠ -1 ∧ needP (eg (v 1 0) (v 2) (v 3) (v 4) (v 5)) (xz xs (i + 1)) (xz xs (i + 2)) zc := kq
    have hz6 : z6 = 0 := hz6
    have hzr : -2147483648 ≤ zc ∧ zc ≤ 2147483647 := hzr
    have hP : va_P D vwCl ([xOut tA o (zU og 0 zc), xOud tA od dg, xMod tA am ms mbef msav misv mpast mpm mthr mways mnds mtkp mline mlm mtxt mlen mat mwr merr mfail mcmd mcm, xObj ad hsv mal fai, xOff tA ad v shrt grp w_seen tp shr need ordr size, xScr tA K ad pos cmd vals txt len, xHis tA ad hc hn hs, xBef tA ad bt, xSav tA ad sv, xLin tA ad lnb lml lct]).flatten H := hP
    have hD : va_D (lwA s) ([xOut tA o (zU og 0 zc), xOud tA od dg, xMod tA am ms mbef msav misv mpast mpm mthr mways mnds mtkp mline mlm mtxt mlen mat mwr merr mfail mcmd mcm, xObj ad hsv mal fai, xOff tA ad v shrt grp w_seen tp shr need ordr size, xScr tA K ad pos cmd vals txt len, xHis tA ad hc hn hs, xBef tA ad bt, xSav tA ad sv, xLin tA ad lnb lml lct]).flatten := hD
    refine lv_istore (lv' := [(6, .int (iI z6)), (0, .ref b), (1, .ref (ad 0)), (2, .ref (am 0)), (3, .ref o), (4, .ref od), (5, .int (iI i))]) hx hb dL_law_1261 hl (by decide) rfl (fun ls hl => ?_)
    refine lv_aload_n hx hb dL_law_1263 rfl (lv_at hl 3 rfl) ?_
    refine lv_aload_n hx hb dL_law_1264 rfl (lv_at hl 1 rfl) ?_
    refine lv_iload hx hb dL_law_1265 (lv_at hl 6 rfl) ?_
    refine zz_iconst hx hb dL_law_1267 ?_
    refine zz_iadd hx hb dL_law_1268 ?_
    refine zz_sld hx hb hX hbl hbA hS (k := i + 1) (by omega) hL dL_law_1269 ?_
    refine lv_aload_n hx hb dL_law_1270 rfl (lv_at hl 1 rfl) ?_
    refine lv_iload hx hb dL_law_1271 (lv_at hl 6 rfl) ?_
    refine zz_iconst hx hb dL_law_1273 ?_
    refine zz_iadd hx hb dL_law_1274 ?_
    refine zz_sld hx hb hX hbl hbA hS (k := i + 2) (by omega) hL dL_law_1275 ?_
    refine zz_callVi_ch (As := [.int (iI (xz xs (i + 1))), .int (iI (xz xs (i + 2)))]) (rest := []) (L := [xOut tA o (zU og 0 zc), xOud tA od dg, xMod tA am ms mbef msav misv mpast mpm mthr mways mnds mtkp mline mlm mtxt mlen mat mwr merr mfail mcmd mcm, xObj ad hsv mal fai, xOff tA ad v shrt grp w_seen tp shr need ordr size, xScr tA K ad pos cmd vals txt len, xHis tA ad hc hn hs, xBef tA ad bt, xSav tA ad sv, xLin tA ad lnb lml lct]) (Lc := [xMod tA am ms mbef msav misv mpast mpm mthr mways mnds mtkp mline mlm mtxt mlen mat mwr merr mfail mcmd mcm]) (Lr := [xOut tA o (zU og 0 zc), xOud tA od dg, xObj ad hsv mal fai, xOff tA ad v shrt grp w_seen tp shr need ordr size, xScr tA K ad pos cmd vals txt len, xHis tA ad hc hn hs, xBef tA ad bt, xSav tA ad sv, xLin tA ad lnb lml lct]) (Lc' := fun u => [xMod tA am ms mbef msav misv mpast mpm u.2 u.1 mnds mtkp mline mlm mtxt mlen mat mwr merr mfail mcmd mcm]) (Lf := fun u => [xOut tA o (zU og 0 zc), xOud tA od dg, xMod tA am ms mbef msav misv mpast mpm u.2 u.1 mnds mtkp mline mlm mtxt mlen mat mwr merr mfail mcmd mcm, xObj ad hsv mal fai, xOff tA ad v shrt grp w_seen tp shr need ordr size, xScr tA K ad pos cmd vals txt len, xHis tA ad hc hn hs, xBef tA ad bt, xSav tA ad sv, xLin tA ad lnb lml lct]) (is := [2, 0, 1, 3, 4, 5, 6, 7, 8, 9]) (isF := [0, 1, 9, 2, 3, 4, 5, 6, 7, 8]) ⟨hx, hb, hml, hown, hts⟩ (c_X11_neededRangeByTrial l D tA (am 0) (am 1) (am 2) (am 3) (am 4) (am 5) (am 6) (am 7) (am 8) (am 9) (am 10) H.size ms mbef msav misv mpast mpm mthr mways mnds mtkp mline mlm mtxt mlen mat mwr merr mfail mcmd mcm (xz xs (i + 1)) (xz xs (i + 2)) (xz_in _ _) (xz_in _ _) hmv.1) (cwV 2 hts (gx_tbl gL_law_X11_neededRangeByTrial) rfl rfl rfl (by decide +kernel) ⟨Nat.le_of_ble_eq_true rfl, Nat.le_of_ble_eq_true rfl⟩) hK hP hD hS hA ⟨rfl, rfl, (by decide)⟩ ⟨fun _ => rfl, fun _ => rfl, (by decide)⟩ (ci := 13) (q0 := 0) rfl rfl rfl rfl rfl hl.1 (Nat.le_of_ble_eq_true rfl) dL_law_1276 (by show _ + 0 ≤ 603072 ∧ _ + 0 ≤ 7207018; omega) ?_
    intro zb u H locs hmq hP hD hS
    obtain ⟨y_mways, y_mthr⟩ := u
    have hP : va_P D vwCl ([xOut tA o (zU og 0 zc), xOud tA od dg, xMod tA am ms mbef msav misv mpast mpm y_mthr y_mways mnds mtkp mline mlm mtxt mlen mat mwr merr mfail mcmd mcm, xObj ad hsv mal fai, xOff tA ad v shrt grp w_seen tp shr need ordr size, xScr tA K ad pos cmd vals txt len, xHis tA ad hc hn hs, xBef tA ad bt, xSav tA ad sv, xLin tA ad lnb lml lct]).flatten H := hP
    have hD : va_D (lwA s) ([xOut tA o (zU og 0 zc), xOud tA od dg, xMod tA am ms mbef msav misv mpast mpm y_mthr y_mways mnds mtkp mline mlm mtxt mlen mat mwr merr mfail mcmd mcm, xObj ad hsv mal fai, xOff tA ad v shrt grp w_seen tp shr need ordr size, xScr tA K ad pos cmd vals txt len, xHis tA ad hc hn hs, xBef tA ad bt, xSav tA ad sv, xLin tA ad lnb lml lct]).flatten := hD
    have mq : (y_mthr = 1 ∧ ¬ inP (ms 0) (xz xs (i + 1)) (xz xs (i + 2))) ∨ (inP (ms 0) (xz xs (i + 1)) (xz xs (i + 2)) ∧ ((y_mthr = 2 ∧ (xz xs (i + 1)) = (xz xs (i + 2))) ∨ ((xz xs (i + 1)) ≠ (xz xs (i + 2)) ∧ ((y_mthr = 3 ∧ needP (egM ms) (xz xs (i + 1)) (xz xs (i + 2)) (-1)) ∨ (y_mthr = 0 ∧ zb ≠ -1 ∧ needP (egM ms) (xz xs (i + 1)) (xz xs (i + 2)) zb))))) := hmq
    clear hmq
    refine lv_istore (lv' := [(7, .int (iI zb)), (6, .int (iI z6)), (0, .ref b), (1, .ref (ad 0)), (2, .ref (am 0)), (3, .ref o), (4, .ref od), (5, .int (iI i))]) hx hb dL_law_1279 hl (by decide) rfl (fun ls hl => ?_)
    have hTV : y_mthr = 0 ∧ zb = zc := by
      exact q_need hr eE kq mq
    have hT : y_mthr = z6 := hTV.1.trans hz6.symm
    have hI2 : LInv (n + 1) v hs sv pos cmd vals txt len hc hn hsv mal fai lnb lct ms msav misv mpast mpm mline mlm mtxt mlen merr mfail mcmd := by
      exact LI_q hn9 hI
    refine lv_aload_n hx hb dL_law_1281 rfl (lv_at hl 4 rfl) ?_
    refine zz_callVi_ch (As := []) (rest := []) (L := [xOut tA o (zU og 0 zc), xOud tA od dg, xMod tA am ms mbef msav misv mpast mpm y_mthr y_mways mnds mtkp mline mlm mtxt mlen mat mwr merr mfail mcmd mcm, xObj ad hsv mal fai, xOff tA ad v shrt grp w_seen tp shr need ordr size, xScr tA K ad pos cmd vals txt len, xHis tA ad hc hn hs, xBef tA ad bt, xSav tA ad sv, xLin tA ad lnb lml lct]) (Lc := [xMod tA am ms mbef msav misv mpast mpm y_mthr y_mways mnds mtkp mline mlm mtxt mlen mat mwr merr mfail mcmd mcm]) (Lr := [xOut tA o (zU og 0 zc), xOud tA od dg, xObj ad hsv mal fai, xOff tA ad v shrt grp w_seen tp shr need ordr size, xScr tA K ad pos cmd vals txt len, xHis tA ad hc hn hs, xBef tA ad bt, xSav tA ad sv, xLin tA ad lnb lml lct]) (Lc' := fun u => [xMod tA am ms mbef msav misv mpast mpm y_mthr y_mways mnds mtkp mline mlm mtxt mlen mat mwr merr mfail mcmd mcm]) (Lf := fun u => [xOut tA o (zU og 0 zc), xOud tA od dg, xMod tA am ms mbef msav misv mpast mpm y_mthr y_mways mnds mtkp mline mlm mtxt mlen mat mwr merr mfail mcmd mcm, xObj ad hsv mal fai, xOff tA ad v shrt grp w_seen tp shr need ordr size, xScr tA K ad pos cmd vals txt len, xHis tA ad hc hn hs, xBef tA ad bt, xSav tA ad sv, xLin tA ad lnb lml lct]) (is := [2, 0, 1, 3, 4, 5, 6, 7, 8, 9]) (isF := [0, 1, 9, 2, 3, 4, 5, 6, 7, 8]) ⟨hx, hb, hml, hown, hts⟩ (c_X11_thrown l D tA (am 0) (am 1) (am 2) (am 3) (am 4) (am 5) (am 6) (am 7) (am 8) (am 9) (am 10) H.size ms mbef msav misv mpast mpm y_mthr y_mways mnds mtkp mline mlm mtxt mlen mat mwr merr mfail mcmd mcm) (cwV 0 hts (gx_tbl gL_law_X11_thrown) rfl rfl rfl (by decide +kernel) ⟨Nat.le_of_ble_eq_true rfl, Nat.le_of_ble_eq_true rfl⟩) hK hP hD hS hA ⟨rfl, rfl, (by decide)⟩ ⟨fun _ => rfl, fun _ => rfl, (by decide)⟩ (ci := 13) (q0 := 0) rfl rfl rfl rfl rfl hl.1 (Nat.le_of_ble_eq_true rfl) dL_law_1282 (by show _ + 0 ≤ 603072 ∧ _ + 0 ≤ 7207018; omega) ?_
    intro zt u H locs hzt hP hD hS
    have hP : va_P D vwCl ([xOut tA o (zU og 0 zc), xOud tA od dg, xMod tA am ms mbef msav misv mpast mpm y_mthr y_mways mnds mtkp mline mlm mtxt mlen mat mwr merr mfail mcmd mcm, xObj ad hsv mal fai, xOff tA ad v shrt grp w_seen tp shr need ordr size, xScr tA K ad pos cmd vals txt len, xHis tA ad hc hn hs, xBef tA ad bt, xSav tA ad sv, xLin tA ad lnb lml lct]).flatten H := hP
    have hD : va_D (lwA s) ([xOut tA o (zU og 0 zc), xOud tA od dg, xMod tA am ms mbef msav misv mpast mpm y_mthr y_mways mnds mtkp mline mlm mtxt mlen mat mwr merr mfail mcmd mcm, xObj ad hsv mal fai, xOff tA ad v shrt grp w_seen tp shr need ordr size, xScr tA K ad pos cmd vals txt len, xHis tA ad hc hn hs, xBef tA ad bt, xSav tA ad sv, xLin tA ad lnb lml lct]).flatten := hD
    have hzt : zt = y_mthr := hzt
    have hz69 : 0 ≤ z6 ∧ z6 ≤ 9 := by omega
    refine lv_iload hx hb dL_law_1285 (lv_at hl 1 rfl) ?_
    refine zz_icmp_eq (tgt := 1292) hx hb dL_law_1287 (by decide) (by omega) (by omega) (fun _ => ?_) (fun c9 => absurd (by omega) c9)
    refine lv_iload hx hb dL_law_1292 (lv_at hl 1 rfl) ?_
    refine zz_if_ne (tgt := 1309) hx hb dL_law_1294 (by decide) (by omega) (fun c9 => absurd hz6 c9) (fun _ => ?_)
    refine lv_aload_n hx hb dL_law_1297 rfl (lv_at hl 5 rfl) ?_
    refine zz_iconst hx hb dL_law_1298 ?_
    refine zz_lald hx hb hK hP 0 rfl (by decide) (by decide) dL_law_1299 ?_
    rw [zU_same]
    refine lv_iload hx hb dL_law_1300 (lv_at hl 0 rfl) ?_
    refine zz_i2l hx hb dL_law_1302 (by omega) ?_
    rw [hTV.2]
    refine zz_lcmp hx hb dL_law_1303 (by omega) (by omega) ?_
    rw [cmpZ_s]
    refine zz_if_eq (tgt := 1309) hx hb dL_law_1304 (by decide) (by decide) (fun _ => ?_) (fun c9 => absurd rfl c9)
    refine lv_goto (tgt := 2917) hx hb dL_law_1309 (by decide) ?_
    refine W.widen (k := k9 + 20) (n := n9 + 200) (by omega) (by omega) ?_
    exact kk v shrt grp w_seen tp shr need ordr size pos cmd vals txt len hc hn hs bt sv hsv mal fai lnb lml lct ms mbef msav misv mpast mpm y_mthr y_mways mnds mtkp mline mlm mtxt mlen mat mwr merr mfail mcmd mcm (zU og 0 zc) dg _ _ _ hI2 hP hD hS (lv_sub hl [2, 3, 4, 5, 6, 7] rfl)
  · obtain ⟨kx, w_seen⟩ := u
    have kq : (kx = 1 ∧ ¬ inP (v 0 0) (xz xs (i + 1)) (xz xs (i + 2))) ∨ (kx = 2 ∧ inP (v 0 0) (xz xs (i + 1)) (xz xs (i + 2)) ∧ (xz xs (i + 1)) = (xz xs (i + 2))) ∨ (kx = 4 ∧ inP (v 0 0) (xz xs (i + 1)) (xz xs (i + 2)) ∧ (xz xs (i + 1)) ≠ (xz xs (i + 2)) ∧ needP (eg (v 1 0) (v 2) (v 3) (v 4) (v 5)) (xz xs (i + 1)) (xz xs (i + 2)) (-1)) := hq.1
    have kc : (kx = 1 ∧ z6 = 1) ∨ (kx = 2 ∧ z6 = 2) ∨ (kx = 4 ∧ z6 = 3) := hq.2
    have hP : va_P D vwCl ([xOut tA o og, xOud tA od dg, xMod tA am ms mbef msav misv mpast mpm mthr mways mnds mtkp mline mlm mtxt mlen mat mwr merr mfail mcmd mcm, xObj ad hsv mal fai, xOff tA ad v shrt grp w_seen tp shr need ordr size, xScr tA K ad pos cmd vals txt len, xHis tA ad hc hn hs, xBef tA ad bt, xSav tA ad sv, xLin tA ad lnb lml lct]).flatten H := hP
    have hD : va_D (lwA s) ([xOut tA o og, xOud tA od dg, xMod tA am ms mbef msav misv mpast mpm mthr mways mnds mtkp mline mlm mtxt mlen mat mwr merr mfail mcmd mcm, xObj ad hsv mal fai, xOff tA ad v shrt grp w_seen tp shr need ordr size, xScr tA K ad pos cmd vals txt len, xHis tA ad hc hn hs, xBef tA ad bt, xSav tA ad sv, xLin tA ad lnb lml lct]).flatten := hD
    refine lv_istore (lv' := [(6, .int (iI z6)), (0, .ref b), (1, .ref (ad 0)), (2, .ref (am 0)), (3, .ref o), (4, .ref od), (5, .int (iI i))]) hx hb dL_law_1261 hl (by decide) rfl (fun ls hl => ?_)
    refine lv_aload_n hx hb dL_law_1263 rfl (lv_at hl 3 rfl) ?_
    refine lv_aload_n hx hb dL_law_1264 rfl (lv_at hl 1 rfl) ?_
    refine lv_iload hx hb dL_law_1265 (lv_at hl 6 rfl) ?_
    refine zz_iconst hx hb dL_law_1267 ?_
    refine zz_iadd hx hb dL_law_1268 ?_
    refine zz_sld hx hb hX hbl hbA hS (k := i + 1) (by omega) hL dL_law_1269 ?_
    refine lv_aload_n hx hb dL_law_1270 rfl (lv_at hl 1 rfl) ?_
    refine lv_iload hx hb dL_law_1271 (lv_at hl 6 rfl) ?_
    refine zz_iconst hx hb dL_law_1273 ?_
    refine zz_iadd hx hb dL_law_1274 ?_
    refine zz_sld hx hb hX hbl hbA hS (k := i + 2) (by omega) hL dL_law_1275 ?_
    refine zz_callVi_ch (As := [.int (iI (xz xs (i + 1))), .int (iI (xz xs (i + 2)))]) (rest := []) (L := [xOut tA o og, xOud tA od dg, xMod tA am ms mbef msav misv mpast mpm mthr mways mnds mtkp mline mlm mtxt mlen mat mwr merr mfail mcmd mcm, xObj ad hsv mal fai, xOff tA ad v shrt grp w_seen tp shr need ordr size, xScr tA K ad pos cmd vals txt len, xHis tA ad hc hn hs, xBef tA ad bt, xSav tA ad sv, xLin tA ad lnb lml lct]) (Lc := [xMod tA am ms mbef msav misv mpast mpm mthr mways mnds mtkp mline mlm mtxt mlen mat mwr merr mfail mcmd mcm]) (Lr := [xOut tA o og, xOud tA od dg, xObj ad hsv mal fai, xOff tA ad v shrt grp w_seen tp shr need ordr size, xScr tA K ad pos cmd vals txt len, xHis tA ad hc hn hs, xBef tA ad bt, xSav tA ad sv, xLin tA ad lnb lml lct]) (Lc' := fun u => [xMod tA am ms mbef msav misv mpast mpm u.2 u.1 mnds mtkp mline mlm mtxt mlen mat mwr merr mfail mcmd mcm]) (Lf := fun u => [xOut tA o og, xOud tA od dg, xMod tA am ms mbef msav misv mpast mpm u.2 u.1 mnds mtkp mline mlm mtxt mlen mat mwr merr mfail mcmd mcm, xObj ad hsv mal fai, xOff tA ad v shrt grp w_seen tp shr need ordr size, xScr tA K ad pos cmd vals txt len, xHis tA ad hc hn hs, xBef tA ad bt, xSav tA ad sv, xLin tA ad lnb lml lct]) (is := [2, 0, 1, 3, 4, 5, 6, 7, 8, 9]) (isF := [0, 1, 9, 2, 3, 4, 5, 6, 7, 8]) ⟨hx, hb, hml, hown, hts⟩ (c_X11_neededRangeByTrial l D tA (am 0) (am 1) (am 2) (am 3) (am 4) (am 5) (am 6) (am 7) (am 8) (am 9) (am 10) H.size ms mbef msav misv mpast mpm mthr mways mnds mtkp mline mlm mtxt mlen mat mwr merr mfail mcmd mcm (xz xs (i + 1)) (xz xs (i + 2)) (xz_in _ _) (xz_in _ _) hmv.1) (cwV 2 hts (gx_tbl gL_law_X11_neededRangeByTrial) rfl rfl rfl (by decide +kernel) ⟨Nat.le_of_ble_eq_true rfl, Nat.le_of_ble_eq_true rfl⟩) hK hP hD hS hA ⟨rfl, rfl, (by decide)⟩ ⟨fun _ => rfl, fun _ => rfl, (by decide)⟩ (ci := 13) (q0 := 0) rfl rfl rfl rfl rfl hl.1 (Nat.le_of_ble_eq_true rfl) dL_law_1276 (by show _ + 0 ≤ 603072 ∧ _ + 0 ≤ 7207018; omega) ?_
    intro zb u H locs hmq hP hD hS
    obtain ⟨y_mways, y_mthr⟩ := u
    have hP : va_P D vwCl ([xOut tA o og, xOud tA od dg, xMod tA am ms mbef msav misv mpast mpm y_mthr y_mways mnds mtkp mline mlm mtxt mlen mat mwr merr mfail mcmd mcm, xObj ad hsv mal fai, xOff tA ad v shrt grp w_seen tp shr need ordr size, xScr tA K ad pos cmd vals txt len, xHis tA ad hc hn hs, xBef tA ad bt, xSav tA ad sv, xLin tA ad lnb lml lct]).flatten H := hP
    have hD : va_D (lwA s) ([xOut tA o og, xOud tA od dg, xMod tA am ms mbef msav misv mpast mpm y_mthr y_mways mnds mtkp mline mlm mtxt mlen mat mwr merr mfail mcmd mcm, xObj ad hsv mal fai, xOff tA ad v shrt grp w_seen tp shr need ordr size, xScr tA K ad pos cmd vals txt len, xHis tA ad hc hn hs, xBef tA ad bt, xSav tA ad sv, xLin tA ad lnb lml lct]).flatten := hD
    have mq : (y_mthr = 1 ∧ ¬ inP (ms 0) (xz xs (i + 1)) (xz xs (i + 2))) ∨ (inP (ms 0) (xz xs (i + 1)) (xz xs (i + 2)) ∧ ((y_mthr = 2 ∧ (xz xs (i + 1)) = (xz xs (i + 2))) ∨ ((xz xs (i + 1)) ≠ (xz xs (i + 2)) ∧ ((y_mthr = 3 ∧ needP (egM ms) (xz xs (i + 1)) (xz xs (i + 2)) (-1)) ∨ (y_mthr = 0 ∧ zb ≠ -1 ∧ needP (egM ms) (xz xs (i + 1)) (xz xs (i + 2)) zb))))) := hmq
    clear hmq
    refine lv_istore (lv' := [(7, .int (iI zb)), (6, .int (iI z6)), (0, .ref b), (1, .ref (ad 0)), (2, .ref (am 0)), (3, .ref o), (4, .ref od), (5, .int (iI i))]) hx hb dL_law_1279 hl (by decide) rfl (fun ls hl => ?_)
    have hT : y_mthr = z6 := by
      exact x_need hr eE kq kc mq
    have hI2 : LInv (n + 1) v hs sv pos cmd vals txt len hc hn hsv mal fai lnb lct ms msav misv mpast mpm mline mlm mtxt mlen merr mfail mcmd := by
      exact LI_q hn9 hI
    refine lv_aload_n hx hb dL_law_1281 rfl (lv_at hl 4 rfl) ?_
    refine zz_callVi_ch (As := []) (rest := []) (L := [xOut tA o og, xOud tA od dg, xMod tA am ms mbef msav misv mpast mpm y_mthr y_mways mnds mtkp mline mlm mtxt mlen mat mwr merr mfail mcmd mcm, xObj ad hsv mal fai, xOff tA ad v shrt grp w_seen tp shr need ordr size, xScr tA K ad pos cmd vals txt len, xHis tA ad hc hn hs, xBef tA ad bt, xSav tA ad sv, xLin tA ad lnb lml lct]) (Lc := [xMod tA am ms mbef msav misv mpast mpm y_mthr y_mways mnds mtkp mline mlm mtxt mlen mat mwr merr mfail mcmd mcm]) (Lr := [xOut tA o og, xOud tA od dg, xObj ad hsv mal fai, xOff tA ad v shrt grp w_seen tp shr need ordr size, xScr tA K ad pos cmd vals txt len, xHis tA ad hc hn hs, xBef tA ad bt, xSav tA ad sv, xLin tA ad lnb lml lct]) (Lc' := fun u => [xMod tA am ms mbef msav misv mpast mpm y_mthr y_mways mnds mtkp mline mlm mtxt mlen mat mwr merr mfail mcmd mcm]) (Lf := fun u => [xOut tA o og, xOud tA od dg, xMod tA am ms mbef msav misv mpast mpm y_mthr y_mways mnds mtkp mline mlm mtxt mlen mat mwr merr mfail mcmd mcm, xObj ad hsv mal fai, xOff tA ad v shrt grp w_seen tp shr need ordr size, xScr tA K ad pos cmd vals txt len, xHis tA ad hc hn hs, xBef tA ad bt, xSav tA ad sv, xLin tA ad lnb lml lct]) (is := [2, 0, 1, 3, 4, 5, 6, 7, 8, 9]) (isF := [0, 1, 9, 2, 3, 4, 5, 6, 7, 8]) ⟨hx, hb, hml, hown, hts⟩ (c_X11_thrown l D tA (am 0) (am 1) (am 2) (am 3) (am 4) (am 5) (am 6) (am 7) (am 8) (am 9) (am 10) H.size ms mbef msav misv mpast mpm y_mthr y_mways mnds mtkp mline mlm mtxt mlen mat mwr merr mfail mcmd mcm) (cwV 0 hts (gx_tbl gL_law_X11_thrown) rfl rfl rfl (by decide +kernel) ⟨Nat.le_of_ble_eq_true rfl, Nat.le_of_ble_eq_true rfl⟩) hK hP hD hS hA ⟨rfl, rfl, (by decide)⟩ ⟨fun _ => rfl, fun _ => rfl, (by decide)⟩ (ci := 13) (q0 := 0) rfl rfl rfl rfl rfl hl.1 (Nat.le_of_ble_eq_true rfl) dL_law_1282 (by show _ + 0 ≤ 603072 ∧ _ + 0 ≤ 7207018; omega) ?_
    intro zt u H locs hzt hP hD hS
    have hP : va_P D vwCl ([xOut tA o og, xOud tA od dg, xMod tA am ms mbef msav misv mpast mpm y_mthr y_mways mnds mtkp mline mlm mtxt mlen mat mwr merr mfail mcmd mcm, xObj ad hsv mal fai, xOff tA ad v shrt grp w_seen tp shr need ordr size, xScr tA K ad pos cmd vals txt len, xHis tA ad hc hn hs, xBef tA ad bt, xSav tA ad sv, xLin tA ad lnb lml lct]).flatten H := hP
    have hD : va_D (lwA s) ([xOut tA o og, xOud tA od dg, xMod tA am ms mbef msav misv mpast mpm y_mthr y_mways mnds mtkp mline mlm mtxt mlen mat mwr merr mfail mcmd mcm, xObj ad hsv mal fai, xOff tA ad v shrt grp w_seen tp shr need ordr size, xScr tA K ad pos cmd vals txt len, xHis tA ad hc hn hs, xBef tA ad bt, xSav tA ad sv, xLin tA ad lnb lml lct]).flatten := hD
    have hzt : zt = y_mthr := hzt
    have hz69 : 0 ≤ z6 ∧ z6 ≤ 9 := by omega
    refine lv_iload hx hb dL_law_1285 (lv_at hl 1 rfl) ?_
    refine zz_icmp_eq (tgt := 1292) hx hb dL_law_1287 (by decide) (by omega) (by omega) (fun _ => ?_) (fun c9 => absurd (by omega) c9)
    refine lv_iload hx hb dL_law_1292 (lv_at hl 1 rfl) ?_
    refine zz_if_ne (tgt := 1309) hx hb dL_law_1294 (by decide) (by omega) (fun _ => ?_) (fun c9 => absurd c9 (by omega))
    refine lv_goto (tgt := 2917) hx hb dL_law_1309 (by decide) ?_
    refine W.widen (k := k9 + 20) (n := n9 + 200) (by omega) (by omega) ?_
    exact kk v shrt grp w_seen tp shr need ordr size pos cmd vals txt len hc hn hs bt sv hsv mal fai lnb lml lct ms mbef msav misv mpast mpm y_mthr y_mways mnds mtkp mline mlm mtxt mlen mat mwr merr mfail mcmd mcm og dg _ _ _ hI2 hP hD hS (lv_sub hl [2, 3, 4, 5, 6, 7] rfl)

set_option maxHeartbeats 8000000 in
set_option maxRecDepth 100000 in
theorem law_c17 {p : Program} {l : Launch} (hst : l.stackTraces = false) {e : Env} {s : State} {m : MethodId} {below : List Frame} {meth : Method} {c : Code} {D : va_G} {tA : Nat → ClassId} {K : Nat → Nat} {b L : Nat} {xs : Nat → Int32} (hL : L ≤ 2560) (C0 : lw_At p s m meth c b L xs) (hK : zK D tA s) (hZ : zT K (lwA s) s) {ad am : Nat → Nat} {o od : Nat} {i n : Int} (hi : 0 ≤ i ∧ i + 5 ≤ L) (hn9 : n < 600) {k9 n9 : Nat} (hk9 : k9 + 20 ≤ 603072 ∧ n9 + 200 ≤ 7207018) {v : Nat → Int → Int} {shrt : Int → Int} {grp : Int → Int} {seen : Int → Int} {tp : Int → Int} {shr : Int → Int} {need : Int → Int} {ordr : Int → Int} {size : Int} {pos : Int} {cmd : Int} {vals : Int → Int} {txt : Int → Int} {len : Int} {hc : Int} {hn : Int} {hs : Nat → Nat → Int → Int} {bt : Nat → Int → Int} {sv : Nat → Int → Int} {hsv : Int} {mal : Int} {fai : Int} {lnb : Int → Int} {lml : Int} {lct : Int} {ms : Int → Int} {mbef : Int → Int} {msav : Int → Int} {misv : Int} {mpast : Int → Int} {mpm : Int} {mthr : Int} {mways : Int → Int} {mnds : Int → Int} {mtkp : Int → Int} {mline : Int → Int} {mlm : Int} {mtxt : Int → Int} {mlen : Int} {mat : Int} {mwr : Int} {merr : Int} {mfail : Int} {mcmd : Int → Int} {mcm : Int} {og : Int → Int} {dg : Nat → UInt64} {H : Heap} {locs : List Loc} {ls : Array Slot} (hI : LInv n v hs sv pos cmd vals txt len hc hn hsv mal fai lnb lct ms msav misv mpast mpm mline mlm mtxt mlen merr mfail mcmd) (hP : va_P D vwCl (xW tA K ad am o od v shrt grp seen tp shr need ordr size pos cmd vals txt len hc hn hs bt sv hsv mal fai lnb lml lct ms mbef msav misv mpast mpm mthr mways mnds mtkp mline mlm mtxt mlen mat mwr merr mfail mcmd mcm og dg).flatten H) (hD : va_D (lwA s) (xW tA K ad am o od v shrt grp seen tp shr need ordr size pos cmd vals txt len hc hn hs bt sv hsv mal fai lnb lml lct ms mbef msav misv mpast mpm mthr mways mnds mtkp mline mlm mtxt mlen mat mwr merr mfail mcmd mcm og dg).flatten) (hS : va_S (lwA s) s.heap H locs) (hl : lv_has ls 9 [(0, .ref b), (1, .ref (ad 0)), (2, .ref (am 0)), (3, .ref o), (4, .ref od), (5, .int (iI i))]) (kk : lwK p l e s m below meth c D tA K ad am o od b i n k9 n9) : W p l e room_1 s m #[Value.ref b] below meth c H locs k9 n9 (lw_Z below #[Value.ref b] s) (F0 m 1312 ls []) := by
  obtain ⟨hx, hb, hrt, hml, hown, hts, hX, hbl, hlocks, hgv⟩ := id C0
  have hts := lw_more hts
  have hA : ∀ q : Nat, s.heap.size ≤ q → lwA s q := fun _ h => h
  have hbA : ¬ lwA s b := Nat.not_le.mpr hbl
  have hCn := hZ.2.2.2
  obtain ⟨⟨n0, n6, l0, l6, ln⟩, hLS, ⟨hhn, hhc, hpm, hhi⟩, ⟨hsv01, hmis, hsvv, hsvr⟩, ⟨hlen, htxt, htx⟩, ⟨hlm, hln, hl0, hl16, hlb⟩, ⟨her, hfa, hm1, hm2, hf1, hf2⟩, ⟨hcd0, hcd1, hps0, hps1, hva⟩, hcr⟩ := id hI
  have hv := hLS.1
  have hr := hLS.2
  have hch : ChS v := hv.1
  have hu9 : ChW v := hv.2.1
  obtain ⟨-, -, hcc, hsp, hmo, hfog, hrg, hni, hfd, hmt9, hln9, hsum⟩ := SVk_out (show SVk _ _ (etS v) from hv)
  have hmv := rel_MV hv hr (by omega) (by omega)
  obtain ⟨e0, e1, e2, e3, e4, e5, e6⟩ := id hr.1
  have eE := rel_sE hch hr
  have hmon : ∀ j, 0 ≤ j → j < v 7 0 → 0 ≤ v 10 j ∧ v 10 j ≤ 6000000 := fun j j0 j1 => by have := hmo j j0 j1; omega
  have hlnd : ∀ j, 0 ≤ j → j < v 7 0 → (0 ≤ v 11 j ∧ v 11 j ≤ 600) ∧ (0 ≤ v 12 j ∧ v 12 j ≤ 600) := fun j j0 j1 => by have := hln9 j j0 j1; omega
  refine lv_aload_n hx hb dL_law_1312 rfl (lv_at hl 1 rfl) ?_
  refine zz_callVi_ch (As := []) (rest := []) (L := [xOut tA o og, xOud tA od dg, xMod tA am ms mbef msav misv mpast mpm mthr mways mnds mtkp mline mlm mtxt mlen mat mwr merr mfail mcmd mcm, xObj ad hsv mal fai, xOff tA ad v shrt grp seen tp shr need ordr size, xScr tA K ad pos cmd vals txt len, xHis tA ad hc hn hs, xBef tA ad bt, xSav tA ad sv, xLin tA ad lnb lml lct]) (Lc := [xObj ad hsv mal fai, xOff tA ad v shrt grp seen tp shr need ordr size]) (Lr := [xOut tA o og, xOud tA od dg, xMod tA am ms mbef msav misv mpast mpm mthr mways mnds mtkp mline mlm mtxt mlen mat mwr merr mfail mcmd mcm, xScr tA K ad pos cmd vals txt len, xHis tA ad hc hn hs, xBef tA ad bt, xSav tA ad sv, xLin tA ad lnb lml lct]) (Lc' := fun u => [xObj ad hsv mal fai, xOff tA ad v shrt u seen tp shr need ordr size]) (Lf := fun u => [xOut tA o og, xOud tA od dg, xMod tA am ms mbef msav misv mpast mpm mthr mways mnds mtkp mline mlm mtxt mlen mat mwr merr mfail mcmd mcm, xObj ad hsv mal fai, xOff tA ad v shrt u seen tp shr need ordr size, xScr tA K ad pos cmd vals txt len, xHis tA ad hc hn hs, xBef tA ad bt, xSav tA ad sv, xLin tA ad lnb lml lct]) (is := [3, 4, 0, 1, 2, 5, 6, 7, 8, 9]) (isF := [0, 1, 2, 8, 9, 3, 4, 5, 6, 7]) ⟨hx, hb, hml, hown, hts⟩ (c_X10_litGroups l D tA (ad 0) (ad 1) (ad 2) (ad 3) (ad 4) (ad 5) (ad 6) (ad 7) (ad 8) (ad 9) (ad 10) (ad 11) (ad 12) (ad 13) (ad 14) (ad 15) (ad 16) (ad 17) (ad 18) (ad 19) (ad 20) (ad 21) (ad 22) (ad 23) (ad 24) (ad 27) (ad 146) (ad 133) (ad 159) H.size (v 0 0) (v 1 0) (v 2) (v 3) (v 4) (v 5) (v 6) (v 7 0) (v 8) (v 9) (v 10) (v 11) (v 12) (v 13 0) (v 14 0) (v 15 0) (v 16 0) (v 17 0) (v 18 0) shrt grp seen tp shr need ordr size hsv mal fai hch hrg) (cwV 0 hts (gx_tbl gL_law_X10_litGroups) rfl rfl rfl (by decide +kernel) ⟨Nat.le_of_ble_eq_true rfl, Nat.le_of_ble_eq_true rfl⟩) hK hP hD hS hA ⟨rfl, rfl, (by decide)⟩ ⟨fun _ => rfl, fun _ => rfl, (by decide)⟩ (ci := 12) (q0 := 0) rfl rfl rfl rfl rfl hl.1 (Nat.le_of_ble_eq_true rfl) dL_law_1313 (by show _ + 0 ≤ 603072 ∧ _ + 0 ≤ 7207018; omega) ?_
  intro zc u H locs hq hP hD hS
  obtain ⟨w_grp, rfl⟩ : ∃ q, q = u := ⟨_, rfl⟩
  have hP : va_P D vwCl ([xOut tA o og, xOud tA od dg, xMod tA am ms mbef msav misv mpast mpm mthr mways mnds mtkp mline mlm mtxt mlen mat mwr merr mfail mcmd mcm, xObj ad hsv mal fai, xOff tA ad v shrt w_grp seen tp shr need ordr size, xScr tA K ad pos cmd vals txt len, xHis tA ad hc hn hs, xBef tA ad bt, xSav tA ad sv, xLin tA ad lnb lml lct]).flatten H := hP
  have hD : va_D (lwA s) ([xOut tA o og, xOud tA od dg, xMod tA am ms mbef msav misv mpast mpm mthr mways mnds mtkp mline mlm mtxt mlen mat mwr merr mfail mcmd mcm, xObj ad hsv mal fai, xOff tA ad v shrt w_grp seen tp shr need ordr size, xScr tA K ad pos cmd vals txt len, xHis tA ad hc hn hs, xBef tA ad bt, xSav tA ad sv, xLin tA ad lnb lml lct]).flatten := hD
  have kq : grpP (eg (v 1 0) (v 2) (v 3) (v 4) (v 5) (v 13 0)) (v 0 0) zc := hq
  refine lv_aload_n hx hb dL_law_1316 rfl (lv_at hl 2 rfl) ?_
  refine zz_callVi_ch (As := []) (rest := [.int (iI zc)]) (L := [xOut tA o og, xOud tA od dg, xMod tA am ms mbef msav misv mpast mpm mthr mways mnds mtkp mline mlm mtxt mlen mat mwr merr mfail mcmd mcm, xObj ad hsv mal fai, xOff tA ad v shrt w_grp seen tp shr need ordr size, xScr tA K ad pos cmd vals txt len, xHis tA ad hc hn hs, xBef tA ad bt, xSav tA ad sv, xLin tA ad lnb lml lct]) (Lc := [xMod tA am ms mbef msav misv mpast mpm mthr mways mnds mtkp mline mlm mtxt mlen mat mwr merr mfail mcmd mcm]) (Lr := [xOut tA o og, xOud tA od dg, xObj ad hsv mal fai, xOff tA ad v shrt w_grp seen tp shr need ordr size, xScr tA K ad pos cmd vals txt len, xHis tA ad hc hn hs, xBef tA ad bt, xSav tA ad sv, xLin tA ad lnb lml lct]) (Lc' := fun u => [xMod tA am ms mbef msav misv mpast mpm 0 u mnds mtkp mline mlm mtxt mlen mat mwr merr mfail mcmd mcm]) (Lf := fun u => [xOut tA o og, xOud tA od dg, xMod tA am ms mbef msav misv mpast mpm 0 u mnds mtkp mline mlm mtxt mlen mat mwr merr mfail mcmd mcm, xObj ad hsv mal fai, xOff tA ad v shrt w_grp seen tp shr need ordr size, xScr tA K ad pos cmd vals txt len, xHis tA ad hc hn hs, xBef tA ad bt, xSav tA ad sv, xLin tA ad lnb lml lct]) (is := [2, 0, 1, 3, 4, 5, 6, 7, 8, 9]) (isF := [0, 1, 9, 2, 3, 4, 5, 6, 7, 8]) ⟨hx, hb, hml, hown, hts⟩ (c_X11_litGroups l D tA (am 0) (am 1) (am 2) (am 3) (am 4) (am 5) (am 6) (am 7) (am 8) (am 9) (am 10) H.size ms mbef msav misv mpast mpm mthr mways mnds mtkp mline mlm mtxt mlen mat mwr merr mfail mcmd mcm  hmv.1) (cwV 0 hts (gx_tbl gL_law_X11_litGroups) rfl rfl rfl (by decide +kernel) ⟨Nat.le_of_ble_eq_true rfl, Nat.le_of_ble_eq_true rfl⟩) hK hP hD hS hA ⟨rfl, rfl, (by decide)⟩ ⟨fun _ => rfl, fun _ => rfl, (by decide)⟩ (ci := 13) (q0 := 0) rfl rfl rfl rfl rfl hl.1 (Nat.le_of_ble_eq_true rfl) dL_law_1317 (by show _ + 0 ≤ 603072 ∧ _ + 0 ≤ 7207018; omega) ?_
  intro zb u H locs hmq hP hD hS
  obtain ⟨y_mways, rfl⟩ : ∃ q, q = u := ⟨_, rfl⟩
  have hP : va_P D vwCl ([xOut tA o og, xOud tA od dg, xMod tA am ms mbef msav misv mpast mpm 0 y_mways mnds mtkp mline mlm mtxt mlen mat mwr merr mfail mcmd mcm, xObj ad hsv mal fai, xOff tA ad v shrt w_grp seen tp shr need ordr size, xScr tA K ad pos cmd vals txt len, xHis tA ad hc hn hs, xBef tA ad bt, xSav tA ad sv, xLin tA ad lnb lml lct]).flatten H := hP
  have hD : va_D (lwA s) ([xOut tA o og, xOud tA od dg, xMod tA am ms mbef msav misv mpast mpm 0 y_mways mnds mtkp mline mlm mtxt mlen mat mwr merr mfail mcmd mcm, xObj ad hsv mal fai, xOff tA ad v shrt w_grp seen tp shr need ordr size, xScr tA K ad pos cmd vals txt len, xHis tA ad hc hn hs, xBef tA ad bt, xSav tA ad sv, xLin tA ad lnb lml lct]).flatten := hD
  have mq : grpP (egM ms (rgM ms 1)) (ms 0) zb := hmq
  clear hmq
  have hT : zb = zc := by
    rw [rgM_1, e3, e0, ← rel_eg hch hr (v 13 0)] at mq
    exact grpP_uniq mq kq
  have hI2 : LInv (n + 1) v hs sv pos cmd vals txt len hc hn hsv mal fai lnb lct ms msav misv mpast mpm mline mlm mtxt mlen merr mfail mcmd := by
    exact LI_q hn9 hI
  subst hT
  refine zz_icmp_eq (tgt := 2917) hx hb dL_law_1320 (by decide) (by (have h9 := isMnK_in hch.1 (show isMnK _ _ _ from kq); have := hch.2.1; omega)) (by (have h9 := isMnK_in hch.1 (show isMnK _ _ _ from kq); have := hch.2.1; omega)) (fun _ => ?_) (fun c9 => absurd rfl c9)
  refine W.widen (k := k9 + 20) (n := n9 + 200) (by omega) (by omega) ?_
  exact kk v shrt w_grp seen tp shr need ordr size pos cmd vals txt len hc hn hs bt sv hsv mal fai lnb lml lct ms mbef msav misv mpast mpm 0 y_mways mnds mtkp mline mlm mtxt mlen mat mwr merr mfail mcmd mcm og dg _ _ _ hI2 hP hD hS (lv_sub hl [0, 1, 2, 3, 4, 5] rfl)
