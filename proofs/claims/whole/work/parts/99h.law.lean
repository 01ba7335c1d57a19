/-! ===== the law, call by call (8) ===== -/
set_option maxHeartbeats 8000000 in
set_option maxRecDepth 100000 in
theorem law_c42 {p : Program} {l : Launch} (hst : l.stackTraces = false) {e : Env} {s : State} {m : MethodId} {below : List Frame} {meth : Method} {c : Code} {D : va_G} {tA : Nat → ClassId} {K : Nat → Nat} {b L : Nat} {xs : Nat → Int32} (hL : L ≤ 2560) (C0 : lw_At p s m meth c b L xs) (hK : zK D tA s) (hZ : zT K (lwA s) s) {ad am : Nat → Nat} {o od : Nat} {i n : Int} (hi : 0 ≤ i ∧ i + 5 ≤ L) (hn9 : n < 600) {k9 n9 : Nat} (hk9 : k9 + 20 ≤ 603072 ∧ n9 + 200 ≤ 7207018) {v : Nat → Int → Int} {shrt : Int → Int} {grp : Int → Int} {seen : Int → Int} {tp : Int → Int} {shr : Int → Int} {need : Int → Int} {ordr : Int → Int} {size : Int} {pos : Int} {cmd : Int} {vals : Int → Int} {txt : Int → Int} {len : Int} {hc : Int} {hn : Int} {hs : Nat → Nat → Int → Int} {bt : Nat → Int → Int} {sv : Nat → Int → Int} {hsv : Int} {mal : Int} {fai : Int} {lnb : Int → Int} {lml : Int} {lct : Int} {ms : Int → Int} {mbef : Int → Int} {msav : Int → Int} {misv : Int} {mpast : Int → Int} {mpm : Int} {mthr : Int} {mways : Int → Int} {mnds : Int → Int} {mtkp : Int → Int} {mline : Int → Int} {mlm : Int} {mtxt : Int → Int} {mlen : Int} {mat : Int} {mwr : Int} {merr : Int} {mfail : Int} {mcmd : Int → Int} {mcm : Int} {og : Int → Int} {dg : Nat → UInt64} {H : Heap} {locs : List Loc} {ls : Array Slot} (hI : LInv n v hs sv pos cmd vals txt len hc hn hsv mal fai lnb lct ms msav misv mpast mpm mline mlm mtxt mlen merr mfail mcmd) (hP : va_P D vwCl (xW tA K ad am o od v shrt grp seen tp shr need ordr size pos cmd vals txt len hc hn hs bt sv hsv mal fai lnb lml lct ms mbef msav misv mpast mpm mthr mways mnds mtkp mline mlm mtxt mlen mat mwr merr mfail mcmd mcm og dg).flatten H) (hD : va_D (lwA s) (xW tA K ad am o od v shrt grp seen tp shr need ordr size pos cmd vals txt len hc hn hs bt sv hsv mal fai lnb lml lct ms mbef msav misv mpast mpm mthr mways mnds mtkp mline mlm mtxt mlen mat mwr merr mfail mcmd mcm og dg).flatten) (hS : va_S (lwA s) s.heap H locs) (hl : lv_has ls 9 [(0, .ref b), (1, .ref (ad 0)), (2, .ref (am 0)), (3, .ref o), (4, .ref od), (5, .int (iI i))]) (kk : lwK p l e s m below meth c D tA K ad am o od b i n k9 n9) : W p l e room_1 s m #[Value.ref b] below meth c H locs k9 n9 (lw_Z below #[Value.ref b] s) (F0 m 2379 ls []) := by
  obtain ⟨hx, hb, hrt, hml, hown, hts, hX, hbl, hlocks, hgv⟩ := id C0
  have hts := lw_more hts
  have hA : ∀ q : Nat, s.heap.size ≤ q → lwA s q := fun _ h => h
  have hbA : ¬ lwA s b := Nat.not_le.mpr hbl
  have hCn := hZ.2.2.2
  obtain ⟨⟨n0, n6, l0, l6, ln⟩, hLS, ⟨hhn, hhc, hpm, hhi⟩, ⟨hsv01, hmis, hsvv, hsvr⟩, ⟨hlen, htxt, htx⟩, ⟨hlm, hln, hl0, hl16, hlb⟩, ⟨her, hfa, hm1, hm2, hf1, hf2⟩, ⟨hcd0, hcd1, hps0, hps1, hva⟩, hcr⟩ := id hI
  have hv := hLS.1
  have hr := hLS.2
  have hch : ChS v := hv.1
  have hu9 : ChW v := hv.2.1
  obtain ⟨-, -, hcc, hsp, hmo, hfog, hrg, hni, hfd, hmt9, hln9, hsum⟩ := SVk_out (show SVk _ _ (etS v) from hv)
  have hmv := rel_MV hv hr (by omega) (by omega)
  obtain ⟨e0, e1, e2, e3, e4, e5, e6⟩ := id hr.1
  have eE := rel_sE hch hr
  have hmon : ∀ j, 0 ≤ j → j < v 7 0 → 0 ≤ v 10 j ∧ v 10 j ≤ 6000000 := fun j j0 j1 => by have := hmo j j0 j1; omega
  have hlnd : ∀ j, 0 ≤ j → j < v 7 0 → (0 ≤ v 11 j ∧ v 11 j ≤ 600) ∧ (0 ≤ v 12 j ∧ v 12 j ≤ 600) := fun j j0 j1 => by have := hln9 j j0 j1; omega
  refine lv_aload_n hx hb dL_law_2379 rfl (lv_at hl 1 rfl) ?_
  refine lv_aload hx hb dL_law_2380 (lv_at hl 4 rfl) ?_
  refine zh_callSi_ch (As := [.ref (ad 0), .ref od]) (rest := []) (L := [xOut tA o og, xOud tA od dg, xMod tA am ms mbef msav misv mpast mpm mthr mways mnds mtkp mline mlm mtxt mlen mat mwr merr mfail mcmd mcm, xObj ad hsv mal fai, xOff tA ad v shrt grp seen tp shr need ordr size, xScr tA K ad pos cmd vals txt len, xHis tA ad hc hn hs, xBef tA ad bt, xSav tA ad sv, xLin tA ad lnb lml lct]) (Lc := [xOud tA od dg, xObj ad hsv mal fai, xOff tA ad v shrt grp seen tp shr need ordr size]) (Lr := [xOut tA o og, xMod tA am ms mbef msav misv mpast mpm mthr mways mnds mtkp mline mlm mtxt mlen mat mwr merr mfail mcmd mcm, xScr tA K ad pos cmd vals txt len, xHis tA ad hc hn hs, xBef tA ad bt, xSav tA ad sv, xLin tA ad lnb lml lct]) (Lc' := fun u => Sum.elim (fun u => [xOud tA od (vf_upd dg 0 (FP.f2d u.1)), xObj ad hsv mal fai, xOff tA ad v shrt grp seen tp shr need ordr size]) (fun u => [xOud tA od dg, xObj ad hsv mal fai, xOff tA ad v shrt grp seen tp shr need ordr size]) u) (Lf := fun u => Sum.elim (fun u => [xOut tA o og, xOud tA od (vf_upd dg 0 (FP.f2d u.1)), xMod tA am ms mbef msav misv mpast mpm mthr mways mnds mtkp mline mlm mtxt mlen mat mwr merr mfail mcmd mcm, xObj ad hsv mal fai, xOff tA ad v shrt grp seen tp shr need ordr size, xScr tA K ad pos cmd vals txt len, xHis tA ad hc hn hs, xBef tA ad bt, xSav tA ad sv, xLin tA ad lnb lml lct]) (fun u => [xOut tA o og, xOud tA od dg, xMod tA am ms mbef msav misv mpast mpm mthr mways mnds mtkp mline mlm mtxt mlen mat mwr merr mfail mcmd mcm, xObj ad hsv mal fai, xOff tA ad v shrt grp seen tp shr need ordr size, xScr tA K ad pos cmd vals txt len, xHis tA ad hc hn hs, xBef tA ad bt, xSav tA ad sv, xLin tA ad lnb lml lct]) u) (is := [1, 3, 4, 0, 2, 5, 6, 7, 8, 9]) (isF := [0, 7, 1, 8, 9, 2, 3, 4, 5, 6]) ⟨hx, hb, hml, hown, hts⟩ (c_L_litShare l hst K D tA (ad 0) (ad 1) (ad 2) (ad 3) (ad 4) (ad 5) (ad 6) (ad 7) (ad 8) (ad 9) (ad 10) (ad 11) (ad 12) (ad 13) (ad 14) (ad 15) (ad 16) (ad 17) (ad 18) (ad 19) (ad 20) (ad 21) (ad 22) (ad 23) (ad 24) (ad 27) (ad 146) (ad 133) (ad 159) od H.size dg (v 0 0) (v 1 0) (v 2) (v 3) (v 4) (v 5) (v 6) (v 7 0) (v 8) (v 9) (v 10) (v 11) (v 12) (v 13 0) (v 14 0) (v 15 0) (v 16 0) (v 17 0) (v 18 0) shrt grp seen tp shr need ordr size hsv mal fai   hcc (fun j j0 j1 => by have h9 := hlnd j j0 j1; omega)) (vx_cwSW 2 hts (gx_wr gL_law_L_litShare) rfl rfl rfl (by decide +kernel) ⟨Nat.le_of_ble_eq_true rfl, Nat.le_of_ble_eq_true rfl⟩) hK hP hD hS hA hZ ⟨rfl, rfl, (by decide)⟩ ⟨fun u => by cases u <;> rfl, fun u => by cases u <;> rfl, (by decide)⟩ rfl rfl hl.1 (Nat.le_of_ble_eq_true rfl) dL_law_2382 (by show k9 + 1 ≤ 603072 ∧ n9 + 6 ≤ 7207018; omega) ?_
  intro z6 u H locs hq hP hD hS
  rcases u with ⟨zc, u⟩ | u
  · skip
    obtain ⟨hz6, kq⟩ := hq
    have kq : sm (v 11) (v 7 0).toNat + sm (v 12) (v 7 0).toNat ≠ 0 ∧ zc = fQ (sm (v 11) (v 7 0).toNat) (sm (v 11) (v 7 0).toNat + sm (v 12) (v 7 0).toNat) := kq
    have sb1 := sm_le (f := v 11) (b := 600) (n := (v 7 0).toNat) (fun j j0 j1 => by have h9 := hlnd j j0 (by omega); omega)
    have sb2 := sm_le (f := v 12) (b := 600) (n := (v 7 0).toNat) (fun j j0 j1 => by have h9 := hlnd j j0 (by omega); omega)
    have hq1 : 0 ≤ sm (v 11) (v 7 0).toNat ∧ 1 ≤ sm (v 11) (v 7 0).toNat + sm (v 12) (v 7 0).toNat ∧ sm (v 11) (v 7 0).toNat + sm (v 12) (v 7 0).toNat < 16777216 := by have h9 := kq.1; omega
    have hz6 : z6 = 0 := hz6
    have hP : va_P D vwCl ([xOut tA o og, xOud tA od (vf_upd dg 0 (FP.f2d zc)), xMod tA am ms mbef msav misv mpast mpm mthr mways mnds mtkp mline mlm mtxt mlen mat mwr merr mfail mcmd mcm, xObj ad hsv mal fai, xOff tA ad v shrt grp seen tp shr need ordr size, xScr tA K ad pos cmd vals txt len, xHis tA ad hc hn hs, xBef tA ad bt, xSav tA ad sv, xLin tA ad lnb lml lct]).flatten H := hP
    have hD : va_D (lwA s) ([xOut tA o og, xOud tA od (vf_upd dg 0 (FP.f2d zc)), xMod tA am ms mbef msav misv mpast mpm mthr mways mnds mtkp mline mlm mtxt mlen mat mwr merr mfail mcmd mcm, xObj ad hsv mal fai, xOff tA ad v shrt grp seen tp shr need ordr size, xScr tA K ad pos cmd vals txt len, xHis tA ad hc hn hs, xBef tA ad bt, xSav tA ad sv, xLin tA ad lnb lml lct]).flatten := hD
    refine lv_istore (lv' := [(6, .int (iI z6)), (0, .ref b), (1, .ref (ad 0)), (2, .ref (am 0)), (3, .ref o), (4, .ref od), (5, .int (iI i))]) hx hb dL_law_2385 hl (by decide) rfl (fun ls hl => ?_)
    refine lv_aload_n hx hb dL_law_2387 rfl (lv_at hl 3 rfl) ?_
    refine zz_callVf_ch (As := []) (rest := []) (L := [xOut tA o og, xOud tA od (vf_upd dg 0 (FP.f2d zc)), xMod tA am ms mbef msav misv mpast mpm mthr mways mnds mtkp mline mlm mtxt mlen mat mwr merr mfail mcmd mcm, xObj ad hsv mal fai, xOff tA ad v shrt grp seen tp shr need ordr size, xScr tA K ad pos cmd vals txt len, xHis tA ad hc hn hs, xBef tA ad bt, xSav tA ad sv, xLin tA ad lnb lml lct]) (Lc := [xMod tA am ms mbef msav misv mpast mpm mthr mways mnds mtkp mline mlm mtxt mlen mat mwr merr mfail mcmd mcm]) (Lr := [xOut tA o og, xOud tA od (vf_upd dg 0 (FP.f2d zc)), xObj ad hsv mal fai, xOff tA ad v shrt grp seen tp shr need ordr size, xScr tA K ad pos cmd vals txt len, xHis tA ad hc hn hs, xBef tA ad bt, xSav tA ad sv, xLin tA ad lnb lml lct]) (Lc' := fun u => [xMod tA am ms mbef msav misv mpast mpm u mways mnds mtkp mline mlm mtxt mlen mat mwr merr mfail mcmd mcm]) (Lf := fun u => [xOut tA o og, xOud tA od (vf_upd dg 0 (FP.f2d zc)), xMod tA am ms mbef msav misv mpast mpm u mways mnds mtkp mline mlm mtxt mlen mat mwr merr mfail mcmd mcm, xObj ad hsv mal fai, xOff tA ad v shrt grp seen tp shr need ordr size, xScr tA K ad pos cmd vals txt len, xHis tA ad hc hn hs, xBef tA ad bt, xSav tA ad sv, xLin tA ad lnb lml lct]) (is := [2, 0, 1, 3, 4, 5, 6, 7, 8, 9]) (isF := [0, 1, 9, 2, 3, 4, 5, 6, 7, 8]) ⟨hx, hb, hml, hown, hts⟩ (c_X11_litShare l D tA (am 0) (am 1) (am 2) (am 3) (am 4) (am 5) (am 6) (am 7) (am 8) (am 9) (am 10) H.size ms mbef msav misv mpast mpm mthr mways mnds mtkp mline mlm mtxt mlen mat mwr merr mfail mcmd mcm  hmv.1 (fun j j0 j1 => by rw [e1] at j1; have h9 := (hr.2.1 j j0 j1).2.2.2; have h8 := hlnd j j0 j1; omega)) (cwV 0 hts (gx_tbl gL_law_X11_litShare) rfl rfl rfl (by decide +kernel) ⟨Nat.le_of_ble_eq_true rfl, Nat.le_of_ble_eq_true rfl⟩) hK hP hD hS hA ⟨rfl, rfl, (by decide)⟩ ⟨fun _ => rfl, fun _ => rfl, (by decide)⟩ (ci := 13) (q0 := 0) rfl rfl rfl rfl rfl hl.1 (Nat.le_of_ble_eq_true rfl) dL_law_2388 (by show _ + 0 ≤ 603072 ∧ _ + 0 ≤ 7207018; omega) ?_
    intro zb u H locs hmq hP hD hS
    obtain ⟨y_mthr, rfl⟩ : ∃ q, q = u := ⟨_, rfl⟩
    have hP : va_P D vwCl ([xOut tA o og, xOud tA od (vf_upd dg 0 (FP.f2d zc)), xMod tA am ms mbef msav misv mpast mpm y_mthr mways mnds mtkp mline mlm mtxt mlen mat mwr merr mfail mcmd mcm, xObj ad hsv mal fai, xOff tA ad v shrt grp seen tp shr need ordr size, xScr tA K ad pos cmd vals txt len, xHis tA ad hc hn hs, xBef tA ad bt, xSav tA ad sv, xLin tA ad lnb lml lct]).flatten H := hP
    have hD : va_D (lwA s) ([xOut tA o og, xOud tA od (vf_upd dg 0 (FP.f2d zc)), xMod tA am ms mbef msav misv mpast mpm y_mthr mways mnds mtkp mline mlm mtxt mlen mat mwr merr mfail mcmd mcm, xObj ad hsv mal fai, xOff tA ad v shrt grp seen tp shr need ordr size, xScr tA K ad pos cmd vals txt len, xHis tA ad hc hn hs, xBef tA ad bt, xSav tA ad sv, xLin tA ad lnb lml lct]).flatten := hD
    have mq : (y_mthr = 1 ∧ (sm (fun j => suM ms j 3) (ms 1).toNat) + (sm (fun j => suM ms j 4) (ms 1).toNat) = 0) ∨ (y_mthr = 0 ∧ (sm (fun j => suM ms j 3) (ms 1).toNat) + (sm (fun j => suM ms j 4) (ms 1).toNat) ≠ 0 ∧ zb = fQ (sm (fun j => suM ms j 3) (ms 1).toNat) ((sm (fun j => suM ms j 3) (ms 1).toNat) + (sm (fun j => suM ms j 4) (ms 1).toNat))) := hmq
    clear hmq
    refine lv_fstore (lv' := [(7, .float zb), (6, .int (iI z6)), (0, .ref b), (1, .ref (ad 0)), (2, .ref (am 0)), (3, .ref o), (4, .ref od), (5, .int (iI i))]) hx hb dL_law_2391 hl (by decide) rfl (fun ls hl => ?_)
    have hTV : y_mthr = 0 ∧ zb = zc := by
      rw [e1] at mq
      have es3 : sm (fun j => suM ms j 3) (v 7 0).toNat = sm (v 11) (v 7 0).toNat := sm_congr (fun j j0 j1 => (hr.2.1 j j0 (by omega)).2.2.2.1)
      have es4 : sm (fun j => suM ms j 4) (v 7 0).toNat = sm (v 12) (v 7 0).toNat := sm_congr (fun j j0 j1 => (hr.2.1 j j0 (by omega)).2.2.2.2)
      rw [es3, es4] at mq
      rcases mq with ⟨-, m⟩ | ⟨m0, m1, m2⟩
      · exact absurd m kq.1
      · exact ⟨m0, m2.trans kq.2.symm⟩
    have hT : y_mthr = z6 := hTV.1.trans hz6.symm
    have hI2 : LInv (n + 1) v hs sv pos cmd vals txt len hc hn hsv mal fai lnb lct ms msav misv mpast mpm mline mlm mtxt mlen merr mfail mcmd := by
      exact LI_q hn9 hI
    refine lv_aload_n hx hb dL_law_2393 rfl (lv_at hl 4 rfl) ?_
    refine zz_callVi_ch (As := []) (rest := []) (L := [xOut tA o og, xOud tA od (vf_upd dg 0 (FP.f2d zc)), xMod tA am ms mbef msav misv mpast mpm y_mthr mways mnds mtkp mline mlm mtxt mlen mat mwr merr mfail mcmd mcm, xObj ad hsv mal fai, xOff tA ad v shrt grp seen tp shr need ordr size, xScr tA K ad pos cmd vals txt len, xHis tA ad hc hn hs, xBef tA ad bt, xSav tA ad sv, xLin tA ad lnb lml lct]) (Lc := [xMod tA am ms mbef msav misv mpast mpm y_mthr mways mnds mtkp mline mlm mtxt mlen mat mwr merr mfail mcmd mcm]) (Lr := [xOut tA o og, xOud tA od (vf_upd dg 0 (FP.f2d zc)), xObj ad hsv mal fai, xOff tA ad v shrt grp seen tp shr need ordr size, xScr tA K ad pos cmd vals txt len, xHis tA ad hc hn hs, xBef tA ad bt, xSav tA ad sv, xLin tA ad lnb lml lct]) (Lc' := fun u => [xMod tA am ms mbef msav misv mpast mpm y_mthr mways mnds mtkp mline mlm mtxt mlen mat mwr merr mfail mcmd mcm]) (Lf := fun u => [xOut tA o og, xOud tA od (vf_upd dg 0 (FP.f2d zc)), xMod tA am ms mbef msav misv mpast mpm y_mthr mways mnds mtkp mline mlm mtxt mlen mat mwr merr mfail mcmd mcm, xObj ad hsv mal fai, xOff tA ad v shrt grp seen tp shr need ordr size, xScr tA K ad pos cmd vals txt len, xHis tA ad hc hn hs, xBef tA ad bt, xSav tA ad sv, xLin tA ad lnb lml lct]) (is := [2, 0, 1, 3, 4, 5, 6, 7, 8, 9]) (isF := [0, 1, 9, 2, 3, 4, 5, 6, 7, 8]) ⟨hx, hb, hml, hown, hts⟩ (c_X11_thrown l D tA (am 0) (am 1) (am 2) (am 3) (am 4) (am 5) (am 6) (am 7) (am 8) (am 9) (am 10) H.size ms mbef msav misv mpast mpm y_mthr mways mnds mtkp mline mlm mtxt mlen mat mwr merr mfail mcmd mcm) (cwV 0 hts (gx_tbl gL_law_X11_thrown) rfl rfl rfl (by decide +kernel) ⟨Nat.le_of_ble_eq_true rfl, Nat.le_of_ble_eq_true rfl⟩) hK hP hD hS hA ⟨rfl, rfl, (by decide)⟩ ⟨fun _ => rfl, fun _ => rfl, (by decide)⟩ (ci := 13) (q0 := 0) rfl rfl rfl rfl rfl hl.1 (Nat.le_of_ble_eq_true rfl) dL_law_2394 (by show _ + 0 ≤ 603072 ∧ _ + 0 ≤ 7207018; omega) ?_
    intro zt u H locs hzt hP hD hS
    have hP : va_P D vwCl ([xOut tA o og, xOud tA od (vf_upd dg 0 (FP.f2d zc)), xMod tA am ms mbef msav misv mpast mpm y_mthr mways mnds mtkp mline mlm mtxt mlen mat mwr merr mfail mcmd mcm, xObj ad hsv mal fai, xOff tA ad v shrt grp seen tp shr need ordr size, xScr tA K ad pos cmd vals txt len, xHis tA ad hc hn hs, xBef tA ad bt, xSav tA ad sv, xLin tA ad lnb lml lct]).flatten H := hP
    have hD : va_D (lwA s) ([xOut tA o og, xOud tA od (vf_upd dg 0 (FP.f2d zc)), xMod tA am ms mbef msav misv mpast mpm y_mthr mways mnds mtkp mline mlm mtxt mlen mat mwr merr mfail mcmd mcm, xObj ad hsv mal fai, xOff tA ad v shrt grp seen tp shr need ordr size, xScr tA K ad pos cmd vals txt len, xHis tA ad hc hn hs, xBef tA ad bt, xSav tA ad sv, xLin tA ad lnb lml lct]).flatten := hD
    have hzt : zt = y_mthr := hzt
    have hz69 : 0 ≤ z6 ∧ z6 ≤ 9 := by omega
    refine lv_iload hx hb dL_law_2397 (lv_at hl 1 rfl) ?_
    refine zz_icmp_eq (tgt := 2404) hx hb dL_law_2399 (by decide) (by omega) (by omega) (fun _ => ?_) (fun c9 => absurd (by omega) c9)
    refine lv_iload hx hb dL_law_2404 (lv_at hl 1 rfl) ?_
    refine zz_if_ne (tgt := 2442) hx hb dL_law_2406 (by decide) (by omega) (fun c9 => absurd hz6 c9) (fun _ => ?_)
    refine lv_aload hx hb dL_law_2409 (lv_at hl 6 rfl) ?_
    refine zz_iconst hx hb dL_law_2411 ?_
    refine zz_dald hx hb hK hP 1 rfl dL_law_2412 ?_
    rw [show vf_upd dg 0 (FP.f2d zc) 0 = (FP.f2d zc) from rfl]
    refine lv_fload hx hb dL_law_2413 (lv_at hl 0 rfl) ?_
    refine lv_f2d hx hb dL_law_2415 (by rw [hTV.2, kq.2]; exact fQ_f2d hq1.1 hq1.2.1 hq1.2.2) ?_
    rw [hTV.2]
    refine zz_dcmp hx hb (by rw [kq.2]; exact fQ_c hq1.1 hq1.2.1 hq1.2.2) dL_law_2416 ?_
    refine zz_if_eq (tgt := 2442) hx hb dL_law_2417 (by decide) (by decide) (fun _ => ?_) (fun c9 => absurd rfl c9)
    refine lv_goto (tgt := 2917) hx hb dL_law_2442 (by decide) ?_
    refine W.widen (k := k9 + 20) (n := n9 + 200) (by omega) (by omega) ?_
    exact kk v shrt grp seen tp shr need ordr size pos cmd vals txt len hc hn hs bt sv hsv mal fai lnb lml lct ms mbef msav misv mpast mpm y_mthr mways mnds mtkp mline mlm mtxt mlen mat mwr merr mfail mcmd mcm og (vf_upd dg 0 (FP.f2d zc)) _ _ _ hI2 hP hD hS (lv_sub hl [2, 3, 4, 5, 6, 7] rfl)
  · obtain ⟨kx, rfl⟩ : ∃ q, q = u := ⟨_, rfl⟩
    have kq : kx = 6 ∧ sm (v 11) (v 7 0).toNat + sm (v 12) (v 7 0).toNat = 0 := hq.1
    have kc : (kx = 6 ∧ z6 = 1) := hq.2
    have hP : va_P D vwCl ([xOut tA o og, xOud tA od dg, xMod tA am ms mbef msav misv mpast mpm mthr mways mnds mtkp mline mlm mtxt mlen mat mwr merr mfail mcmd mcm, xObj ad hsv mal fai, xOff tA ad v shrt grp seen tp shr need ordr size, xScr tA K ad pos cmd vals txt len, xHis tA ad hc hn hs, xBef tA ad bt, xSav tA ad sv, xLin tA ad lnb lml lct]).flatten H := hP
    have hD : va_D (lwA s) ([xOut tA o og, xOud tA od dg, xMod tA am ms mbef msav misv mpast mpm mthr mways mnds mtkp mline mlm mtxt mlen mat mwr merr mfail mcmd mcm, xObj ad hsv mal fai, xOff tA ad v shrt grp seen tp shr need ordr size, xScr tA K ad pos cmd vals txt len, xHis tA ad hc hn hs, xBef tA ad bt, xSav tA ad sv, xLin tA ad lnb lml lct]).flatten := hD
    refine lv_istore (lv' := [(6, .int (iI z6)), (0, .ref b), (1, .ref (ad 0)), (2, .ref (am 0)), (3, .ref o), (4, .ref od), (5, .int (iI i))]) hx hb dL_law_2385 hl (by decide) rfl (fun ls hl => ?_)
    refine lv_aload_n hx hb dL_law_2387 rfl (lv_at hl 3 rfl) ?_
    refine zz_callVf_ch (As := []) (rest := []) (L := [xOut tA o og, xOud tA od dg, xMod tA am ms mbef msav misv mpast mpm mthr mways mnds mtkp mline mlm mtxt mlen mat mwr merr mfail mcmd mcm, xObj ad hsv mal fai, xOff tA ad v shrt grp seen tp shr need ordr size, xScr tA K ad pos cmd vals txt len, xHis tA ad hc hn hs, xBef tA ad bt, xSav tA ad sv, xLin tA ad lnb lml lct]) (Lc := [xMod tA am ms mbef msav misv mpast mpm mthr mways mnds mtkp mline mlm mtxt mlen mat mwr merr mfail mcmd mcm]) (Lr := [xOut tA o og, xOud tA od dg, xObj ad hsv mal fai, xOff tA ad v shrt grp seen tp shr need ordr size, xScr tA K ad pos cmd vals txt len, xHis tA ad hc hn hs, xBef tA ad bt, xSav tA ad sv, xLin tA ad lnb lml lct]) (Lc' := fun u => [xMod tA am ms mbef msav misv mpast mpm u mways mnds mtkp mline mlm mtxt mlen mat mwr merr mfail mcmd mcm]) (Lf := fun u => [xOut tA o og, xOud tA od dg, xMod tA am ms mbef msav misv mpast mpm u mways mnds mtkp mline mlm mtxt mlen mat mwr merr mfail mcmd mcm, xObj ad hsv mal fai, xOff tA ad v shrt grp seen tp shr need ordr size, xScr tA K ad pos cmd vals txt len, xHis tA ad hc hn hs, xBef tA ad bt, xSav tA ad sv, xLin tA ad lnb lml lct]) (is := [2, 0, 1, 3, 4, 5, 6, 7, 8, 9]) (isF := [0, 1, 9, 2, 3, 4, 5, 6, 7, 8]) ⟨hx, hb, hml, hown, hts⟩ (c_X11_litShare l D tA (am 0) (am 1) (am 2) (am 3) (am 4) (am 5) (am 6) (am 7) (am 8) (am 9) (am 10) H.size ms mbef msav misv mpast mpm mthr mways mnds mtkp mline mlm mtxt mlen mat mwr merr mfail mcmd mcm  hmv.1 (fun j j0 j1 => by rw [e1] at j1; have h9 := (hr.2.1 j j0 j1).2.2.2; have h8 := hlnd j j0 j1; omega)) (cwV 0 hts (gx_tbl gL_law_X11_litShare) rfl rfl rfl (by decide +kernel) ⟨Nat.le_of_ble_eq_true rfl, Nat.le_of_ble_eq_true rfl⟩) hK hP hD hS hA ⟨rfl, rfl, (by decide)⟩ ⟨fun _ => rfl, fun _ => rfl, (by decide)⟩ (ci := 13) (q0 := 0) rfl rfl rfl rfl rfl hl.1 (Nat.le_of_ble_eq_true rfl) dL_law_2388 (by show _ + 0 ≤ 603072 ∧ _ + 0 ≤ 7207018; omega) ?_
    intro zb u H locs hmq hP hD hS
    obtain ⟨y_mthr, rfl⟩ : ∃ q, q = u := ⟨_, rfl⟩
    have hP : va_P D vwCl ([xOut tA o og, xOud tA od dg, xMod tA am ms mbef msav misv mpast mpm y_mthr mways mnds mtkp mline mlm mtxt mlen mat mwr merr mfail mcmd mcm, xObj ad hsv mal fai, xOff tA ad v shrt grp seen tp shr need ordr size, xScr tA K ad pos cmd vals txt len, xHis tA ad hc hn hs, xBef tA ad bt, xSav tA ad sv, xLin tA ad lnb lml lct]).flatten H := hP
    have hD : va_D (lwA s) ([xOut tA o og, xOud tA od dg, xMod tA am ms mbef msav misv mpast mpm y_mthr mways mnds mtkp mline mlm mtxt mlen mat mwr merr mfail mcmd mcm, xObj ad hsv mal fai, xOff tA ad v shrt grp seen tp shr need ordr size, xScr tA K ad pos cmd vals txt len, xHis tA ad hc hn hs, xBef tA ad bt, xSav tA ad sv, xLin tA ad lnb lml lct]).flatten := hD
    have mq : (y_mthr = 1 ∧ (sm (fun j => suM ms j 3) (ms 1).toNat) + (sm (fun j => suM ms j 4) (ms 1).toNat) = 0) ∨ (y_mthr = 0 ∧ (sm (fun j => suM ms j 3) (ms 1).toNat) + (sm (fun j => suM ms j 4) (ms 1).toNat) ≠ 0 ∧ zb = fQ (sm (fun j => suM ms j 3) (ms 1).toNat) ((sm (fun j => suM ms j 3) (ms 1).toNat) + (sm (fun j => suM ms j 4) (ms 1).toNat))) := hmq
    clear hmq
    refine lv_fstore (lv' := [(7, .float zb), (6, .int (iI z6)), (0, .ref b), (1, .ref (ad 0)), (2, .ref (am 0)), (3, .ref o), (4, .ref od), (5, .int (iI i))]) hx hb dL_law_2391 hl (by decide) rfl (fun ls hl => ?_)
    have hT : y_mthr = z6 := by
      rw [e1] at mq
      have es3 : sm (fun j => suM ms j 3) (v 7 0).toNat = sm (v 11) (v 7 0).toNat := sm_congr (fun j j0 j1 => (hr.2.1 j j0 (by omega)).2.2.2.1)
      have es4 : sm (fun j => suM ms j 4) (v 7 0).toNat = sm (v 12) (v 7 0).toNat := sm_congr (fun j j0 j1 => (hr.2.1 j j0 (by omega)).2.2.2.2)
      rw [es3, es4] at mq
      rcases mq with ⟨m0, -⟩ | ⟨-, m1, -⟩
      · omega
      · exact absurd kq.2 m1
    have hI2 : LInv (n + 1) v hs sv pos cmd vals txt len hc hn hsv mal fai lnb lct ms msav misv mpast mpm mline mlm mtxt mlen merr mfail mcmd := by
      exact LI_q hn9 hI
    refine lv_aload_n hx hb dL_law_2393 rfl (lv_at hl 4 rfl) ?_
    refine zz_callVi_ch (As := []) (rest := []) (L := [xOut tA o og, xOud tA od dg, xMod tA am ms mbef msav misv mpast mpm y_mthr mways mnds mtkp mline mlm mtxt mlen mat mwr merr mfail mcmd mcm, xObj ad hsv mal fai, xOff tA ad v shrt grp seen tp shr need ordr size, xScr tA K ad pos cmd vals txt len, xHis tA ad hc hn hs, xBef tA ad bt, xSav tA ad sv, xLin tA ad lnb lml lct]) (Lc := [xMod tA am ms mbef msav misv mpast mpm y_mthr mways mnds mtkp mline mlm mtxt mlen mat mwr merr mfail mcmd mcm]) (Lr := [xOut tA o og, xOud tA od dg, xObj ad hsv mal fai, xOff tA ad v shrt grp seen tp shr need ordr size, xScr tA K ad pos cmd vals txt len, xHis tA ad hc hn hs, xBef tA ad bt, xSav tA ad sv, xLin tA ad lnb lml lct]) (Lc' := fun u => [xMod tA am ms mbef msav misv mpast mpm y_mthr mways mnds mtkp mline mlm mtxt mlen mat mwr merr mfail mcmd mcm]) (Lf := fun u => [xOut tA o og, xOud tA od dg, xMod tA am ms mbef msav misv mpast mpm y_mthr mways mnds mtkp mline mlm mtxt mlen mat mwr merr mfail mcmd mcm, xObj ad hsv mal fai, xOff tA ad v shrt grp seen tp shr need ordr size, xScr tA K ad pos cmd vals txt len, xHis tA ad hc hn hs, xBef tA ad bt, xSav tA ad sv, xLin tA ad lnb lml lct]) (is := [2, 0, 1, 3, 4, 5, 6, 7, 8, 9]) (isF := [0, 1, 9, 2, 3, 4, 5, 6, 7, 8]) ⟨hx, hb, hml, hown, hts⟩ (c_X11_thrown l D tA (am 0) (am 1) (am 2) (am 3) (am 4) (am 5) (am 6) (am 7) (am 8) (am 9) (am 10) H.size ms mbef msav misv mpast mpm y_mthr mways mnds mtkp mline mlm mtxt mlen mat mwr merr mfail mcmd mcm) (cwV 0 hts (gx_tbl gL_law_X11_thrown) rfl rfl rfl (by decide +kernel) ⟨Nat.le_of_ble_eq_true rfl, Nat.le_of_ble_eq_true rfl⟩) hK hP hD hS hA ⟨rfl, rfl, (by decide)⟩ ⟨fun _ => rfl, fun _ => rfl, (by decide)⟩ (ci := 13) (q0 := 0) rfl rfl rfl rfl rfl hl.1 (Nat.le_of_ble_eq_true rfl) dL_law_2394 (by show _ + 0 ≤ 603072 ∧ _ + 0 ≤ 7207018; omega) ?_
    intro zt u H locs hzt hP hD hS
    have hP : va_P D vwCl ([xOut tA o og, xOud tA od dg, xMod tA am ms mbef msav misv mpast mpm y_mthr mways mnds mtkp mline mlm mtxt mlen mat mwr merr mfail mcmd mcm, xObj ad hsv mal fai, xOff tA ad v shrt grp seen tp shr need ordr size, xScr tA K ad pos cmd vals txt len, xHis tA ad hc hn hs, xBef tA ad bt, xSav tA ad sv, xLin tA ad lnb lml lct]).flatten H := hP
    have hD : va_D (lwA s) ([xOut tA o og, xOud tA od dg, xMod tA am ms mbef msav misv mpast mpm y_mthr mways mnds mtkp mline mlm mtxt mlen mat mwr merr mfail mcmd mcm, xObj ad hsv mal fai, xOff tA ad v shrt grp seen tp shr need ordr size, xScr tA K ad pos cmd vals txt len, xHis tA ad hc hn hs, xBef tA ad bt, xSav tA ad sv, xLin tA ad lnb lml lct]).flatten := hD
    have hzt : zt = y_mthr := hzt
    have hz69 : 0 ≤ z6 ∧ z6 ≤ 9 := by omega
    refine lv_iload hx hb dL_law_2397 (lv_at hl 1 rfl) ?_
    refine zz_icmp_eq (tgt := 2404) hx hb dL_law_2399 (by decide) (by omega) (by omega) (fun _ => ?_) (fun c9 => absurd (by omega) c9)
    refine lv_iload hx hb dL_law_2404 (lv_at hl 1 rfl) ?_
    refine zz_if_ne (tgt := 2442) hx hb dL_law_2406 (by decide) (by omega) (fun _ => ?_) (fun c9 => absurd c9 (by omega))
    refine lv_goto (tgt := 2917) hx hb dL_law_2442 (by decide) ?_
    refine W.widen (k := k9 + 20) (n := n9 + 200) (by omega) (by omega) ?_
    exact kk v shrt grp seen tp shr need ordr size pos cmd vals txt len hc hn hs bt sv hsv mal fai lnb lml lct ms mbef msav misv mpast mpm y_mthr mways mnds mtkp mline mlm mtxt mlen mat mwr merr mfail mcmd mcm og dg _ _ _ hI2 hP hD hS (lv_sub hl [2, 3, 4, 5, 6, 7] rfl)

set_option maxHeartbeats 8000000 in
set_option maxRecDepth 100000 in
theorem law_c43 {p : Program} {l : Launch} (hst : l.stackTraces = false) {e : Env} {s : State} {m : MethodId} {below : List Frame} {meth : Method} {c : Code} {D : va_G} {tA : Nat → ClassId} {K : Nat → Nat} {b L : Nat} {xs : Nat → Int32} (hL : L ≤ 2560) (C0 : lw_At p s m meth c b L xs) (hK : zK D tA s) (hZ : zT K (lwA s) s) {ad am : Nat → Nat} {o od : Nat} {i n : Int} (hi : 0 ≤ i ∧ i + 5 ≤ L) (hn9 : n < 600) {k9 n9 : Nat} (hk9 : k9 + 20 ≤ 603072 ∧ n9 + 200 ≤ 7207018) {v : Nat → Int → Int} {shrt : Int → Int} {grp : Int → Int} {seen : Int → Int} {tp : Int → Int} {shr : Int → Int} {need : Int → Int} {ordr : Int → Int} {size : Int} {pos : Int} {cmd : Int} {vals : Int → Int} {txt : Int → Int} {len : Int} {hc : Int} {hn : Int} {hs : Nat → Nat → Int → Int} {bt : Nat → Int → Int} {sv : Nat → Int → Int} {hsv : Int} {mal : Int} {fai : Int} {lnb : Int → Int} {lml : Int} {lct : Int} {ms : Int → Int} {mbef : Int → Int} {msav : Int → Int} {misv : Int} {mpast : Int → Int} {mpm : Int} {mthr : Int} {mways : Int → Int} {mnds : Int → Int} {mtkp : Int → Int} {mline : Int → Int} {mlm : Int} {mtxt : Int → Int} {mlen : Int} {mat : Int} {mwr : Int} {merr : Int} {mfail : Int} {mcmd : Int → Int} {mcm : Int} {og : Int → Int} {dg : Nat → UInt64} {H : Heap} {locs : List Loc} {ls : Array Slot} (hI : LInv n v hs sv pos cmd vals txt len hc hn hsv mal fai lnb lct ms msav misv mpast mpm mline mlm mtxt mlen merr mfail mcmd) (hP : va_P D vwCl (xW tA K ad am o od v shrt grp seen tp shr need ordr size pos cmd vals txt len hc hn hs bt sv hsv mal fai lnb lml lct ms mbef msav misv mpast mpm mthr mways mnds mtkp mline mlm mtxt mlen mat mwr merr mfail mcmd mcm og dg).flatten H) (hD : va_D (lwA s) (xW tA K ad am o od v shrt grp seen tp shr need ordr size pos cmd vals txt len hc hn hs bt sv hsv mal fai lnb lml lct ms mbef msav misv mpast mpm mthr mways mnds mtkp mline mlm mtxt mlen mat mwr merr mfail mcmd mcm og dg).flatten) (hS : va_S (lwA s) s.heap H locs) (hl : lv_has ls 9 [(0, .ref b), (1, .ref (ad 0)), (2, .ref (am 0)), (3, .ref o), (4, .ref od), (5, .int (iI i))]) (kk : lwK p l e s m below meth c D tA K ad am o od b i n k9 n9) : W p l e room_1 s m #[Value.ref b] below meth c H locs k9 n9 (lw_Z below #[Value.ref b] s) (F0 m 2445 ls []) := by
  obtain ⟨hx, hb, hrt, hml, hown, hts, hX, hbl, hlocks, hgv⟩ := id C0
  have hts := lw_more hts
  have hA : ∀ q : Nat, s.heap.size ≤ q → lwA s q := fun _ h => h
  have hbA : ¬ lwA s b := Nat.not_le.mpr hbl
  have hCn := hZ.2.2.2
  obtain ⟨⟨n0, n6, l0, l6, ln⟩, hLS, ⟨hhn, hhc, hpm, hhi⟩, ⟨hsv01, hmis, hsvv, hsvr⟩, ⟨hlen, htxt, htx⟩, ⟨hlm, hln, hl0, hl16, hlb⟩, ⟨her, hfa, hm1, hm2, hf1, hf2⟩, ⟨hcd0, hcd1, hps0, hps1, hva⟩, hcr⟩ := id hI
  have hv := hLS.1
  have hr := hLS.2
  have hch : ChS v := hv.1
  have hu9 : ChW v := hv.2.1
  obtain ⟨-, -, hcc, hsp, hmo, hfog, hrg, hni, hfd, hmt9, hln9, hsum⟩ := SVk_out (show SVk _ _ (etS v) from hv)
  have hmv := rel_MV hv hr (by omega) (by omega)
  obtain ⟨e0, e1, e2, e3, e4, e5, e6⟩ := id hr.1
  have eE := rel_sE hch hr
  have hmon : ∀ j, 0 ≤ j → j < v 7 0 → 0 ≤ v 10 j ∧ v 10 j ≤ 6000000 := fun j j0 j1 => by have := hmo j j0 j1; omega
  have hlnd : ∀ j, 0 ≤ j → j < v 7 0 → (0 ≤ v 11 j ∧ v 11 j ≤ 600) ∧ (0 ≤ v 12 j ∧ v 12 j ≤ 600) := fun j j0 j1 => by have := hln9 j j0 j1; omega
  refine lv_aload_n hx hb dL_law_2445 rfl (lv_at hl 1 rfl) ?_
  refine lv_aload_n hx hb dL_law_2446 rfl (lv_at hl 0 rfl) ?_
  refine lv_iload hx hb dL_law_2447 (lv_at hl 5 rfl) ?_
  refine zz_iconst hx hb dL_law_2449 ?_
  refine zz_iadd hx hb dL_law_2450 ?_
  refine zz_sld hx hb hX hbl hbA hS (k := i + 1) (by omega) hL dL_law_2451 ?_
  refine lv_aload_n hx hb dL_law_2452 rfl (lv_at hl 3 rfl) ?_
  refine zh_callSi_ch (As := [.ref (ad 0), .int (iI (xz xs (i + 1))), .ref o]) (rest := []) (L := [xOut tA o og, xOud tA od dg, xMod tA am ms mbef msav misv mpast mpm mthr mways mnds mtkp mline mlm mtxt mlen mat mwr merr mfail mcmd mcm, xObj ad hsv mal fai, xOff tA ad v shrt grp seen tp shr need ordr size, xScr tA K ad pos cmd vals txt len, xHis tA ad hc hn hs, xBef tA ad bt, xSav tA ad sv, xLin tA ad lnb lml lct]) (Lc := [xOut tA o og, xObj ad hsv mal fai, xOff tA ad v shrt grp seen tp shr need ordr size, xLin tA ad lnb lml lct]) (Lr := [xOud tA od dg, xMod tA am ms mbef msav misv mpast mpm mthr mways mnds mtkp mline mlm mtxt mlen mat mwr merr mfail mcmd mcm, xScr tA K ad pos cmd vals txt len, xHis tA ad hc hn hs, xBef tA ad bt, xSav tA ad sv]) (Lc' := fun u => Sum.elim (fun u => [xOut tA o (zU og 0 u.1), xObj ad hsv mal fai, xOff tA ad v shrt u.2.2.1 seen tp shr need ordr size, xLin tA ad (wrL lnb 0 (subLn ((v 8) (xz xs (i + 1))) ((v 9) (xz xs (i + 1))) ((v 10) (xz xs (i + 1))) u.2.2.2)) u.2.1 ((subLn ((v 8) (xz xs (i + 1))) ((v 9) (xz xs (i + 1))) ((v 10) (xz xs (i + 1))) u.2.2.2).length : Nat)]) (fun u => [xOut tA o og, xObj ad hsv mal fai, xOff tA ad v shrt grp seen tp shr need ordr size, xLin tA ad lnb lml lct]) u) (Lf := fun u => Sum.elim (fun u => [xOut tA o (zU og 0 u.1), xOud tA od dg, xMod tA am ms mbef msav misv mpast mpm mthr mways mnds mtkp mline mlm mtxt mlen mat mwr merr mfail mcmd mcm, xObj ad hsv mal fai, xOff tA ad v shrt u.2.2.1 seen tp shr need ordr size, xScr tA K ad pos cmd vals txt len, xHis tA ad hc hn hs, xBef tA ad bt, xSav tA ad sv, xLin tA ad (wrL lnb 0 (subLn ((v 8) (xz xs (i + 1))) ((v 9) (xz xs (i + 1))) ((v 10) (xz xs (i + 1))) u.2.2.2)) u.2.1 ((subLn ((v 8) (xz xs (i + 1))) ((v 9) (xz xs (i + 1))) ((v 10) (xz xs (i + 1))) u.2.2.2).length : Nat)]) (fun u => [xOut tA o og, xOud tA od dg, xMod tA am ms mbef msav misv mpast mpm mthr mways mnds mtkp mline mlm mtxt mlen mat mwr merr mfail mcmd mcm, xObj ad hsv mal fai, xOff tA ad v shrt grp seen tp shr need ordr size, xScr tA K ad pos cmd vals txt len, xHis tA ad hc hn hs, xBef tA ad bt, xSav tA ad sv, xLin tA ad lnb lml lct]) u) (is := [0, 3, 4, 9, 1, 2, 5, 6, 7, 8]) (isF := [6, 0, 1, 7, 8, 2, 3, 4, 5, 9]) ⟨hx, hb, hml, hown, hts⟩ (c_L_writeSubscriber l hst K D tA (ad 0) (ad 1) (ad 2) (ad 3) (ad 4) (ad 5) (ad 6) (ad 7) (ad 8) (ad 9) (ad 10) (ad 11) (ad 12) (ad 13) (ad 14) (ad 15) (ad 16) (ad 17) (ad 18) (ad 19) (ad 20) (ad 21) (ad 22) (ad 23) (ad 159) (ad 160) (ad 24) (ad 27) (ad 146) (ad 133) o H.size og (v 0 0) (v 1 0) (v 2) (v 3) (v 4) (v 5) (v 6) (v 7 0) (v 8) (v 9) (v 10) (v 11) (v 12) (v 13 0) (v 14 0) (v 15 0) (v 16 0) (v 17 0) (v 18 0) shrt grp seen tp shr need ordr size lnb lml lct hsv mal fai  (xz xs (i + 1)) (xz_in _ _) hch hcc hsp (fun j j0 j1 => by have := hmon j j0 j1; omega) ⟨hl0, hl16⟩ hlb) (vx_cwSW 3 hts (gx_wr gL_law_L_writeSubscriber) rfl rfl rfl (by decide +kernel) ⟨Nat.le_of_ble_eq_true rfl, Nat.le_of_ble_eq_true rfl⟩) hK hP hD hS hA hZ ⟨rfl, rfl, (by decide)⟩ ⟨fun u => by cases u <;> rfl, fun u => by cases u <;> rfl, (by decide)⟩ rfl rfl hl.1 (Nat.le_of_ble_eq_true rfl) dL_law_2453 (by show k9 + 1 ≤ 603072 ∧ n9 + 6 ≤ 7207018; omega) ?_
  intro z6 u H locs hq hP hD hS
  rcases u with ⟨zc, u⟩ | u
  · obtain ⟨w_lml, w_grp, w_z9⟩ := u
    obtain ⟨hz6, kq, hzr⟩ := hq
    have kq : (0 ≤ (xz xs (i + 1)) ∧ (xz xs (i + 1)) < (v 7 0)) ∧ needP (eg (v 1 0) (v 2) (v 3) (v 4) (v 5)) ((v 8) (xz xs (i + 1))) ((v 9) (xz xs (i + 1))) w_z9 ∧ zc = ((subLn ((v 8) (xz xs (i + 1))) ((v 9) (xz xs (i + 1))) ((v 10) (xz xs (i + 1))) w_z9).length : Nat) := kq
    have hz6 : z6 = 0 := hz6
    have hzr : -2147483648 ≤ zc ∧ zc ≤ 2147483647 := hzr
    have hP : va_P D vwCl ([xOut tA o (zU og 0 zc), xOud tA od dg, xMod tA am ms mbef msav misv mpast mpm mthr mways mnds mtkp mline mlm mtxt mlen mat mwr merr mfail mcmd mcm, xObj ad hsv mal fai, xOff tA ad v shrt w_grp seen tp shr need ordr size, xScr tA K ad pos cmd vals txt len, xHis tA ad hc hn hs, xBef tA ad bt, xSav tA ad sv, xLin tA ad (wrL lnb 0 (subLn ((v 8) (xz xs (i + 1))) ((v 9) (xz xs (i + 1))) ((v 10) (xz xs (i + 1))) w_z9)) w_lml ((subLn ((v 8) (xz xs (i + 1))) ((v 9) (xz xs (i + 1))) ((v 10) (xz xs (i + 1))) w_z9).length : Nat)]).flatten H := hP
    have hD : va_D (lwA s) ([xOut tA o (zU og 0 zc), xOud tA od dg, xMod tA am ms mbef msav misv mpast mpm mthr mways mnds mtkp mline mlm mtxt mlen mat mwr merr mfail mcmd mcm, xObj ad hsv mal fai, xOff tA ad v shrt w_grp seen tp shr need ordr size, xScr tA K ad pos cmd vals txt len, xHis tA ad hc hn hs, xBef tA ad bt, xSav tA ad sv, xLin tA ad (wrL lnb 0 (subLn ((v 8) (xz xs (i + 1))) ((v 9) (xz xs (i + 1))) ((v 10) (xz xs (i + 1))) w_z9)) w_lml ((subLn ((v 8) (xz xs (i + 1))) ((v 9) (xz xs (i + 1))) ((v 10) (xz xs (i + 1))) w_z9).length : Nat)]).flatten := hD
    refine lv_istore (lv' := [(6, .int (iI z6)), (0, .ref b), (1, .ref (ad 0)), (2, .ref (am 0)), (3, .ref o), (4, .ref od), (5, .int (iI i))]) hx hb dL_law_2456 hl (by decide) rfl (fun ls hl => ?_)
    refine lv_aload_n hx hb dL_law_2458 rfl (lv_at hl 3 rfl) ?_
    refine lv_aload_n hx hb dL_law_2459 rfl (lv_at hl 1 rfl) ?_
    refine lv_iload hx hb dL_law_2460 (lv_at hl 6 rfl) ?_
    refine zz_iconst hx hb dL_law_2462 ?_
    refine zz_iadd hx hb dL_law_2463 ?_
    refine zz_sld hx hb hX hbl hbA hS (k := i + 1) (by omega) hL dL_law_2464 ?_
    refine zz_callVi_ch (As := [.int (iI (xz xs (i + 1)))]) (rest := []) (L := [xOut tA o (zU og 0 zc), xOud tA od dg, xMod tA am ms mbef msav misv mpast mpm mthr mways mnds mtkp mline mlm mtxt mlen mat mwr merr mfail mcmd mcm, xObj ad hsv mal fai, xOff tA ad v shrt w_grp seen tp shr need ordr size, xScr tA K ad pos cmd vals txt len, xHis tA ad hc hn hs, xBef tA ad bt, xSav tA ad sv, xLin tA ad (wrL lnb 0 (subLn ((v 8) (xz xs (i + 1))) ((v 9) (xz xs (i + 1))) ((v 10) (xz xs (i + 1))) w_z9)) w_lml ((subLn ((v 8) (xz xs (i + 1))) ((v 9) (xz xs (i + 1))) ((v 10) (xz xs (i + 1))) w_z9).length : Nat)]) (Lc := [xMod tA am ms mbef msav misv mpast mpm mthr mways mnds mtkp mline mlm mtxt mlen mat mwr merr mfail mcmd mcm]) (Lr := [xOut tA o (zU og 0 zc), xOud tA od dg, xObj ad hsv mal fai, xOff tA ad v shrt w_grp seen tp shr need ordr size, xScr tA K ad pos cmd vals txt len, xHis tA ad hc hn hs, xBef tA ad bt, xSav tA ad sv, xLin tA ad (wrL lnb 0 (subLn ((v 8) (xz xs (i + 1))) ((v 9) (xz xs (i + 1))) ((v 10) (xz xs (i + 1))) w_z9)) w_lml ((subLn ((v 8) (xz xs (i + 1))) ((v 9) (xz xs (i + 1))) ((v 10) (xz xs (i + 1))) w_z9).length : Nat)]) (Lc' := fun u => [xMod tA am ms mbef msav misv mpast mpm u.1 u.2.2.2.1 u.2.2.2.2.1 u.2.2.2.2.2 u.2.1 u.2.2.1 mtxt mlen mat mwr merr mfail mcmd mcm]) (Lf := fun u => [xOut tA o (zU og 0 zc), xOud tA od dg, xMod tA am ms mbef msav misv mpast mpm u.1 u.2.2.2.1 u.2.2.2.2.1 u.2.2.2.2.2 u.2.1 u.2.2.1 mtxt mlen mat mwr merr mfail mcmd mcm, xObj ad hsv mal fai, xOff tA ad v shrt w_grp seen tp shr need ordr size, xScr tA K ad pos cmd vals txt len, xHis tA ad hc hn hs, xBef tA ad bt, xSav tA ad sv, xLin tA ad (wrL lnb 0 (subLn ((v 8) (xz xs (i + 1))) ((v 9) (xz xs (i + 1))) ((v 10) (xz xs (i + 1))) w_z9)) w_lml ((subLn ((v 8) (xz xs (i + 1))) ((v 9) (xz xs (i + 1))) ((v 10) (xz xs (i + 1))) w_z9).length : Nat)]) (is := [2, 0, 1, 3, 4, 5, 6, 7, 8, 9]) (isF := [0, 1, 9, 2, 3, 4, 5, 6, 7, 8]) ⟨hx, hb, hml, hown, hts⟩ (c_X11_writeSubscriber l D tA (am 0) (am 1) (am 2) (am 3) (am 4) (am 5) (am 6) (am 7) (am 8) (am 9) (am 10) H.size ms mbef msav misv mpast mpm mthr mways mnds mtkp mline mlm mtxt mlen mat mwr merr mfail mcmd mcm (xz xs (i + 1)) (xz_in _ _) hmv.1 (fun j j0 j1 => by rw [e1] at j1; have h9 := (hr.2.1 j j0 j1).2.2.1; have h8 := hmon j j0 j1; omega)) (cwV 1 hts (gx_tbl gL_law_X11_writeSubscriber) rfl rfl rfl (by decide +kernel) ⟨Nat.le_of_ble_eq_true rfl, Nat.le_of_ble_eq_true rfl⟩) hK hP hD hS hA ⟨rfl, rfl, (by decide)⟩ ⟨fun _ => rfl, fun _ => rfl, (by decide)⟩ (ci := 13) (q0 := 0) rfl rfl rfl rfl rfl hl.1 (Nat.le_of_ble_eq_true rfl) dL_law_2465 (by show _ + 0 ≤ 603072 ∧ _ + 0 ≤ 7207018; omega) ?_
    intro zb u H locs hmq hP hD hS
    obtain ⟨y_mthr, y_mline, y_mlm, y_mways, y_mnds, y_mtkp⟩ := u
    have hP : va_P D vwCl ([xOut tA o (zU og 0 zc), xOud tA od dg, xMod tA am ms mbef msav misv mpast mpm y_mthr y_mways y_mnds y_mtkp y_mline y_mlm mtxt mlen mat mwr merr mfail mcmd mcm, xObj ad hsv mal fai, xOff tA ad v shrt w_grp seen tp shr need ordr size, xScr tA K ad pos cmd vals txt len, xHis tA ad hc hn hs, xBef tA ad bt, xSav tA ad sv, xLin tA ad (wrL lnb 0 (subLn ((v 8) (xz xs (i + 1))) ((v 9) (xz xs (i + 1))) ((v 10) (xz xs (i + 1))) w_z9)) w_lml ((subLn ((v 8) (xz xs (i + 1))) ((v 9) (xz xs (i + 1))) ((v 10) (xz xs (i + 1))) w_z9).length : Nat)]).flatten H := hP
    have hD : va_D (lwA s) ([xOut tA o (zU og 0 zc), xOud tA od dg, xMod tA am ms mbef msav misv mpast mpm y_mthr y_mways y_mnds y_mtkp y_mline y_mlm mtxt mlen mat mwr merr mfail mcmd mcm, xObj ad hsv mal fai, xOff tA ad v shrt w_grp seen tp shr need ordr size, xScr tA K ad pos cmd vals txt len, xHis tA ad hc hn hs, xBef tA ad bt, xSav tA ad sv, xLin tA ad (wrL lnb 0 (subLn ((v 8) (xz xs (i + 1))) ((v 9) (xz xs (i + 1))) ((v 10) (xz xs (i + 1))) w_z9)) w_lml ((subLn ((v 8) (xz xs (i + 1))) ((v 9) (xz xs (i + 1))) ((v 10) (xz xs (i + 1))) w_z9).length : Nat)]).flatten := hD
    have mq : (y_mthr = 1 ∧ ¬ (0 ≤ (xz xs (i + 1)) ∧ (xz xs (i + 1)) < ms 1) ∧ y_mline = mline ∧ y_mlm = mlm) ∨ (y_mthr = 0 ∧ (0 ≤ (xz xs (i + 1)) ∧ (xz xs (i + 1)) < ms 1) ∧ wsP ms (xz xs (i + 1)) mline y_mline y_mlm zb) := hmq
    clear hmq
    refine lv_istore (lv' := [(7, .int (iI zb)), (6, .int (iI z6)), (0, .ref b), (1, .ref (ad 0)), (2, .ref (am 0)), (3, .ref o), (4, .ref od), (5, .int (iI i))]) hx hb dL_law_2468 hl (by decide) rfl (fun ls hl => ?_)
    have hTV : y_mthr = 0 ∧ zb = zc := by
      obtain ⟨k1, k2, k3⟩ := kq
      rcases mq with ⟨-, m, -⟩ | ⟨m0, m1, r9, r1, r2, r3⟩
      · rw [e1] at m
        exact absurd k1 m
      · have w9 := ws_eq hr eE k1 k2 r1 r2
        exact ⟨m0, by omega⟩
    have hT : y_mthr = z6 := hTV.1.trans hz6.symm
    have hI2 : LInv (n + 1) v hs sv pos cmd vals txt len hc hn hsv mal fai (wrL lnb 0 (subLn ((v 8) (xz xs (i + 1))) ((v 9) (xz xs (i + 1))) ((v 10) (xz xs (i + 1))) w_z9)) ((subLn ((v 8) (xz xs (i + 1))) ((v 9) (xz xs (i + 1))) ((v 10) (xz xs (i + 1))) w_z9).length : Nat) ms msav misv mpast mpm y_mline y_mlm mtxt mlen merr mfail mcmd := by
      obtain ⟨k1, k2, k3⟩ := kq
      rcases mq with ⟨-, m, -⟩ | ⟨m0, m1, r9, r1, r2, r3⟩
      · rw [e1] at m
        exact absurd k1 m
      · have w9 := ws_eq hr eE k1 k2 r1 r2
        have b9 := hsp _ k1.1 k1.2
        have b8 := hmon _ k1.1 k1.2
        have b7 := needP_in k2
        have b6 := hch.2.1
        exact LI_line hn9 hI (subLn_16 (by omega) (by omega) (by omega) (by omega)) (subLn_ch _ _ _ _) w9.1
    refine lv_aload_n hx hb dL_law_2470 rfl (lv_at hl 4 rfl) ?_
    refine zz_callVi_ch (As := []) (rest := []) (L := [xOut tA o (zU og 0 zc), xOud tA od dg, xMod tA am ms mbef msav misv mpast mpm y_mthr y_mways y_mnds y_mtkp y_mline y_mlm mtxt mlen mat mwr merr mfail mcmd mcm, xObj ad hsv mal fai, xOff tA ad v shrt w_grp seen tp shr need ordr size, xScr tA K ad pos cmd vals txt len, xHis tA ad hc hn hs, xBef tA ad bt, xSav tA ad sv, xLin tA ad (wrL lnb 0 (subLn ((v 8) (xz xs (i + 1))) ((v 9) (xz xs (i + 1))) ((v 10) (xz xs (i + 1))) w_z9)) w_lml ((subLn ((v 8) (xz xs (i + 1))) ((v 9) (xz xs (i + 1))) ((v 10) (xz xs (i + 1))) w_z9).length : Nat)]) (Lc := [xMod tA am ms mbef msav misv mpast mpm y_mthr y_mways y_mnds y_mtkp y_mline y_mlm mtxt mlen mat mwr merr mfail mcmd mcm]) (Lr := [xOut tA o (zU og 0 zc), xOud tA od dg, xObj ad hsv mal fai, xOff tA ad v shrt w_grp seen tp shr need ordr size, xScr tA K ad pos cmd vals txt len, xHis tA ad hc hn hs, xBef tA ad bt, xSav tA ad sv, xLin tA ad (wrL lnb 0 (subLn ((v 8) (xz xs (i + 1))) ((v 9) (xz xs (i + 1))) ((v 10) (xz xs (i + 1))) w_z9)) w_lml ((subLn ((v 8) (xz xs (i + 1))) ((v 9) (xz xs (i + 1))) ((v 10) (xz xs (i + 1))) w_z9).length : Nat)]) (Lc' := fun u => [xMod tA am ms mbef msav misv mpast mpm y_mthr y_mways y_mnds y_mtkp y_mline y_mlm mtxt mlen mat mwr merr mfail mcmd mcm]) (Lf := fun u => [xOut tA o (zU og 0 zc), xOud tA od dg, xMod tA am ms mbef msav misv mpast mpm y_mthr y_mways y_mnds y_mtkp y_mline y_mlm mtxt mlen mat mwr merr mfail mcmd mcm, xObj ad hsv mal fai, xOff tA ad v shrt w_grp seen tp shr need ordr size, xScr tA K ad pos cmd vals txt len, xHis tA ad hc hn hs, xBef tA ad bt, xSav tA ad sv, xLin tA ad (wrL lnb 0 (subLn ((v 8) (xz xs (i + 1))) ((v 9) (xz xs (i + 1))) ((v 10) (xz xs (i + 1))) w_z9)) w_lml ((subLn ((v 8) (xz xs (i + 1))) ((v 9) (xz xs (i + 1))) ((v 10) (xz xs (i + 1))) w_z9).length : Nat)]) (is := [2, 0, 1, 3, 4, 5, 6, 7, 8, 9]) (isF := [0, 1, 9, 2, 3, 4, 5, 6, 7, 8]) ⟨hx, hb, hml, hown, hts⟩ (c_X11_thrown l D tA (am 0) (am 1) (am 2) (am 3) (am 4) (am 5) (am 6) (am 7) (am 8) (am 9) (am 10) H.size ms mbef msav misv mpast mpm y_mthr y_mways y_mnds y_mtkp y_mline y_mlm mtxt mlen mat mwr merr mfail mcmd mcm) (cwV 0 hts (gx_tbl gL_law_X11_thrown) rfl rfl rfl (by decide +kernel) ⟨Nat.le_of_ble_eq_true rfl, Nat.le_of_ble_eq_true rfl⟩) hK hP hD hS hA ⟨rfl, rfl, (by decide)⟩ ⟨fun _ => rfl, fun _ => rfl, (by decide)⟩ (ci := 13) (q0 := 0) rfl rfl rfl rfl rfl hl.1 (Nat.le_of_ble_eq_true rfl) dL_law_2471 (by show _ + 0 ≤ 603072 ∧ _ + 0 ≤ 7207018; omega) ?_
    intro zt u H locs hzt hP hD hS
    have hP : va_P D vwCl ([xOut tA o (zU og 0 zc), xOud tA od dg, xMod tA am ms mbef msav misv mpast mpm y_mthr y_mways y_mnds y_mtkp y_mline y_mlm mtxt mlen mat mwr merr mfail mcmd mcm, xObj ad hsv mal fai, xOff tA ad v shrt w_grp seen tp shr need ordr size, xScr tA K ad pos cmd vals txt len, xHis tA ad hc hn hs, xBef tA ad bt, xSav tA ad sv, xLin tA ad (wrL lnb 0 (subLn ((v 8) (xz xs (i + 1))) ((v 9) (xz xs (i + 1))) ((v 10) (xz xs (i + 1))) w_z9)) w_lml ((subLn ((v 8) (xz xs (i + 1))) ((v 9) (xz xs (i + 1))) ((v 10) (xz xs (i + 1))) w_z9).length : Nat)]).flatten H := hP
    have hD : va_D (lwA s) ([xOut tA o (zU og 0 zc), xOud tA od dg, xMod tA am ms mbef msav misv mpast mpm y_mthr y_mways y_mnds y_mtkp y_mline y_mlm mtxt mlen mat mwr merr mfail mcmd mcm, xObj ad hsv mal fai, xOff tA ad v shrt w_grp seen tp shr need ordr size, xScr tA K ad pos cmd vals txt len, xHis tA ad hc hn hs, xBef tA ad bt, xSav tA ad sv, xLin tA ad (wrL lnb 0 (subLn ((v 8) (xz xs (i + 1))) ((v 9) (xz xs (i + 1))) ((v 10) (xz xs (i + 1))) w_z9)) w_lml ((subLn ((v 8) (xz xs (i + 1))) ((v 9) (xz xs (i + 1))) ((v 10) (xz xs (i + 1))) w_z9).length : Nat)]).flatten := hD
    have hzt : zt = y_mthr := hzt
    have hz69 : 0 ≤ z6 ∧ z6 ≤ 9 := by omega
    refine lv_iload hx hb dL_law_2474 (lv_at hl 1 rfl) ?_
    refine zz_icmp_eq (tgt := 2481) hx hb dL_law_2476 (by decide) (by omega) (by omega) (fun _ => ?_) (fun c9 => absurd (by omega) c9)
    refine lv_iload hx hb dL_law_2481 (lv_at hl 1 rfl) ?_
    refine zz_if_ne (tgt := 2498) hx hb dL_law_2483 (by decide) (by omega) (fun c9 => absurd hz6 c9) (fun _ => ?_)
    refine lv_aload_n hx hb dL_law_2486 rfl (lv_at hl 5 rfl) ?_
    refine zz_iconst hx hb dL_law_2487 ?_
    refine zz_lald hx hb hK hP 0 rfl (by decide) (by decide) dL_law_2488 ?_
    rw [zU_same]
    refine lv_iload hx hb dL_law_2489 (lv_at hl 0 rfl) ?_
    refine zz_i2l hx hb dL_law_2491 (by omega) ?_
    rw [hTV.2]
    refine zz_lcmp hx hb dL_law_2492 (by omega) (by omega) ?_
    rw [cmpZ_s]
    refine zz_if_eq (tgt := 2498) hx hb dL_law_2493 (by decide) (by decide) (fun _ => ?_) (fun c9 => absurd rfl c9)
    refine lv_goto (tgt := 2917) hx hb dL_law_2498 (by decide) ?_
    refine W.widen (k := k9 + 20) (n := n9 + 200) (by omega) (by omega) ?_
    exact kk v shrt w_grp seen tp shr need ordr size pos cmd vals txt len hc hn hs bt sv hsv mal fai (wrL lnb 0 (subLn ((v 8) (xz xs (i + 1))) ((v 9) (xz xs (i + 1))) ((v 10) (xz xs (i + 1))) w_z9)) w_lml ((subLn ((v 8) (xz xs (i + 1))) ((v 9) (xz xs (i + 1))) ((v 10) (xz xs (i + 1))) w_z9).length : Nat) ms mbef msav misv mpast mpm y_mthr y_mways y_mnds y_mtkp y_mline y_mlm mtxt mlen mat mwr merr mfail mcmd mcm (zU og 0 zc) dg _ _ _ hI2 hP hD hS (lv_sub hl [2, 3, 4, 5, 6, 7] rfl)
  · obtain ⟨kx, rfl⟩ : ∃ q, q = u := ⟨_, rfl⟩
    have kq : kx = 1 ∧ ¬ (0 ≤ (xz xs (i + 1)) ∧ (xz xs (i + 1)) < (v 7 0)) := hq.1
    have kc : (kx = 1 ∧ z6 = 1) := hq.2
    have hP : va_P D vwCl ([xOut tA o og, xOud tA od dg, xMod tA am ms mbef msav misv mpast mpm mthr mways mnds mtkp mline mlm mtxt mlen mat mwr merr mfail mcmd mcm, xObj ad hsv mal fai, xOff tA ad v shrt grp seen tp shr need ordr size, xScr tA K ad pos cmd vals txt len, xHis tA ad hc hn hs, xBef tA ad bt, xSav tA ad sv, xLin tA ad lnb lml lct]).flatten H := hP
    have hD : va_D (lwA s) ([xOut tA o og, xOud tA od dg, xMod tA am ms mbef msav misv mpast mpm mthr mways mnds mtkp mline mlm mtxt mlen mat mwr merr mfail mcmd mcm, xObj ad hsv mal fai, xOff tA ad v shrt grp seen tp shr need ordr size, xScr tA K ad pos cmd vals txt len, xHis tA ad hc hn hs, xBef tA ad bt, xSav tA ad sv, xLin tA ad lnb lml lct]).flatten := hD
    refine lv_istore (lv' := [(6, .int (iI z6)), (0, .ref b), (1, .ref (ad 0)), (2, .ref (am 0)), (3, .ref o), (4, .ref od), (5, .int (iI i))]) hx hb dL_law_2456 hl (by decide) rfl (fun ls hl => ?_)
    refine lv_aload_n hx hb dL_law_2458 rfl (lv_at hl 3 rfl) ?_
    refine lv_aload_n hx hb dL_law_2459 rfl (lv_at hl 1 rfl) ?_
    refine lv_iload hx hb dL_law_2460 (lv_at hl 6 rfl) ?_
    refine zz_iconst hx hb dL_law_2462 ?_
    refine zz_iadd hx hb dL_law_2463 ?_
    refine zz_sld hx hb hX hbl hbA hS (k := i + 1) (by omega) hL dL_law_2464 ?_
    refine zz_callVi_ch (As := [.int (iI (xz xs (i + 1)))]) (rest := []) (L := [xOut tA o og, xOud tA od dg, xMod tA am ms mbef msav misv mpast mpm mthr mways mnds mtkp mline mlm mtxt mlen mat mwr merr mfail mcmd mcm, xObj ad hsv mal fai, xOff tA ad v shrt grp seen tp shr need ordr size, xScr tA K ad pos cmd vals txt len, xHis tA ad hc hn hs, xBef tA ad bt, xSav tA ad sv, xLin tA ad lnb lml lct]) (Lc := [xMod tA am ms mbef msav misv mpast mpm mthr mways mnds mtkp mline mlm mtxt mlen mat mwr merr mfail mcmd mcm]) (Lr := [xOut tA o og, xOud tA od dg, xObj ad hsv mal fai, xOff tA ad v shrt grp seen tp shr need ordr size, xScr tA K ad pos cmd vals txt len, xHis tA ad hc hn hs, xBef tA ad bt, xSav tA ad sv, xLin tA ad lnb lml lct]) (Lc' := fun u => [xMod tA am ms mbef msav misv mpast mpm u.1 u.2.2.2.1 u.2.2.2.2.1 u.2.2.2.2.2 u.2.1 u.2.2.1 mtxt mlen mat mwr merr mfail mcmd mcm]) (Lf := fun u => [xOut tA o og, xOud tA od dg, xMod tA am ms mbef msav misv mpast mpm u.1 u.2.2.2.1 u.2.2.2.2.1 u.2.2.2.2.2 u.2.1 u.2.2.1 mtxt mlen mat mwr merr mfail mcmd mcm, xObj ad hsv mal fai, xOff tA ad v shrt grp seen tp shr need ordr size, xScr tA K ad pos cmd vals txt len, xHis tA ad hc hn hs, xBef tA ad bt, xSav tA ad sv, xLin tA ad lnb lml lct]) (is := [2, 0, 1, 3, 4, 5, 6, 7, 8, 9]) (isF := [0, 1, 9, 2, 3, 4, 5, 6, 7, 8]) ⟨hx, hb, hml, hown, hts⟩ (c_X11_writeSubscriber l D tA (am 0) (am 1) (am 2) (am 3) (am 4) (am 5) (am 6) (am 7) (am 8) (am 9) (am 10) H.size ms mbef msav misv mpast mpm mthr mways mnds mtkp mline mlm mtxt mlen mat mwr merr mfail mcmd mcm (xz xs (i + 1)) (xz_in _ _) hmv.1 (fun j j0 j1 => by rw [e1] at j1; have h9 := (hr.2.1 j j0 j1).2.2.1; have h8 := hmon j j0 j1; omega)) (cwV 1 hts (gx_tbl gL_law_X11_writeSubscriber) rfl rfl rfl (by decide +kernel) ⟨Nat.le_of_ble_eq_true rfl, Nat.le_of_ble_eq_true rfl⟩) hK hP hD hS hA ⟨rfl, rfl, (by decide)⟩ ⟨fun _ => rfl, fun _ => rfl, (by decide)⟩ (ci := 13) (q0 := 0) rfl rfl rfl rfl rfl hl.1 (Nat.le_of_ble_eq_true rfl) dL_law_2465 (by show _ + 0 ≤ 603072 ∧ _ + 0 ≤ 7207018; omega) ?_
    intro zb u H locs hmq hP hD hS
    obtain ⟨y_mthr, y_mline, y_mlm, y_mways, y_mnds, y_mtkp⟩ := u
    have hP : va_P D vwCl ([xOut tA o og, xOud tA od dg, xMod tA am ms mbef msav misv mpast mpm y_mthr y_mways y_mnds y_mtkp y_mline y_mlm mtxt mlen mat mwr merr mfail mcmd mcm, xObj ad hsv mal fai, xOff tA ad v shrt grp seen tp shr need ordr size, xScr tA K ad pos cmd vals txt len, xHis tA ad hc hn hs, xBef tA ad bt, xSav tA ad sv, xLin tA ad lnb lml lct]).flatten H := hP
    have hD : va_D (lwA s) ([xOut tA o og, xOud tA od dg, xMod tA am ms mbef msav misv mpast mpm y_mthr y_mways y_mnds y_mtkp y_mline y_mlm mtxt mlen mat mwr merr mfail mcmd mcm, xObj ad hsv mal fai, xOff tA ad v shrt grp seen tp shr need ordr size, xScr tA K ad pos cmd vals txt len, xHis tA ad hc hn hs, xBef tA ad bt, xSav tA ad sv, xLin tA ad lnb lml lct]).flatten := hD
    have mq : (y_mthr = 1 ∧ ¬ (0 ≤ (xz xs (i + 1)) ∧ (xz xs (i + 1)) < ms 1) ∧ y_mline = mline ∧ y_mlm = mlm) ∨ (y_mthr = 0 ∧ (0 ≤ (xz xs (i + 1)) ∧ (xz xs (i + 1)) < ms 1) ∧ wsP ms (xz xs (i + 1)) mline y_mline y_mlm zb) := hmq
    clear hmq
    refine lv_istore (lv' := [(7, .int (iI zb)), (6, .int (iI z6)), (0, .ref b), (1, .ref (ad 0)), (2, .ref (am 0)), (3, .ref o), (4, .ref od), (5, .int (iI i))]) hx hb dL_law_2468 hl (by decide) rfl (fun ls hl => ?_)
    have hT : y_mthr = z6 := by
      rcases mq with ⟨m0, -⟩ | ⟨-, m1, -⟩
      · omega
      · rw [e1] at m1
        exact absurd m1 kq.2
    have hI2 : LInv (n + 1) v hs sv pos cmd vals txt len hc hn hsv mal fai lnb lct ms msav misv mpast mpm y_mline y_mlm mtxt mlen merr mfail mcmd := by
      rcases mq with ⟨-, -, m2, m3⟩ | ⟨-, m1, -⟩
      · rw [m2, m3]
        exact LI_q hn9 hI
      · rw [e1] at m1
        exact absurd m1 kq.2
    refine lv_aload_n hx hb dL_law_2470 rfl (lv_at hl 4 rfl) ?_
    refine zz_callVi_ch (As := []) (rest := []) (L := [xOut tA o og, xOud tA od dg, xMod tA am ms mbef msav misv mpast mpm y_mthr y_mways y_mnds y_mtkp y_mline y_mlm mtxt mlen mat mwr merr mfail mcmd mcm, xObj ad hsv mal fai, xOff tA ad v shrt grp seen tp shr need ordr size, xScr tA K ad pos cmd vals txt len, xHis tA ad hc hn hs, xBef tA ad bt, xSav tA ad sv, xLin tA ad lnb lml lct]) (Lc := [xMod tA am ms mbef msav misv mpast mpm y_mthr y_mways y_mnds y_mtkp y_mline y_mlm mtxt mlen mat mwr merr mfail mcmd mcm]) (Lr := [xOut tA o og, xOud tA od dg, xObj ad hsv mal fai, xOff tA ad v shrt grp seen tp shr need ordr size, xScr tA K ad pos cmd vals txt len, xHis tA ad hc hn hs, xBef tA ad bt, xSav tA ad sv, xLin tA ad lnb lml lct]) (Lc' := fun u => [xMod tA am ms mbef msav misv mpast mpm y_mthr y_mways y_mnds y_mtkp y_mline y_mlm mtxt mlen mat mwr merr mfail mcmd mcm]) (Lf := fun u => [xOut tA o og, xOud tA od dg, xMod tA am ms mbef msav misv mpast mpm y_mthr y_mways y_mnds y_mtkp y_mline y_mlm mtxt mlen mat mwr merr mfail mcmd mcm, xObj ad hsv mal fai, xOff tA ad v shrt grp seen tp shr need ordr size, xScr tA K ad pos cmd vals txt len, xHis tA ad hc hn hs, xBef tA ad bt, xSav tA ad sv, xLin tA ad lnb lml lct]) (is := [2, 0, 1, 3, 4, 5, 6, 7, 8, 9]) (isF := [0, 1, 9, 2, 3, 4, 5, 6, 7, 8]) ⟨hx, hb, hml, hown, hts⟩ (c_X11_thrown l D tA (am 0) (am 1) (am 2) (am 3) (am 4) (am 5) (am 6) (am 7) (am 8) (am 9) (am 10) H.size ms mbef msav misv mpast mpm y_mthr y_mways y_mnds y_mtkp y_mline y_mlm mtxt mlen mat mwr merr mfail mcmd mcm) (cwV 0 hts (gx_tbl gL_law_X11_thrown) rfl rfl rfl (by decide +kernel) ⟨Nat.le_of_ble_eq_true rfl, Nat.le_of_ble_eq_true rfl⟩) hK hP hD hS hA ⟨rfl, rfl, (by decide)⟩ ⟨fun _ => rfl, fun _ => rfl, (by decide)⟩ (ci := 13) (q0 := 0) rfl rfl rfl rfl rfl hl.1 (Nat.le_of_ble_eq_true rfl) dL_law_2471 (by show _ + 0 ≤ 603072 ∧ _ + 0 ≤ 7207018; omega) ?_
    intro zt u H locs hzt hP hD hS
    have hP : va_P D vwCl ([xOut tA o og, xOud tA od dg, xMod tA am ms mbef msav misv mpast mpm y_mthr y_mways y_mnds y_mtkp y_mline y_mlm mtxt mlen mat mwr merr mfail mcmd mcm, xObj ad hsv mal fai, xOff tA ad v shrt grp seen tp shr need ordr size, xScr tA K ad pos cmd vals txt len, xHis tA ad hc hn hs, xBef tA ad bt, xSav tA ad sv, xLin tA ad lnb lml lct]).flatten H := hP
    have hD : va_D (lwA s) ([xOut tA o og, xOud tA od dg, xMod tA am ms mbef msav misv mpast mpm y_mthr y_mways y_mnds y_mtkp y_mline y_mlm mtxt mlen mat mwr merr mfail mcmd mcm, xObj ad hsv mal fai, xOff tA ad v shrt grp seen tp shr need ordr size, xScr tA K ad pos cmd vals txt len, xHis tA ad hc hn hs, xBef tA ad bt, xSav tA ad sv, xLin tA ad lnb lml lct]).flatten := hD
    have hzt : zt = y_mthr := hzt
    have hz69 : 0 ≤ z6 ∧ z6 ≤ 9 := by omega
    refine lv_iload hx hb dL_law_2474 (lv_at hl 1 rfl) ?_
    refine zz_icmp_eq (tgt := 2481) hx hb dL_law_2476 (by decide) (by omega) (by omega) (fun _ => ?_) (fun c9 => absurd (by omega) c9)
    refine lv_iload hx hb dL_law_2481 (lv_at hl 1 rfl) ?_
    refine zz_if_ne (tgt := 2498) hx hb dL_law_2483 (by decide) (by omega) (fun _ => ?_) (fun c9 => absurd c9 (by omega))
    refine lv_goto (tgt := 2917) hx hb dL_law_2498 (by decide) ?_
    refine W.widen (k := k9 + 20) (n := n9 + 200) (by omega) (by omega) ?_
    exact kk v shrt grp seen tp shr need ordr size pos cmd vals txt len hc hn hs bt sv hsv mal fai lnb lml lct ms mbef msav misv mpast mpm y_mthr y_mways y_mnds y_mtkp y_mline y_mlm mtxt mlen mat mwr merr mfail mcmd mcm og dg _ _ _ hI2 hP hD hS (lv_sub hl [2, 3, 4, 5, 6, 7] rfl)

set_option maxHeartbeats 8000000 in
set_option maxRecDepth 100000 in
theorem law_c44 {p : Program} {l : Launch} (hst : l.stackTraces = false) {e : Env} {s : State} {m : MethodId} {below : List Frame} {meth : Method} {c : Code} {D : va_G} {tA : Nat → ClassId} {K : Nat → Nat} {b L : Nat} {xs : Nat → Int32} (hL : L ≤ 2560) (C0 : lw_At p s m meth c b L xs) (hK : zK D tA s) (hZ : zT K (lwA s) s) {ad am : Nat → Nat} {o od : Nat} {i n : Int} (hi : 0 ≤ i ∧ i + 5 ≤ L) (hn9 : n < 600) {k9 n9 : Nat} (hk9 : k9 + 20 ≤ 603072 ∧ n9 + 200 ≤ 7207018) {v : Nat → Int → Int} {shrt : Int → Int} {grp : Int → Int} {seen : Int → Int} {tp : Int → Int} {shr : Int → Int} {need : Int → Int} {ordr : Int → Int} {size : Int} {pos : Int} {cmd : Int} {vals : Int → Int} {txt : Int → Int} {len : Int} {hc : Int} {hn : Int} {hs : Nat → Nat → Int → Int} {bt : Nat → Int → Int} {sv : Nat → Int → Int} {hsv : Int} {mal : Int} {fai : Int} {lnb : Int → Int} {lml : Int} {lct : Int} {ms : Int → Int} {mbef : Int → Int} {msav : Int → Int} {misv : Int} {mpast : Int → Int} {mpm : Int} {mthr : Int} {mways : Int → Int} {mnds : Int → Int} {mtkp : Int → Int} {mline : Int → Int} {mlm : Int} {mtxt : Int → Int} {mlen : Int} {mat : Int} {mwr : Int} {merr : Int} {mfail : Int} {mcmd : Int → Int} {mcm : Int} {og : Int → Int} {dg : Nat → UInt64} {H : Heap} {locs : List Loc} {ls : Array Slot} (hI : LInv n v hs sv pos cmd vals txt len hc hn hsv mal fai lnb lct ms msav misv mpast mpm mline mlm mtxt mlen merr mfail mcmd) (hP : va_P D vwCl (xW tA K ad am o od v shrt grp seen tp shr need ordr size pos cmd vals txt len hc hn hs bt sv hsv mal fai lnb lml lct ms mbef msav misv mpast mpm mthr mways mnds mtkp mline mlm mtxt mlen mat mwr merr mfail mcmd mcm og dg).flatten H) (hD : va_D (lwA s) (xW tA K ad am o od v shrt grp seen tp shr need ordr size pos cmd vals txt len hc hn hs bt sv hsv mal fai lnb lml lct ms mbef msav misv mpast mpm mthr mways mnds mtkp mline mlm mtxt mlen mat mwr merr mfail mcmd mcm og dg).flatten) (hS : va_S (lwA s) s.heap H locs) (hl : lv_has ls 9 [(0, .ref b), (1, .ref (ad 0)), (2, .ref (am 0)), (3, .ref o), (4, .ref od), (5, .int (iI i))]) (kk : lwK p l e s m below meth c D tA K ad am o od b i n k9 n9) : W p l e room_1 s m #[Value.ref b] below meth c H locs k9 n9 (lw_Z below #[Value.ref b] s) (F0 m 2501 ls []) := by
  obtain ⟨hx, hb, hrt, hml, hown, hts, hX, hbl, hlocks, hgv⟩ := id C0
  have hts := lw_more hts
  have hA : ∀ q : Nat, s.heap.size ≤ q → lwA s q := fun _ h => h
  have hbA : ¬ lwA s b := Nat.not_le.mpr hbl
  have hCn := hZ.2.2.2
  obtain ⟨⟨n0, n6, l0, l6, ln⟩, hLS, ⟨hhn, hhc, hpm, hhi⟩, ⟨hsv01, hmis, hsvv, hsvr⟩, ⟨hlen, htxt, htx⟩, ⟨hlm, hln, hl0, hl16, hlb⟩, ⟨her, hfa, hm1, hm2, hf1, hf2⟩, ⟨hcd0, hcd1, hps0, hps1, hva⟩, hcr⟩ := id hI
  have hv := hLS.1
  have hr := hLS.2
  have hch : ChS v := hv.1
  have hu9 : ChW v := hv.2.1
  obtain ⟨-, -, hcc, hsp, hmo, hfog, hrg, hni, hfd, hmt9, hln9, hsum⟩ := SVk_out (show SVk _ _ (etS v) from hv)
  have hmv := rel_MV hv hr (by omega) (by omega)
  obtain ⟨e0, e1, e2, e3, e4, e5, e6⟩ := id hr.1
  have eE := rel_sE hch hr
  have hmon : ∀ j, 0 ≤ j → j < v 7 0 → 0 ≤ v 10 j ∧ v 10 j ≤ 6000000 := fun j j0 j1 => by have := hmo j j0 j1; omega
  have hlnd : ∀ j, 0 ≤ j → j < v 7 0 → (0 ≤ v 11 j ∧ v 11 j ≤ 600) ∧ (0 ≤ v 12 j ∧ v 12 j ≤ 600) := fun j j0 j1 => by have := hln9 j j0 j1; omega
  refine lv_aload_n hx hb dL_law_2501 rfl (lv_at hl 1 rfl) ?_
  refine lv_aload_n hx hb dL_law_2502 rfl (lv_at hl 0 rfl) ?_
  refine lv_iload hx hb dL_law_2503 (lv_at hl 5 rfl) ?_
  refine zz_iconst hx hb dL_law_2505 ?_
  refine zz_iadd hx hb dL_law_2506 ?_
  refine zz_sld hx hb hX hbl hbA hS (k := i + 1) (by omega) hL dL_law_2507 ?_
  refine lv_aload_n hx hb dL_law_2508 rfl (lv_at hl 3 rfl) ?_
  refine zh_callSi_ch (As := [.ref (ad 0), .int (iI (xz xs (i + 1))), .ref o]) (rest := []) (L := [xOut tA o og, xOud tA od dg, xMod tA am ms mbef msav misv mpast mpm mthr mways mnds mtkp mline mlm mtxt mlen mat mwr merr mfail mcmd mcm, xObj ad hsv mal fai, xOff tA ad v shrt grp seen tp shr need ordr size, xScr tA K ad pos cmd vals txt len, xHis tA ad hc hn hs, xBef tA ad bt, xSav tA ad sv, xLin tA ad lnb lml lct]) (Lc := [xOut tA o og, xObj ad hsv mal fai, xOff tA ad v shrt grp seen tp shr need ordr size, xLin tA ad lnb lml lct]) (Lr := [xOud tA od dg, xMod tA am ms mbef msav misv mpast mpm mthr mways mnds mtkp mline mlm mtxt mlen mat mwr merr mfail mcmd mcm, xScr tA K ad pos cmd vals txt len, xHis tA ad hc hn hs, xBef tA ad bt, xSav tA ad sv]) (Lc' := fun u => Sum.elim (fun u => [xOut tA o (zU og 0 u.1), xObj ad hsv mal fai, xOff tA ad v shrt grp seen tp shr need ordr size, xLin tA ad (wrL lnb 0 (legLn ((v 2) (xz xs (i + 1))) ((v 3) (xz xs (i + 1))) ((v 4) (xz xs (i + 1))) ((v 5) (xz xs (i + 1))) (v 13 0))) u.2 ((legLn ((v 2) (xz xs (i + 1))) ((v 3) (xz xs (i + 1))) ((v 4) (xz xs (i + 1))) ((v 5) (xz xs (i + 1))) (v 13 0)).length : Nat)]) (fun u => [xOut tA o og, xObj ad hsv mal fai, xOff tA ad v shrt grp seen tp shr need ordr size, xLin tA ad lnb lml lct]) u) (Lf := fun u => Sum.elim (fun u => [xOut tA o (zU og 0 u.1), xOud tA od dg, xMod tA am ms mbef msav misv mpast mpm mthr mways mnds mtkp mline mlm mtxt mlen mat mwr merr mfail mcmd mcm, xObj ad hsv mal fai, xOff tA ad v shrt grp seen tp shr need ordr size, xScr tA K ad pos cmd vals txt len, xHis tA ad hc hn hs, xBef tA ad bt, xSav tA ad sv, xLin tA ad (wrL lnb 0 (legLn ((v 2) (xz xs (i + 1))) ((v 3) (xz xs (i + 1))) ((v 4) (xz xs (i + 1))) ((v 5) (xz xs (i + 1))) (v 13 0))) u.2 ((legLn ((v 2) (xz xs (i + 1))) ((v 3) (xz xs (i + 1))) ((v 4) (xz xs (i + 1))) ((v 5) (xz xs (i + 1))) (v 13 0)).length : Nat)]) (fun u => [xOut tA o og, xOud tA od dg, xMod tA am ms mbef msav misv mpast mpm mthr mways mnds mtkp mline mlm mtxt mlen mat mwr merr mfail mcmd mcm, xObj ad hsv mal fai, xOff tA ad v shrt grp seen tp shr need ordr size, xScr tA K ad pos cmd vals txt len, xHis tA ad hc hn hs, xBef tA ad bt, xSav tA ad sv, xLin tA ad lnb lml lct]) u) (is := [0, 3, 4, 9, 1, 2, 5, 6, 7, 8]) (isF := [6, 0, 1, 7, 8, 2, 3, 4, 5, 9]) ⟨hx, hb, hml, hown, hts⟩ (c_L_writeLeg l hst K D tA (ad 0) (ad 1) (ad 2) (ad 3) (ad 4) (ad 5) (ad 6) (ad 7) (ad 8) (ad 9) (ad 10) (ad 11) (ad 12) (ad 13) (ad 14) (ad 15) (ad 16) (ad 17) (ad 18) (ad 19) (ad 20) (ad 21) (ad 22) (ad 23) (ad 159) (ad 160) (ad 24) (ad 27) (ad 146) (ad 133) o H.size og (v 0 0) (v 1 0) (v 2) (v 3) (v 4) (v 5) (v 6) (v 7 0) (v 8) (v 9) (v 10) (v 11) (v 12) (v 13 0) (v 14 0) (v 15 0) (v 16 0) (v 17 0) (v 18 0) shrt grp seen tp shr need ordr size lnb lml lct hsv mal fai  (xz xs (i + 1)) (xz_in _ _) hch ⟨hl0, hl16⟩ hlb hrg) (vx_cwSW 3 hts (gx_wr gL_law_L_writeLeg) rfl rfl rfl (by decide +kernel) ⟨Nat.le_of_ble_eq_true rfl, Nat.le_of_ble_eq_true rfl⟩) hK hP hD hS hA hZ ⟨rfl, rfl, (by decide)⟩ ⟨fun u => by cases u <;> rfl, fun u => by cases u <;> rfl, (by decide)⟩ rfl rfl hl.1 (Nat.le_of_ble_eq_true rfl) dL_law_2509 (by show k9 + 1 ≤ 603072 ∧ n9 + 6 ≤ 7207018; omega) ?_
  intro z6 u H locs hq hP hD hS
  rcases u with ⟨zc, u⟩ | u
  · obtain ⟨w_lml, rfl⟩ : ∃ q, q = u := ⟨_, rfl⟩
    obtain ⟨hz6, kq, hzr⟩ := hq
    have kq : (0 ≤ (xz xs (i + 1)) ∧ (xz xs (i + 1)) < (v 1 0)) ∧ zc = ((legLn ((v 2) (xz xs (i + 1))) ((v 3) (xz xs (i + 1))) ((v 4) (xz xs (i + 1))) ((v 5) (xz xs (i + 1))) (v 13 0)).length : Nat) := kq
    have hz6 : z6 = 0 := hz6
    have hzr : -2147483648 ≤ zc ∧ zc ≤ 2147483647 := hzr
    have hP : va_P D vwCl ([xOut tA o (zU og 0 zc), xOud tA od dg, xMod tA am ms mbef msav misv mpast mpm mthr mways mnds mtkp mline mlm mtxt mlen mat mwr merr mfail mcmd mcm, xObj ad hsv mal fai, xOff tA ad v shrt grp seen tp shr need ordr size, xScr tA K ad pos cmd vals txt len, xHis tA ad hc hn hs, xBef tA ad bt, xSav tA ad sv, xLin tA ad (wrL lnb 0 (legLn ((v 2) (xz xs (i + 1))) ((v 3) (xz xs (i + 1))) ((v 4) (xz xs (i + 1))) ((v 5) (xz xs (i + 1))) (v 13 0))) w_lml ((legLn ((v 2) (xz xs (i + 1))) ((v 3) (xz xs (i + 1))) ((v 4) (xz xs (i + 1))) ((v 5) (xz xs (i + 1))) (v 13 0)).length : Nat)]).flatten H := hP
    have hD : va_D (lwA s) ([xOut tA o (zU og 0 zc), xOud tA od dg, xMod tA am ms mbef msav misv mpast mpm mthr mways mnds mtkp mline mlm mtxt mlen mat mwr merr mfail mcmd mcm, xObj ad hsv mal fai, xOff tA ad v shrt grp seen tp shr need ordr size, xScr tA K ad pos cmd vals txt len, xHis tA ad hc hn hs, xBef tA ad bt, xSav tA ad sv, xLin tA ad (wrL lnb 0 (legLn ((v 2) (xz xs (i + 1))) ((v 3) (xz xs (i + 1))) ((v 4) (xz xs (i + 1))) ((v 5) (xz xs (i + 1))) (v 13 0))) w_lml ((legLn ((v 2) (xz xs (i + 1))) ((v 3) (xz xs (i + 1))) ((v 4) (xz xs (i + 1))) ((v 5) (xz xs (i + 1))) (v 13 0)).length : Nat)]).flatten := hD
    refine lv_istore (lv' := [(6, .int (iI z6)), (0, .ref b), (1, .ref (ad 0)), (2, .ref (am 0)), (3, .ref o), (4, .ref od), (5, .int (iI i))]) hx hb dL_law_2512 hl (by decide) rfl (fun ls hl => ?_)
    refine lv_aload_n hx hb dL_law_2514 rfl (lv_at hl 3 rfl) ?_
    refine lv_aload_n hx hb dL_law_2515 rfl (lv_at hl 1 rfl) ?_
    refine lv_iload hx hb dL_law_2516 (lv_at hl 6 rfl) ?_
    refine zz_iconst hx hb dL_law_2518 ?_
    refine zz_iadd hx hb dL_law_2519 ?_
    refine zz_sld hx hb hX hbl hbA hS (k := i + 1) (by omega) hL dL_law_2520 ?_
    refine zz_callVi_ch (As := [.int (iI (xz xs (i + 1)))]) (rest := []) (L := [xOut tA o (zU og 0 zc), xOud tA od dg, xMod tA am ms mbef msav misv mpast mpm mthr mways mnds mtkp mline mlm mtxt mlen mat mwr merr mfail mcmd mcm, xObj ad hsv mal fai, xOff tA ad v shrt grp seen tp shr need ordr size, xScr tA K ad pos cmd vals txt len, xHis tA ad hc hn hs, xBef tA ad bt, xSav tA ad sv, xLin tA ad (wrL lnb 0 (legLn ((v 2) (xz xs (i + 1))) ((v 3) (xz xs (i + 1))) ((v 4) (xz xs (i + 1))) ((v 5) (xz xs (i + 1))) (v 13 0))) w_lml ((legLn ((v 2) (xz xs (i + 1))) ((v 3) (xz xs (i + 1))) ((v 4) (xz xs (i + 1))) ((v 5) (xz xs (i + 1))) (v 13 0)).length : Nat)]) (Lc := [xMod tA am ms mbef msav misv mpast mpm mthr mways mnds mtkp mline mlm mtxt mlen mat mwr merr mfail mcmd mcm]) (Lr := [xOut tA o (zU og 0 zc), xOud tA od dg, xObj ad hsv mal fai, xOff tA ad v shrt grp seen tp shr need ordr size, xScr tA K ad pos cmd vals txt len, xHis tA ad hc hn hs, xBef tA ad bt, xSav tA ad sv, xLin tA ad (wrL lnb 0 (legLn ((v 2) (xz xs (i + 1))) ((v 3) (xz xs (i + 1))) ((v 4) (xz xs (i + 1))) ((v 5) (xz xs (i + 1))) (v 13 0))) w_lml ((legLn ((v 2) (xz xs (i + 1))) ((v 3) (xz xs (i + 1))) ((v 4) (xz xs (i + 1))) ((v 5) (xz xs (i + 1))) (v 13 0)).length : Nat)]) (Lc' := fun u => [xMod tA am ms mbef msav misv mpast mpm u.1 mways mnds mtkp u.2.1 u.2.2 mtxt mlen mat mwr merr mfail mcmd mcm]) (Lf := fun u => [xOut tA o (zU og 0 zc), xOud tA od dg, xMod tA am ms mbef msav misv mpast mpm u.1 mways mnds mtkp u.2.1 u.2.2 mtxt mlen mat mwr merr mfail mcmd mcm, xObj ad hsv mal fai, xOff tA ad v shrt grp seen tp shr need ordr size, xScr tA K ad pos cmd vals txt len, xHis tA ad hc hn hs, xBef tA ad bt, xSav tA ad sv, xLin tA ad (wrL lnb 0 (legLn ((v 2) (xz xs (i + 1))) ((v 3) (xz xs (i + 1))) ((v 4) (xz xs (i + 1))) ((v 5) (xz xs (i + 1))) (v 13 0))) w_lml ((legLn ((v 2) (xz xs (i + 1))) ((v 3) (xz xs (i + 1))) ((v 4) (xz xs (i + 1))) ((v 5) (xz xs (i + 1))) (v 13 0)).length : Nat)]) (is := [2, 0, 1, 3, 4, 5, 6, 7, 8, 9]) (isF := [0, 1, 9, 2, 3, 4, 5, 6, 7, 8]) ⟨hx, hb, hml, hown, hts⟩ (c_X11_writeLeg l D tA (am 0) (am 1) (am 2) (am 3) (am 4) (am 5) (am 6) (am 7) (am 8) (am 9) (am 10) H.size ms mbef msav misv mpast mpm mthr mways mnds mtkp mline mlm mtxt mlen mat mwr merr mfail mcmd mcm (xz xs (i + 1)) (xz_in _ _) hmv.1) (cwV 1 hts (gx_tbl gL_law_X11_writeLeg) rfl rfl rfl (by decide +kernel) ⟨Nat.le_of_ble_eq_true rfl, Nat.le_of_ble_eq_true rfl⟩) hK hP hD hS hA ⟨rfl, rfl, (by decide)⟩ ⟨fun _ => rfl, fun _ => rfl, (by decide)⟩ (ci := 13) (q0 := 0) rfl rfl rfl rfl rfl hl.1 (Nat.le_of_ble_eq_true rfl) dL_law_2521 (by show _ + 0 ≤ 603072 ∧ _ + 0 ≤ 7207018; omega) ?_
    intro zb u H locs hmq hP hD hS
    obtain ⟨y_mthr, y_mline, y_mlm⟩ := u
    have hP : va_P D vwCl ([xOut tA o (zU og 0 zc), xOud tA od dg, xMod tA am ms mbef msav misv mpast mpm y_mthr mways mnds mtkp y_mline y_mlm mtxt mlen mat mwr merr mfail mcmd mcm, xObj ad hsv mal fai, xOff tA ad v shrt grp seen tp shr need ordr size, xScr tA K ad pos cmd vals txt len, xHis tA ad hc hn hs, xBef tA ad bt, xSav tA ad sv, xLin tA ad (wrL lnb 0 (legLn ((v 2) (xz xs (i + 1))) ((v 3) (xz xs (i + 1))) ((v 4) (xz xs (i + 1))) ((v 5) (xz xs (i + 1))) (v 13 0))) w_lml ((legLn ((v 2) (xz xs (i + 1))) ((v 3) (xz xs (i + 1))) ((v 4) (xz xs (i + 1))) ((v 5) (xz xs (i + 1))) (v 13 0)).length : Nat)]).flatten H := hP
    have hD : va_D (lwA s) ([xOut tA o (zU og 0 zc), xOud tA od dg, xMod tA am ms mbef msav misv mpast mpm y_mthr mways mnds mtkp y_mline y_mlm mtxt mlen mat mwr merr mfail mcmd mcm, xObj ad hsv mal fai, xOff tA ad v shrt grp seen tp shr need ordr size, xScr tA K ad pos cmd vals txt len, xHis tA ad hc hn hs, xBef tA ad bt, xSav tA ad sv, xLin tA ad (wrL lnb 0 (legLn ((v 2) (xz xs (i + 1))) ((v 3) (xz xs (i + 1))) ((v 4) (xz xs (i + 1))) ((v 5) (xz xs (i + 1))) (v 13 0))) w_lml ((legLn ((v 2) (xz xs (i + 1))) ((v 3) (xz xs (i + 1))) ((v 4) (xz xs (i + 1))) ((v 5) (xz xs (i + 1))) (v 13 0)).length : Nat)]).flatten := hD
    have mq : (y_mthr = 1 ∧ LatK ms (xz xs (i + 1)) 100 (-1) ∧ y_mline = mline ∧ y_mlm = mlm) ∨ (y_mthr = 0 ∧ wlP ms (xz xs (i + 1)) mline y_mline y_mlm zb) := hmq
    clear hmq
    refine lv_istore (lv' := [(7, .int (iI zb)), (6, .int (iI z6)), (0, .ref b), (1, .ref (ad 0)), (2, .ref (am 0)), (3, .ref o), (4, .ref od), (5, .int (iI i))]) hx hb dL_law_2524 hl (by decide) rfl (fun ls hl => ?_)
    have hTV : y_mthr = 0 ∧ zb = zc := by
      rcases mq with ⟨-, m, -⟩ | ⟨m0, m1⟩
      · rcases rel_latK hch hu9 hr m with ⟨-, q2⟩ | ⟨-, -, q3, -⟩
        · exact absurd kq.1 q2
        · exfalso; omega
      · have w9 := wl_eq hch hu9 hr kq.1 m1
        have h9 := kq.2
        exact ⟨m0, by omega⟩
    have hT : y_mthr = z6 := hTV.1.trans hz6.symm
    have hI2 : LInv (n + 1) v hs sv pos cmd vals txt len hc hn hsv mal fai (wrL lnb 0 (legLn ((v 2) (xz xs (i + 1))) ((v 3) (xz xs (i + 1))) ((v 4) (xz xs (i + 1))) ((v 5) (xz xs (i + 1))) (v 13 0))) ((legLn ((v 2) (xz xs (i + 1))) ((v 3) (xz xs (i + 1))) ((v 4) (xz xs (i + 1))) ((v 5) (xz xs (i + 1))) (v 13 0)).length : Nat) ms msav misv mpast mpm y_mline y_mlm mtxt mlen merr mfail mcmd := by
      rcases mq with ⟨-, m, -⟩ | ⟨m0, m1⟩
      · rcases rel_latK hch hu9 hr m with ⟨-, q2⟩ | ⟨-, -, q3, -⟩
        · exact absurd kq.1 q2
        · exfalso; omega
      · have w9 := wl_eq hch hu9 hr kq.1 m1
        have b9 := ch_in hch kq.1.1 kq.1.2
        exact LI_line hn9 hI (legLn_16 (by omega) (by omega) (by omega) (by omega)) (legLn_ch _ _ _ _ _) w9.1
    refine lv_aload_n hx hb dL_law_2526 rfl (lv_at hl 4 rfl) ?_
    refine zz_callVi_ch (As := []) (rest := []) (L := [xOut tA o (zU og 0 zc), xOud tA od dg, xMod tA am ms mbef msav misv mpast mpm y_mthr mways mnds mtkp y_mline y_mlm mtxt mlen mat mwr merr mfail mcmd mcm, xObj ad hsv mal fai, xOff tA ad v shrt grp seen tp shr need ordr size, xScr tA K ad pos cmd vals txt len, xHis tA ad hc hn hs, xBef tA ad bt, xSav tA ad sv, xLin tA ad (wrL lnb 0 (legLn ((v 2) (xz xs (i + 1))) ((v 3) (xz xs (i + 1))) ((v 4) (xz xs (i + 1))) ((v 5) (xz xs (i + 1))) (v 13 0))) w_lml ((legLn ((v 2) (xz xs (i + 1))) ((v 3) (xz xs (i + 1))) ((v 4) (xz xs (i + 1))) ((v 5) (xz xs (i + 1))) (v 13 0)).length : Nat)]) (Lc := [xMod tA am ms mbef msav misv mpast mpm y_mthr mways mnds mtkp y_mline y_mlm mtxt mlen mat mwr merr mfail mcmd mcm]) (Lr := [xOut tA o (zU og 0 zc), xOud tA od dg, xObj ad hsv mal fai, xOff tA ad v shrt grp seen tp shr need ordr size, xScr tA K ad pos cmd vals txt len, xHis tA ad hc hn hs, xBef tA ad bt, xSav tA ad sv, xLin tA ad (wrL lnb 0 (legLn ((v 2) (xz xs (i + 1))) ((v 3) (xz xs (i + 1))) ((v 4) (xz xs (i + 1))) ((v 5) (xz xs (i + 1))) (v 13 0))) w_lml ((legLn ((v 2) (xz xs (i + 1))) ((v 3) (xz xs (i + 1))) ((v 4) (xz xs (i + 1))) ((v 5) (xz xs (i + 1))) (v 13 0)).length : Nat)]) (Lc' := fun u => [xMod tA am ms mbef msav misv mpast mpm y_mthr mways mnds mtkp y_mline y_mlm mtxt mlen mat mwr merr mfail mcmd mcm]) (Lf := fun u => [xOut tA o (zU og 0 zc), xOud tA od dg, xMod tA am ms mbef msav misv mpast mpm y_mthr mways mnds mtkp y_mline y_mlm mtxt mlen mat mwr merr mfail mcmd mcm, xObj ad hsv mal fai, xOff tA ad v shrt grp seen tp shr need ordr size, xScr tA K ad pos cmd vals txt len, xHis tA ad hc hn hs, xBef tA ad bt, xSav tA ad sv, xLin tA ad (wrL lnb 0 (legLn ((v 2) (xz xs (i + 1))) ((v 3) (xz xs (i + 1))) ((v 4) (xz xs (i + 1))) ((v 5) (xz xs (i + 1))) (v 13 0))) w_lml ((legLn ((v 2) (xz xs (i + 1))) ((v 3) (xz xs (i + 1))) ((v 4) (xz xs (i + 1))) ((v 5) (xz xs (i + 1))) (v 13 0)).length : Nat)]) (is := [2, 0, 1, 3, 4, 5, 6, 7, 8, 9]) (isF := [0, 1, 9, 2, 3, 4, 5, 6, 7, 8]) ⟨hx, hb, hml, hown, hts⟩ (c_X11_thrown l D tA (am 0) (am 1) (am 2) (am 3) (am 4) (am 5) (am 6) (am 7) (am 8) (am 9) (am 10) H.size ms mbef msav misv mpast mpm y_mthr mways mnds mtkp y_mline y_mlm mtxt mlen mat mwr merr mfail mcmd mcm) (cwV 0 hts (gx_tbl gL_law_X11_thrown) rfl rfl rfl (by decide +kernel) ⟨Nat.le_of_ble_eq_true rfl, Nat.le_of_ble_eq_true rfl⟩) hK hP hD hS hA ⟨rfl, rfl, (by decide)⟩ ⟨fun _ => rfl, fun _ => rfl, (by decide)⟩ (ci := 13) (q0 := 0) rfl rfl rfl rfl rfl hl.1 (Nat.le_of_ble_eq_true rfl) dL_law_2527 (by show _ + 0 ≤ 603072 ∧ _ + 0 ≤ 7207018; omega) ?_
    intro zt u H locs hzt hP hD hS
    have hP : va_P D vwCl ([xOut tA o (zU og 0 zc), xOud tA od dg, xMod tA am ms mbef msav misv mpast mpm y_mthr mways mnds mtkp y_mline y_mlm mtxt mlen mat mwr merr mfail mcmd mcm, xObj ad hsv mal fai, xOff tA ad v shrt grp seen tp shr need ordr size, xScr tA K ad pos cmd vals txt len, xHis tA ad hc hn hs, xBef tA ad bt, xSav tA ad sv, xLin tA ad (wrL lnb 0 (legLn ((v 2) (xz xs (i + 1))) ((v 3) (xz xs (i + 1))) ((v 4) (xz xs (i + 1))) ((v 5) (xz xs (i + 1))) (v 13 0))) w_lml ((legLn ((v 2) (xz xs (i + 1))) ((v 3) (xz xs (i + 1))) ((v 4) (xz xs (i + 1))) ((v 5) (xz xs (i + 1))) (v 13 0)).length : Nat)]).flatten H := hP
    have hD : va_D (lwA s) ([xOut tA o (zU og 0 zc), xOud tA od dg, xMod tA am ms mbef msav misv mpast mpm y_mthr mways mnds mtkp y_mline y_mlm mtxt mlen mat mwr merr mfail mcmd mcm, xObj ad hsv mal fai, xOff tA ad v shrt grp seen tp shr need ordr size, xScr tA K ad pos cmd vals txt len, xHis tA ad hc hn hs, xBef tA ad bt, xSav tA ad sv, xLin tA ad (wrL lnb 0 (legLn ((v 2) (xz xs (i + 1))) ((v 3) (xz xs (i + 1))) ((v 4) (xz xs (i + 1))) ((v 5) (xz xs (i + 1))) (v 13 0))) w_lml ((legLn ((v 2) (xz xs (i + 1))) ((v 3) (xz xs (i + 1))) ((v 4) (xz xs (i + 1))) ((v 5) (xz xs (i + 1))) (v 13 0)).length : Nat)]).flatten := hD
    have hzt : zt = y_mthr := hzt
    have hz69 : 0 ≤ z6 ∧ z6 ≤ 9 := by omega
    refine lv_iload hx hb dL_law_2530 (lv_at hl 1 rfl) ?_
    refine zz_icmp_eq (tgt := 2537) hx hb dL_law_2532 (by decide) (by omega) (by omega) (fun _ => ?_) (fun c9 => absurd (by omega) c9)
    refine lv_iload hx hb dL_law_2537 (lv_at hl 1 rfl) ?_
    refine zz_if_ne (tgt := 2554) hx hb dL_law_2539 (by decide) (by omega) (fun c9 => absurd hz6 c9) (fun _ => ?_)
    refine lv_aload_n hx hb dL_law_2542 rfl (lv_at hl 5 rfl) ?_
    refine zz_iconst hx hb dL_law_2543 ?_
    refine zz_lald hx hb hK hP 0 rfl (by decide) (by decide) dL_law_2544 ?_
    rw [zU_same]
    refine lv_iload hx hb dL_law_2545 (lv_at hl 0 rfl) ?_
    refine zz_i2l hx hb dL_law_2547 (by omega) ?_
    rw [hTV.2]
    refine zz_lcmp hx hb dL_law_2548 (by omega) (by omega) ?_
    rw [cmpZ_s]
    refine zz_if_eq (tgt := 2554) hx hb dL_law_2549 (by decide) (by decide) (fun _ => ?_) (fun c9 => absurd rfl c9)
    refine lv_goto (tgt := 2917) hx hb dL_law_2554 (by decide) ?_
    refine W.widen (k := k9 + 20) (n := n9 + 200) (by omega) (by omega) ?_
    exact kk v shrt grp seen tp shr need ordr size pos cmd vals txt len hc hn hs bt sv hsv mal fai (wrL lnb 0 (legLn ((v 2) (xz xs (i + 1))) ((v 3) (xz xs (i + 1))) ((v 4) (xz xs (i + 1))) ((v 5) (xz xs (i + 1))) (v 13 0))) w_lml ((legLn ((v 2) (xz xs (i + 1))) ((v 3) (xz xs (i + 1))) ((v 4) (xz xs (i + 1))) ((v 5) (xz xs (i + 1))) (v 13 0)).length : Nat) ms mbef msav misv mpast mpm y_mthr mways mnds mtkp y_mline y_mlm mtxt mlen mat mwr merr mfail mcmd mcm (zU og 0 zc) dg _ _ _ hI2 hP hD hS (lv_sub hl [2, 3, 4, 5, 6, 7] rfl)
  · obtain ⟨kx, rfl⟩ : ∃ q, q = u := ⟨_, rfl⟩
    have kq : kx = 1 ∧ ¬ (0 ≤ (xz xs (i + 1)) ∧ (xz xs (i + 1)) < (v 1 0)) := hq.1
    have kc : (kx = 1 ∧ z6 = 1) := hq.2
    have hP : va_P D vwCl ([xOut tA o og, xOud tA od dg, xMod tA am ms mbef msav misv mpast mpm mthr mways mnds mtkp mline mlm mtxt mlen mat mwr merr mfail mcmd mcm, xObj ad hsv mal fai, xOff tA ad v shrt grp seen tp shr need ordr size, xScr tA K ad pos cmd vals txt len, xHis tA ad hc hn hs, xBef tA ad bt, xSav tA ad sv, xLin tA ad lnb lml lct]).flatten H := hP
    have hD : va_D (lwA s) ([xOut tA o og, xOud tA od dg, xMod tA am ms mbef msav misv mpast mpm mthr mways mnds mtkp mline mlm mtxt mlen mat mwr merr mfail mcmd mcm, xObj ad hsv mal fai, xOff tA ad v shrt grp seen tp shr need ordr size, xScr tA K ad pos cmd vals txt len, xHis tA ad hc hn hs, xBef tA ad bt, xSav tA ad sv, xLin tA ad lnb lml lct]).flatten := hD
    refine lv_istore (lv' := [(6, .int (iI z6)), (0, .ref b), (1, .ref (ad 0)), (2, .ref (am 0)), (3, .ref o), (4, .ref od), (5, .int (iI i))]) hx hb dL_law_2512 hl (by decide) rfl (fun ls hl => ?_)
    refine lv_aload_n hx hb dL_law_2514 rfl (lv_at hl 3 rfl) ?_
    refine lv_aload_n hx hb dL_law_2515 rfl (lv_at hl 1 rfl) ?_
    refine lv_iload hx hb dL_law_2516 (lv_at hl 6 rfl) ?_
    refine zz_iconst hx hb dL_law_2518 ?_
    refine zz_iadd hx hb dL_law_2519 ?_
    refine zz_sld hx hb hX hbl hbA hS (k := i + 1) (by omega) hL dL_law_2520 ?_
    refine zz_callVi_ch (As := [.int (iI (xz xs (i + 1)))]) (rest := []) (L := [xOut tA o og, xOud tA od dg, xMod tA am ms mbef msav misv mpast mpm mthr mways mnds mtkp mline mlm mtxt mlen mat mwr merr mfail mcmd mcm, xObj ad hsv mal fai, xOff tA ad v shrt grp seen tp shr need ordr size, xScr tA K ad pos cmd vals txt len, xHis tA ad hc hn hs, xBef tA ad bt, xSav tA ad sv, xLin tA ad lnb lml lct]) (Lc := [xMod tA am ms mbef msav misv mpast mpm mthr mways mnds mtkp mline mlm mtxt mlen mat mwr merr mfail mcmd mcm]) (Lr := [xOut tA o og, xOud tA od dg, xObj ad hsv mal fai, xOff tA ad v shrt grp seen tp shr need ordr size, xScr tA K ad pos cmd vals txt len, xHis tA ad hc hn hs, xBef tA ad bt, xSav tA ad sv, xLin tA ad lnb lml lct]) (Lc' := fun u => [xMod tA am ms mbef msav misv mpast mpm u.1 mways mnds mtkp u.2.1 u.2.2 mtxt mlen mat mwr merr mfail mcmd mcm]) (Lf := fun u => [xOut tA o og, xOud tA od dg, xMod tA am ms mbef msav misv mpast mpm u.1 mways mnds mtkp u.2.1 u.2.2 mtxt mlen mat mwr merr mfail mcmd mcm, xObj ad hsv mal fai, xOff tA ad v shrt grp seen tp shr need ordr size, xScr tA K ad pos cmd vals txt len, xHis tA ad hc hn hs, xBef tA ad bt, xSav tA ad sv, xLin tA ad lnb lml lct]) (is := [2, 0, 1, 3, 4, 5, 6, 7, 8, 9]) (isF := [0, 1, 9, 2, 3, 4, 5, 6, 7, 8]) ⟨hx, hb, hml, hown, hts⟩ (c_X11_writeLeg l D tA (am 0) (am 1) (am 2) (am 3) (am 4) (am 5) (am 6) (am 7) (am 8) (am 9) (am 10) H.size ms mbef msav misv mpast mpm mthr mways mnds mtkp mline mlm mtxt mlen mat mwr merr mfail mcmd mcm (xz xs (i + 1)) (xz_in _ _) hmv.1) (cwV 1 hts (gx_tbl gL_law_X11_writeLeg) rfl rfl rfl (by decide +kernel) ⟨Nat.le_of_ble_eq_true rfl, Nat.le_of_ble_eq_true rfl⟩) hK hP hD hS hA ⟨rfl, rfl, (by decide)⟩ ⟨fun _ => rfl, fun _ => rfl, (by decide)⟩ (ci := 13) (q0 := 0) rfl rfl rfl rfl rfl hl.1 (Nat.le_of_ble_eq_true rfl) dL_law_2521 (by show _ + 0 ≤ 603072 ∧ _ + 0 ≤ 7207018; omega) ?_
    intro zb u H locs hmq hP hD hS
    obtain ⟨y_mthr, y_mline, y_mlm⟩ := u
    have hP : va_P D vwCl ([xOut tA o og, xOud tA od dg, xMod tA am ms mbef msav misv mpast mpm y_mthr mways mnds mtkp y_mline y_mlm mtxt mlen mat mwr merr mfail mcmd mcm, xObj ad hsv mal fai, xOff tA ad v shrt grp seen tp shr need ordr size, xScr tA K ad pos cmd vals txt len, xHis tA ad hc hn hs, xBef tA ad bt, xSav tA ad sv, xLin tA ad lnb lml lct]).flatten H := hP
    have hD : va_D (lwA s) ([xOut tA o og, xOud tA od dg, xMod tA am ms mbef msav misv mpast mpm y_mthr mways mnds mtkp y_mline y_mlm mtxt mlen mat mwr merr mfail mcmd mcm, xObj ad hsv mal fai, xOff tA ad v shrt grp seen tp shr need ordr size, xScr tA K ad pos cmd vals txt len, xHis tA ad hc hn hs, xBef tA ad bt, xSav tA ad sv, xLin tA ad lnb lml lct]).flatten := hD
    have mq : (y_mthr = 1 ∧ LatK ms (xz xs (i + 1)) 100 (-1) ∧ y_mline = mline ∧ y_mlm = mlm) ∨ (y_mthr = 0 ∧ wlP ms (xz xs (i + 1)) mline y_mline y_mlm zb) := hmq
    clear hmq
    refine lv_istore (lv' := [(7, .int (iI zb)), (6, .int (iI z6)), (0, .ref b), (1, .ref (ad 0)), (2, .ref (am 0)), (3, .ref o), (4, .ref od), (5, .int (iI i))]) hx hb dL_law_2524 hl (by decide) rfl (fun ls hl => ?_)
    have hT : y_mthr = z6 := by
      rcases mq with ⟨m0, -⟩ | ⟨-, m1⟩
      · omega
      · obtain ⟨c9, c0, c1, c2, -⟩ := m1
        rcases rel_latK hch hu9 hr c2 with ⟨q1, -⟩ | ⟨q1, -⟩
        · exfalso; omega
        · exact absurd q1 kq.2
    have hI2 : LInv (n + 1) v hs sv pos cmd vals txt len hc hn hsv mal fai lnb lct ms msav misv mpast mpm y_mline y_mlm mtxt mlen merr mfail mcmd := by
      rcases mq with ⟨-, -, m2, m3⟩ | ⟨-, m1⟩
      · rw [m2, m3]
        exact LI_q hn9 hI
      · obtain ⟨c9, c0, c1, c2, -⟩ := m1
        rcases rel_latK hch hu9 hr c2 with ⟨q1, -⟩ | ⟨q1, -⟩
        · exfalso; omega
        · exact absurd q1 kq.2
    refine lv_aload_n hx hb dL_law_2526 rfl (lv_at hl 4 rfl) ?_
    refine zz_callVi_ch (As := []) (rest := []) (L := [xOut tA o og, xOud tA od dg, xMod tA am ms mbef msav misv mpast mpm y_mthr mways mnds mtkp y_mline y_mlm mtxt mlen mat mwr merr mfail mcmd mcm, xObj ad hsv mal fai, xOff tA ad v shrt grp seen tp shr need ordr size, xScr tA K ad pos cmd vals txt len, xHis tA ad hc hn hs, xBef tA ad bt, xSav tA ad sv, xLin tA ad lnb lml lct]) (Lc := [xMod tA am ms mbef msav misv mpast mpm y_mthr mways mnds mtkp y_mline y_mlm mtxt mlen mat mwr merr mfail mcmd mcm]) (Lr := [xOut tA o og, xOud tA od dg, xObj ad hsv mal fai, xOff tA ad v shrt grp seen tp shr need ordr size, xScr tA K ad pos cmd vals txt len, xHis tA ad hc hn hs, xBef tA ad bt, xSav tA ad sv, xLin tA ad lnb lml lct]) (Lc' := fun u => [xMod tA am ms mbef msav misv mpast mpm y_mthr mways mnds mtkp y_mline y_mlm mtxt mlen mat mwr merr mfail mcmd mcm]) (Lf := fun u => [xOut tA o og, xOud tA od dg, xMod tA am ms mbef msav misv mpast mpm y_mthr mways mnds mtkp y_mline y_mlm mtxt mlen mat mwr merr mfail mcmd mcm, xObj ad hsv mal fai, xOff tA ad v shrt grp seen tp shr need ordr size, xScr tA K ad pos cmd vals txt len, xHis tA ad hc hn hs, xBef tA ad bt, xSav tA ad sv, xLin tA ad lnb lml lct]) (is := [2, 0, 1, 3, 4, 5, 6, 7, 8, 9]) (isF := [0, 1, 9, 2, 3, 4, 5, 6, 7, 8]) ⟨hx, hb, hml, hown, hts⟩ (c_X11_thrown l D tA (am 0) (am 1) (am 2) (am 3) (am 4) (am 5) (am 6) (am 7) (am 8) (am 9) (am 10) H.size ms mbef msav misv mpast mpm y_mthr mways mnds mtkp y_mline y_mlm mtxt mlen mat mwr merr mfail mcmd mcm) (cwV 0 hts (gx_tbl gL_law_X11_thrown) rfl rfl rfl (by decide +kernel) ⟨Nat.le_of_ble_eq_true rfl, Nat.le_of_ble_eq_true rfl⟩) hK hP hD hS hA ⟨rfl, rfl, (by decide)⟩ ⟨fun _ => rfl, fun _ => rfl, (by decide)⟩ (ci := 13) (q0 := 0) rfl rfl rfl rfl rfl hl.1 (Nat.le_of_ble_eq_true rfl) dL_law_2527 (by show _ + 0 ≤ 603072 ∧ _ + 0 ≤ 7207018; omega) ?_
    intro zt u H locs hzt hP hD hS
    have hP : va_P D vwCl ([xOut tA o og, xOud tA od dg, xMod tA am ms mbef msav misv mpast mpm y_mthr mways mnds mtkp y_mline y_mlm mtxt mlen mat mwr merr mfail mcmd mcm, xObj ad hsv mal fai, xOff tA ad v shrt grp seen tp shr need ordr size, xScr tA K ad pos cmd vals txt len, xHis tA ad hc hn hs, xBef tA ad bt, xSav tA ad sv, xLin tA ad lnb lml lct]).flatten H := hP
    have hD : va_D (lwA s) ([xOut tA o og, xOud tA od dg, xMod tA am ms mbef msav misv mpast mpm y_mthr mways mnds mtkp y_mline y_mlm mtxt mlen mat mwr merr mfail mcmd mcm, xObj ad hsv mal fai, xOff tA ad v shrt grp seen tp shr need ordr size, xScr tA K ad pos cmd vals txt len, xHis tA ad hc hn hs, xBef tA ad bt, xSav tA ad sv, xLin tA ad lnb lml lct]).flatten := hD
    have hzt : zt = y_mthr := hzt
    have hz69 : 0 ≤ z6 ∧ z6 ≤ 9 := by omega
    refine lv_iload hx hb dL_law_2530 (lv_at hl 1 rfl) ?_
    refine zz_icmp_eq (tgt := 2537) hx hb dL_law_2532 (by decide) (by omega) (by omega) (fun _ => ?_) (fun c9 => absurd (by omega) c9)
    refine lv_iload hx hb dL_law_2537 (lv_at hl 1 rfl) ?_
    refine zz_if_ne (tgt := 2554) hx hb dL_law_2539 (by decide) (by omega) (fun _ => ?_) (fun c9 => absurd c9 (by omega))
    refine lv_goto (tgt := 2917) hx hb dL_law_2554 (by decide) ?_
    refine W.widen (k := k9 + 20) (n := n9 + 200) (by omega) (by omega) ?_
    exact kk v shrt grp seen tp shr need ordr size pos cmd vals txt len hc hn hs bt sv hsv mal fai lnb lml lct ms mbef msav misv mpast mpm y_mthr mways mnds mtkp y_mline y_mlm mtxt mlen mat mwr merr mfail mcmd mcm og dg _ _ _ hI2 hP hD hS (lv_sub hl [2, 3, 4, 5, 6, 7] rfl)

set_option maxHeartbeats 8000000 in
set_option maxRecDepth 100000 in
theorem law_c45 {p : Program} {l : Launch} (hst : l.stackTraces = false) {e : Env} {s : State} {m : MethodId} {below : List Frame} {meth : Method} {c : Code} {D : va_G} {tA : Nat → ClassId} {K : Nat → Nat} {b L : Nat} {xs : Nat → Int32} (hL : L ≤ 2560) (C0 : lw_At p s m meth c b L xs) (hK : zK D tA s) (hZ : zT K (lwA s) s) {ad am : Nat → Nat} {o od : Nat} {i n : Int} (hi : 0 ≤ i ∧ i + 5 ≤ L) (hn9 : n < 600) {k9 n9 : Nat} (hk9 : k9 + 20 ≤ 603072 ∧ n9 + 200 ≤ 7207018) {v : Nat → Int → Int} {shrt : Int → Int} {grp : Int → Int} {seen : Int → Int} {tp : Int → Int} {shr : Int → Int} {need : Int → Int} {ordr : Int → Int} {size : Int} {pos : Int} {cmd : Int} {vals : Int → Int} {txt : Int → Int} {len : Int} {hc : Int} {hn : Int} {hs : Nat → Nat → Int → Int} {bt : Nat → Int → Int} {sv : Nat → Int → Int} {hsv : Int} {mal : Int} {fai : Int} {lnb : Int → Int} {lml : Int} {lct : Int} {ms : Int → Int} {mbef : Int → Int} {msav : Int → Int} {misv : Int} {mpast : Int → Int} {mpm : Int} {mthr : Int} {mways : Int → Int} {mnds : Int → Int} {mtkp : Int → Int} {mline : Int → Int} {mlm : Int} {mtxt : Int → Int} {mlen : Int} {mat : Int} {mwr : Int} {merr : Int} {mfail : Int} {mcmd : Int → Int} {mcm : Int} {og : Int → Int} {dg : Nat → UInt64} {H : Heap} {locs : List Loc} {ls : Array Slot} (hI : LInv n v hs sv pos cmd vals txt len hc hn hsv mal fai lnb lct ms msav misv mpast mpm mline mlm mtxt mlen merr mfail mcmd) (hP : va_P D vwCl (xW tA K ad am o od v shrt grp seen tp shr need ordr size pos cmd vals txt len hc hn hs bt sv hsv mal fai lnb lml lct ms mbef msav misv mpast mpm mthr mways mnds mtkp mline mlm mtxt mlen mat mwr merr mfail mcmd mcm og dg).flatten H) (hD : va_D (lwA s) (xW tA K ad am o od v shrt grp seen tp shr need ordr size pos cmd vals txt len hc hn hs bt sv hsv mal fai lnb lml lct ms mbef msav misv mpast mpm mthr mways mnds mtkp mline mlm mtxt mlen mat mwr merr mfail mcmd mcm og dg).flatten) (hS : va_S (lwA s) s.heap H locs) (hl : lv_has ls 9 [(0, .ref b), (1, .ref (ad 0)), (2, .ref (am 0)), (3, .ref o), (4, .ref od), (5, .int (iI i))]) (kk : lwK p l e s m below meth c D tA K ad am o od b i n k9 n9) : W p l e room_1 s m #[Value.ref b] below meth c H locs k9 n9 (lw_Z below #[Value.ref b] s) (F0 m 2557 ls []) := by
  obtain ⟨hx, hb, hrt, hml, hown, hts, hX, hbl, hlocks, hgv⟩ := id C0
  have hts := lw_more hts
  have hA : ∀ q : Nat, s.heap.size ≤ q → lwA s q := fun _ h => h
  have hbA : ¬ lwA s b := Nat.not_le.mpr hbl
  have hCn := hZ.2.2.2
  obtain ⟨⟨n0, n6, l0, l6, ln⟩, hLS, ⟨hhn, hhc, hpm, hhi⟩, ⟨hsv01, hmis, hsvv, hsvr⟩, ⟨hlen, htxt, htx⟩, ⟨hlm, hln, hl0, hl16, hlb⟩, ⟨her, hfa, hm1, hm2, hf1, hf2⟩, ⟨hcd0, hcd1, hps0, hps1, hva⟩, hcr⟩ := id hI
  have hv := hLS.1
  have hr := hLS.2
  have hch : ChS v := hv.1
  have hu9 : ChW v := hv.2.1
  obtain ⟨-, -, hcc, hsp, hmo, hfog, hrg, hni, hfd, hmt9, hln9, hsum⟩ := SVk_out (show SVk _ _ (etS v) from hv)
  have hmv := rel_MV hv hr (by omega) (by omega)
  obtain ⟨e0, e1, e2, e3, e4, e5, e6⟩ := id hr.1
  have eE := rel_sE hch hr
  have hmon : ∀ j, 0 ≤ j → j < v 7 0 → 0 ≤ v 10 j ∧ v 10 j ≤ 6000000 := fun j j0 j1 => by have := hmo j j0 j1; omega
  have hlnd : ∀ j, 0 ≤ j → j < v 7 0 → (0 ≤ v 11 j ∧ v 11 j ≤ 600) ∧ (0 ≤ v 12 j ∧ v 12 j ≤ 600) := fun j j0 j1 => by have := hln9 j j0 j1; omega
  refine lv_aload_n hx hb dL_law_2557 rfl (lv_at hl 1 rfl) ?_
  refine lv_aload_n hx hb dL_law_2558 rfl (lv_at hl 0 rfl) ?_
  refine lv_iload hx hb dL_law_2559 (lv_at hl 5 rfl) ?_
  refine zz_iconst hx hb dL_law_2561 ?_
  refine zz_iadd hx hb dL_law_2562 ?_
  refine zz_sld hx hb hX hbl hbA hS (k := i + 1) (by omega) hL dL_law_2563 ?_
  refine lv_aload_n hx hb dL_law_2564 rfl (lv_at hl 3 rfl) ?_
  refine zh_callSi_ch (As := [.ref (ad 0), .int (iI (xz xs (i + 1))), .ref o]) (rest := []) (L := [xOut tA o og, xOud tA od dg, xMod tA am ms mbef msav misv mpast mpm mthr mways mnds mtkp mline mlm mtxt mlen mat mwr merr mfail mcmd mcm, xObj ad hsv mal fai, xOff tA ad v shrt grp seen tp shr need ordr size, xScr tA K ad pos cmd vals txt len, xHis tA ad hc hn hs, xBef tA ad bt, xSav tA ad sv, xLin tA ad lnb lml lct]) (Lc := [xOut tA o og, xObj ad hsv mal fai, xLin tA ad lnb lml lct]) (Lr := [xOud tA od dg, xMod tA am ms mbef msav misv mpast mpm mthr mways mnds mtkp mline mlm mtxt mlen mat mwr merr mfail mcmd mcm, xOff tA ad v shrt grp seen tp shr need ordr size, xScr tA K ad pos cmd vals txt len, xHis tA ad hc hn hs, xBef tA ad bt, xSav tA ad sv]) (Lc' := fun u => Sum.elim (fun u => [xOut tA o (zU og 0 u.1), xObj ad hsv mal fai, xLin tA ad lnb lml lct]) (fun u => [xOut tA o og, xObj ad hsv mal fai, xLin tA ad lnb lml lct]) u) (Lf := fun u => Sum.elim (fun u => [xOut tA o (zU og 0 u.1), xOud tA od dg, xMod tA am ms mbef msav misv mpast mpm mthr mways mnds mtkp mline mlm mtxt mlen mat mwr merr mfail mcmd mcm, xObj ad hsv mal fai, xOff tA ad v shrt grp seen tp shr need ordr size, xScr tA K ad pos cmd vals txt len, xHis tA ad hc hn hs, xBef tA ad bt, xSav tA ad sv, xLin tA ad lnb lml lct]) (fun u => [xOut tA o og, xOud tA od dg, xMod tA am ms mbef msav misv mpast mpm mthr mways mnds mtkp mline mlm mtxt mlen mat mwr merr mfail mcmd mcm, xObj ad hsv mal fai, xOff tA ad v shrt grp seen tp shr need ordr size, xScr tA K ad pos cmd vals txt len, xHis tA ad hc hn hs, xBef tA ad bt, xSav tA ad sv, xLin tA ad lnb lml lct]) u) (is := [0, 3, 9, 1, 2, 4, 5, 6, 7, 8]) (isF := [7, 0, 1, 8, 2, 3, 4, 5, 6, 9]) ⟨hx, hb, hml, hown, hts⟩ (c_L_lineAt l hst K D tA (ad 0) (ad 159) (ad 160) (ad 1) (ad 24) (ad 27) (ad 146) (ad 133) o H.size og lnb lml lct hsv mal fai  (xz xs (i + 1)) (xz_in _ _) ⟨hl0, hl16⟩ hlb) (vx_cwSW 3 hts (gx_wr gL_law_L_lineAt) rfl rfl rfl (by decide +kernel) ⟨Nat.le_of_ble_eq_true rfl, Nat.le_of_ble_eq_true rfl⟩) hK hP hD hS hA hZ ⟨rfl, rfl, (by decide)⟩ ⟨fun u => by cases u <;> rfl, fun u => by cases u <;> rfl, (by decide)⟩ rfl rfl hl.1 (Nat.le_of_ble_eq_true rfl) dL_law_2565 (by show k9 + 1 ≤ 603072 ∧ n9 + 6 ≤ 7207018; omega) ?_
  intro z6 u H locs hq hP hD hS
  rcases u with ⟨zc, u⟩ | u
  · skip
    obtain ⟨hz6, kq, kq2, hzr⟩ := hq
    have kq : (0 ≤ (xz xs (i + 1)) ∧ (xz xs (i + 1)) < lct) ∧ zc = lnb (xz xs (i + 1)) := kq
    have kq2 : 0 ≤ zc ∧ zc ≤ 127 := kq2
    have hz6 : z6 = 0 := hz6
    have hzr : -2147483648 ≤ zc ∧ zc ≤ 2147483647 := hzr
    have hP : va_P D vwCl ([xOut tA o (zU og 0 zc), xOud tA od dg, xMod tA am ms mbef msav misv mpast mpm mthr mways mnds mtkp mline mlm mtxt mlen mat mwr merr mfail mcmd mcm, xObj ad hsv mal fai, xOff tA ad v shrt grp seen tp shr need ordr size, xScr tA K ad pos cmd vals txt len, xHis tA ad hc hn hs, xBef tA ad bt, xSav tA ad sv, xLin tA ad lnb lml lct]).flatten H := hP
    have hD : va_D (lwA s) ([xOut tA o (zU og 0 zc), xOud tA od dg, xMod tA am ms mbef msav misv mpast mpm mthr mways mnds mtkp mline mlm mtxt mlen mat mwr merr mfail mcmd mcm, xObj ad hsv mal fai, xOff tA ad v shrt grp seen tp shr need ordr size, xScr tA K ad pos cmd vals txt len, xHis tA ad hc hn hs, xBef tA ad bt, xSav tA ad sv, xLin tA ad lnb lml lct]).flatten := hD
    refine lv_istore (lv' := [(6, .int (iI z6)), (0, .ref b), (1, .ref (ad 0)), (2, .ref (am 0)), (3, .ref o), (4, .ref od), (5, .int (iI i))]) hx hb dL_law_2568 hl (by decide) rfl (fun ls hl => ?_)
    refine lv_aload_n hx hb dL_law_2570 rfl (lv_at hl 3 rfl) ?_
    refine lv_aload_n hx hb dL_law_2571 rfl (lv_at hl 1 rfl) ?_
    refine lv_iload hx hb dL_law_2572 (lv_at hl 6 rfl) ?_
    refine zz_iconst hx hb dL_law_2574 ?_
    refine zz_iadd hx hb dL_law_2575 ?_
    refine zz_sld hx hb hX hbl hbA hS (k := i + 1) (by omega) hL dL_law_2576 ?_
    refine zz_callVi_ch (As := [.int (iI (xz xs (i + 1)))]) (rest := []) (L := [xOut tA o (zU og 0 zc), xOud tA od dg, xMod tA am ms mbef msav misv mpast mpm mthr mways mnds mtkp mline mlm mtxt mlen mat mwr merr mfail mcmd mcm, xObj ad hsv mal fai, xOff tA ad v shrt grp seen tp shr need ordr size, xScr tA K ad pos cmd vals txt len, xHis tA ad hc hn hs, xBef tA ad bt, xSav tA ad sv, xLin tA ad lnb lml lct]) (Lc := [xMod tA am ms mbef msav misv mpast mpm mthr mways mnds mtkp mline mlm mtxt mlen mat mwr merr mfail mcmd mcm]) (Lr := [xOut tA o (zU og 0 zc), xOud tA od dg, xObj ad hsv mal fai, xOff tA ad v shrt grp seen tp shr need ordr size, xScr tA K ad pos cmd vals txt len, xHis tA ad hc hn hs, xBef tA ad bt, xSav tA ad sv, xLin tA ad lnb lml lct]) (Lc' := fun u => [xMod tA am ms mbef msav misv mpast mpm u mways mnds mtkp mline mlm mtxt mlen mat mwr merr mfail mcmd mcm]) (Lf := fun u => [xOut tA o (zU og 0 zc), xOud tA od dg, xMod tA am ms mbef msav misv mpast mpm u mways mnds mtkp mline mlm mtxt mlen mat mwr merr mfail mcmd mcm, xObj ad hsv mal fai, xOff tA ad v shrt grp seen tp shr need ordr size, xScr tA K ad pos cmd vals txt len, xHis tA ad hc hn hs, xBef tA ad bt, xSav tA ad sv, xLin tA ad lnb lml lct]) (is := [2, 0, 1, 3, 4, 5, 6, 7, 8, 9]) (isF := [0, 1, 9, 2, 3, 4, 5, 6, 7, 8]) ⟨hx, hb, hml, hown, hts⟩ (c_X11_lineAt l D tA (am 0) (am 1) (am 2) (am 3) (am 4) (am 5) (am 6) (am 7) (am 8) (am 9) (am 10) H.size ms mbef msav misv mpast mpm mthr mways mnds mtkp mline mlm mtxt mlen mat mwr merr mfail mcmd mcm (xz xs (i + 1)) (xz_in _ _) (by omega) (fun j j0 j1 => by rw [hln]; exact hlb j j0 (by omega))) (cwV 1 hts (gx_tbl gL_law_X11_lineAt) rfl rfl rfl (by decide +kernel) ⟨Nat.le_of_ble_eq_true rfl, Nat.le_of_ble_eq_true rfl⟩) hK hP hD hS hA ⟨rfl, rfl, (by decide)⟩ ⟨fun _ => rfl, fun _ => rfl, (by decide)⟩ (ci := 13) (q0 := 0) rfl rfl rfl rfl rfl hl.1 (Nat.le_of_ble_eq_true rfl) dL_law_2577 (by show _ + 0 ≤ 603072 ∧ _ + 0 ≤ 7207018; omega) ?_
    intro zb u H locs hmq hP hD hS
    obtain ⟨y_mthr, rfl⟩ : ∃ q, q = u := ⟨_, rfl⟩
    have hP : va_P D vwCl ([xOut tA o (zU og 0 zc), xOud tA od dg, xMod tA am ms mbef msav misv mpast mpm y_mthr mways mnds mtkp mline mlm mtxt mlen mat mwr merr mfail mcmd mcm, xObj ad hsv mal fai, xOff tA ad v shrt grp seen tp shr need ordr size, xScr tA K ad pos cmd vals txt len, xHis tA ad hc hn hs, xBef tA ad bt, xSav tA ad sv, xLin tA ad lnb lml lct]).flatten H := hP
    have hD : va_D (lwA s) ([xOut tA o (zU og 0 zc), xOud tA od dg, xMod tA am ms mbef msav misv mpast mpm y_mthr mways mnds mtkp mline mlm mtxt mlen mat mwr merr mfail mcmd mcm, xObj ad hsv mal fai, xOff tA ad v shrt grp seen tp shr need ordr size, xScr tA K ad pos cmd vals txt len, xHis tA ad hc hn hs, xBef tA ad bt, xSav tA ad sv, xLin tA ad lnb lml lct]).flatten := hD
    have mq : (y_mthr = 1 ∧ ¬ (0 ≤ (xz xs (i + 1)) ∧ (xz xs (i + 1)) < mlm)) ∨ (y_mthr = 0 ∧ (0 ≤ (xz xs (i + 1)) ∧ (xz xs (i + 1)) < mlm) ∧ zb = mline (xz xs (i + 1))) := hmq.1
    have mq2 : 0 ≤ zb ∧ zb ≤ 127 := hmq.2
    clear hmq
    refine lv_istore (lv' := [(7, .int (iI zb)), (6, .int (iI z6)), (0, .ref b), (1, .ref (ad 0)), (2, .ref (am 0)), (3, .ref o), (4, .ref od), (5, .int (iI i))]) hx hb dL_law_2580 hl (by decide) rfl (fun ls hl => ?_)
    have hTV : y_mthr = 0 ∧ zb = zc := by
      rw [hlm, hln] at mq
      rcases mq with ⟨-, m⟩ | ⟨m0, -, m2⟩
      · exact absurd kq.1 m
      · exact ⟨m0, m2.trans kq.2.symm⟩
    have hT : y_mthr = z6 := hTV.1.trans hz6.symm
    have hI2 : LInv (n + 1) v hs sv pos cmd vals txt len hc hn hsv mal fai lnb lct ms msav misv mpast mpm mline mlm mtxt mlen merr mfail mcmd := by
      exact LI_q hn9 hI
    refine lv_aload_n hx hb dL_law_2582 rfl (lv_at hl 4 rfl) ?_
    refine zz_callVi_ch (As := []) (rest := []) (L := [xOut tA o (zU og 0 zc), xOud tA od dg, xMod tA am ms mbef msav misv mpast mpm y_mthr mways mnds mtkp mline mlm mtxt mlen mat mwr merr mfail mcmd mcm, xObj ad hsv mal fai, xOff tA ad v shrt grp seen tp shr need ordr size, xScr tA K ad pos cmd vals txt len, xHis tA ad hc hn hs, xBef tA ad bt, xSav tA ad sv, xLin tA ad lnb lml lct]) (Lc := [xMod tA am ms mbef msav misv mpast mpm y_mthr mways mnds mtkp mline mlm mtxt mlen mat mwr merr mfail mcmd mcm]) (Lr := [xOut tA o (zU og 0 zc), xOud tA od dg, xObj ad hsv mal fai, xOff tA ad v shrt grp seen tp shr need ordr size, xScr tA K ad pos cmd vals txt len, xHis tA ad hc hn hs, xBef tA ad bt, xSav tA ad sv, xLin tA ad lnb lml lct]) (Lc' := fun u => [xMod tA am ms mbef msav misv mpast mpm y_mthr mways mnds mtkp mline mlm mtxt mlen mat mwr merr mfail mcmd mcm]) (Lf := fun u => [xOut tA o (zU og 0 zc), xOud tA od dg, xMod tA am ms mbef msav misv mpast mpm y_mthr mways mnds mtkp mline mlm mtxt mlen mat mwr merr mfail mcmd mcm, xObj ad hsv mal fai, xOff tA ad v shrt grp seen tp shr need ordr size, xScr tA K ad pos cmd vals txt len, xHis tA ad hc hn hs, xBef tA ad bt, xSav tA ad sv, xLin tA ad lnb lml lct]) (is := [2, 0, 1, 3, 4, 5, 6, 7, 8, 9]) (isF := [0, 1, 9, 2, 3, 4, 5, 6, 7, 8]) ⟨hx, hb, hml, hown, hts⟩ (c_X11_thrown l D tA (am 0) (am 1) (am 2) (am 3) (am 4) (am 5) (am 6) (am 7) (am 8) (am 9) (am 10) H.size ms mbef msav misv mpast mpm y_mthr mways mnds mtkp mline mlm mtxt mlen mat mwr merr mfail mcmd mcm) (cwV 0 hts (gx_tbl gL_law_X11_thrown) rfl rfl rfl (by decide +kernel) ⟨Nat.le_of_ble_eq_true rfl, Nat.le_of_ble_eq_true rfl⟩) hK hP hD hS hA ⟨rfl, rfl, (by decide)⟩ ⟨fun _ => rfl, fun _ => rfl, (by decide)⟩ (ci := 13) (q0 := 0) rfl rfl rfl rfl rfl hl.1 (Nat.le_of_ble_eq_true rfl) dL_law_2583 (by show _ + 0 ≤ 603072 ∧ _ + 0 ≤ 7207018; omega) ?_
    intro zt u H locs hzt hP hD hS
    have hP : va_P D vwCl ([xOut tA o (zU og 0 zc), xOud tA od dg, xMod tA am ms mbef msav misv mpast mpm y_mthr mways mnds mtkp mline mlm mtxt mlen mat mwr merr mfail mcmd mcm, xObj ad hsv mal fai, xOff tA ad v shrt grp seen tp shr need ordr size, xScr tA K ad pos cmd vals txt len, xHis tA ad hc hn hs, xBef tA ad bt, xSav tA ad sv, xLin tA ad lnb lml lct]).flatten H := hP
    have hD : va_D (lwA s) ([xOut tA o (zU og 0 zc), xOud tA od dg, xMod tA am ms mbef msav misv mpast mpm y_mthr mways mnds mtkp mline mlm mtxt mlen mat mwr merr mfail mcmd mcm, xObj ad hsv mal fai, xOff tA ad v shrt grp seen tp shr need ordr size, xScr tA K ad pos cmd vals txt len, xHis tA ad hc hn hs, xBef tA ad bt, xSav tA ad sv, xLin tA ad lnb lml lct]).flatten := hD
    have hzt : zt = y_mthr := hzt
    have hz69 : 0 ≤ z6 ∧ z6 ≤ 9 := by omega
    refine lv_iload hx hb dL_law_2586 (lv_at hl 1 rfl) ?_
    refine zz_icmp_eq (tgt := 2593) hx hb dL_law_2588 (by decide) (by omega) (by omega) (fun _ => ?_) (fun c9 => absurd (by omega) c9)
    refine lv_iload hx hb dL_law_2593 (lv_at hl 1 rfl) ?_
    refine zz_if_ne (tgt := 2610) hx hb dL_law_2595 (by decide) (by omega) (fun c9 => absurd hz6 c9) (fun _ => ?_)
    refine lv_aload_n hx hb dL_law_2598 rfl (lv_at hl 5 rfl) ?_
    refine zz_iconst hx hb dL_law_2599 ?_
    refine zz_lald hx hb hK hP 0 rfl (by decide) (by decide) dL_law_2600 ?_
    rw [zU_same]
    refine lv_iload hx hb dL_law_2601 (lv_at hl 0 rfl) ?_
    refine zz_i2l hx hb dL_law_2603 (by omega) ?_
    rw [hTV.2]
    refine zz_lcmp hx hb dL_law_2604 (by omega) (by omega) ?_
    rw [cmpZ_s]
    refine zz_if_eq (tgt := 2610) hx hb dL_law_2605 (by decide) (by decide) (fun _ => ?_) (fun c9 => absurd rfl c9)
    refine lv_goto (tgt := 2917) hx hb dL_law_2610 (by decide) ?_
    refine W.widen (k := k9 + 20) (n := n9 + 200) (by omega) (by omega) ?_
    exact kk v shrt grp seen tp shr need ordr size pos cmd vals txt len hc hn hs bt sv hsv mal fai lnb lml lct ms mbef msav misv mpast mpm y_mthr mways mnds mtkp mline mlm mtxt mlen mat mwr merr mfail mcmd mcm (zU og 0 zc) dg _ _ _ hI2 hP hD hS (lv_sub hl [2, 3, 4, 5, 6, 7] rfl)
  · obtain ⟨kx, rfl⟩ : ∃ q, q = u := ⟨_, rfl⟩
    have kq : kx = 1 ∧ ¬ (0 ≤ (xz xs (i + 1)) ∧ (xz xs (i + 1)) < lct) := hq.1
    have kc : (kx = 1 ∧ z6 = 1) := hq.2
    have hP : va_P D vwCl ([xOut tA o og, xOud tA od dg, xMod tA am ms mbef msav misv mpast mpm mthr mways mnds mtkp mline mlm mtxt mlen mat mwr merr mfail mcmd mcm, xObj ad hsv mal fai, xOff tA ad v shrt grp seen tp shr need ordr size, xScr tA K ad pos cmd vals txt len, xHis tA ad hc hn hs, xBef tA ad bt, xSav tA ad sv, xLin tA ad lnb lml lct]).flatten H := hP
    have hD : va_D (lwA s) ([xOut tA o og, xOud tA od dg, xMod tA am ms mbef msav misv mpast mpm mthr mways mnds mtkp mline mlm mtxt mlen mat mwr merr mfail mcmd mcm, xObj ad hsv mal fai, xOff tA ad v shrt grp seen tp shr need ordr size, xScr tA K ad pos cmd vals txt len, xHis tA ad hc hn hs, xBef tA ad bt, xSav tA ad sv, xLin tA ad lnb lml lct]).flatten := hD
    refine lv_istore (lv' := [(6, .int (iI z6)), (0, .ref b), (1, .ref (ad 0)), (2, .ref (am 0)), (3, .ref o), (4, .ref od), (5, .int (iI i))]) hx hb dL_law_2568 hl (by decide) rfl (fun ls hl => ?_)
    refine lv_aload_n hx hb dL_law_2570 rfl (lv_at hl 3 rfl) ?_
    refine lv_aload_n hx hb dL_law_2571 rfl (lv_at hl 1 rfl) ?_
    refine lv_iload hx hb dL_law_2572 (lv_at hl 6 rfl) ?_
    refine zz_iconst hx hb dL_law_2574 ?_
    refine zz_iadd hx hb dL_law_2575 ?_
    refine zz_sld hx hb hX hbl hbA hS (k := i + 1) (by omega) hL dL_law_2576 ?_
    refine zz_callVi_ch (As := [.int (iI (xz xs (i + 1)))]) (rest := []) (L := [xOut tA o og, xOud tA od dg, xMod tA am ms mbef msav misv mpast mpm mthr mways mnds mtkp mline mlm mtxt mlen mat mwr merr mfail mcmd mcm, xObj ad hsv mal fai, xOff tA ad v shrt grp seen tp shr need ordr size, xScr tA K ad pos cmd vals txt len, xHis tA ad hc hn hs, xBef tA ad bt, xSav tA ad sv, xLin tA ad lnb lml lct]) (Lc := [xMod tA am ms mbef msav misv mpast mpm mthr mways mnds mtkp mline mlm mtxt mlen mat mwr merr mfail mcmd mcm]) (Lr := [xOut tA o og, xOud tA od dg, xObj ad hsv mal fai, xOff tA ad v shrt grp seen tp shr need ordr size, xScr tA K ad pos cmd vals txt len, xHis tA ad hc hn hs, xBef tA ad bt, xSav tA ad sv, xLin tA ad lnb lml lct]) (Lc' := fun u => [xMod tA am ms mbef msav misv mpast mpm u mways mnds mtkp mline mlm mtxt mlen mat mwr merr mfail mcmd mcm]) (Lf := fun u => [xOut tA o og, xOud tA od dg, xMod tA am ms mbef msav misv mpast mpm u mways mnds mtkp mline mlm mtxt mlen mat mwr merr mfail mcmd mcm, xObj ad hsv mal fai, xOff tA ad v shrt grp seen tp shr need ordr size, xScr tA K ad pos cmd vals txt len, xHis tA ad hc hn hs, xBef tA ad bt, xSav tA ad sv, xLin tA ad lnb lml lct]) (is := [2, 0, 1, 3, 4, 5, 6, 7, 8, 9]) (isF := [0, 1, 9, 2, 3, 4, 5, 6, 7, 8]) ⟨hx, hb, hml, hown, hts⟩ (c_X11_lineAt l D tA (am 0) (am 1) (am 2) (am 3) (am 4) (am 5) (am 6) (am 7) (am 8) (am 9) (am 10) H.size ms mbef msav misv mpast mpm mthr mways mnds mtkp mline mlm mtxt mlen mat mwr merr mfail mcmd mcm (xz xs (i + 1)) (xz_in _ _) (by omega) (fun j j0 j1 => by rw [hln]; exact hlb j j0 (by omega))) (cwV 1 hts (gx_tbl gL_law_X11_lineAt) rfl rfl rfl (by decide +kernel) ⟨Nat.le_of_ble_eq_true rfl, Nat.le_of_ble_eq_true rfl⟩) hK hP hD hS hA ⟨rfl, rfl, (by decide)⟩ ⟨fun _ => rfl, fun _ => rfl, (by decide)⟩ (ci := 13) (q0 := 0) rfl rfl rfl rfl rfl hl.1 (Nat.le_of_ble_eq_true rfl) dL_law_2577 (by show _ + 0 ≤ 603072 ∧ _ + 0 ≤ 7207018; omega) ?_
    intro zb u H locs hmq hP hD hS
    obtain ⟨y_mthr, rfl⟩ : ∃ q, q = u := ⟨_, rfl⟩
    have hP : va_P D vwCl ([xOut tA o og, xOud tA od dg, xMod tA am ms mbef msav misv mpast mpm y_mthr mways mnds mtkp mline mlm mtxt mlen mat mwr merr mfail mcmd mcm, xObj ad hsv mal fai, xOff tA ad v shrt grp seen tp shr need ordr size, xScr tA K ad pos cmd vals txt len, xHis tA ad hc hn hs, xBef tA ad bt, xSav tA ad sv, xLin tA ad lnb lml lct]).flatten H := hP
    have hD : va_D (lwA s) ([xOut tA o og, xOud tA od dg, xMod tA am ms mbef msav misv mpast mpm y_mthr mways mnds mtkp mline mlm mtxt mlen mat mwr merr mfail mcmd mcm, xObj ad hsv mal fai, xOff tA ad v shrt grp seen tp shr need ordr size, xScr tA K ad pos cmd vals txt len, xHis tA ad hc hn hs, xBef tA ad bt, xSav tA ad sv, xLin tA ad lnb lml lct]).flatten := hD
    have mq : (y_mthr = 1 ∧ ¬ (0 ≤ (xz xs (i + 1)) ∧ (xz xs (i + 1)) < mlm)) ∨ (y_mthr = 0 ∧ (0 ≤ (xz xs (i + 1)) ∧ (xz xs (i + 1)) < mlm) ∧ zb = mline (xz xs (i + 1))) := hmq.1
    have mq2 : 0 ≤ zb ∧ zb ≤ 127 := hmq.2
    clear hmq
    refine lv_istore (lv' := [(7, .int (iI zb)), (6, .int (iI z6)), (0, .ref b), (1, .ref (ad 0)), (2, .ref (am 0)), (3, .ref o), (4, .ref od), (5, .int (iI i))]) hx hb dL_law_2580 hl (by decide) rfl (fun ls hl => ?_)
    have hT : y_mthr = z6 := by
      rw [hlm, hln] at mq
      rcases mq with ⟨m0, -⟩ | ⟨-, m1, -⟩
      · omega
      · exact absurd m1 kq.2
    have hI2 : LInv (n + 1) v hs sv pos cmd vals txt len hc hn hsv mal fai lnb lct ms msav misv mpast mpm mline mlm mtxt mlen merr mfail mcmd := by
      exact LI_q hn9 hI
    refine lv_aload_n hx hb dL_law_2582 rfl (lv_at hl 4 rfl) ?_
    refine zz_callVi_ch (As := []) (rest := []) (L := [xOut tA o og, xOud tA od dg, xMod tA am ms mbef msav misv mpast mpm y_mthr mways mnds mtkp mline mlm mtxt mlen mat mwr merr mfail mcmd mcm, xObj ad hsv mal fai, xOff tA ad v shrt grp seen tp shr need ordr size, xScr tA K ad pos cmd vals txt len, xHis tA ad hc hn hs, xBef tA ad bt, xSav tA ad sv, xLin tA ad lnb lml lct]) (Lc := [xMod tA am ms mbef msav misv mpast mpm y_mthr mways mnds mtkp mline mlm mtxt mlen mat mwr merr mfail mcmd mcm]) (Lr := [xOut tA o og, xOud tA od dg, xObj ad hsv mal fai, xOff tA ad v shrt grp seen tp shr need ordr size, xScr tA K ad pos cmd vals txt len, xHis tA ad hc hn hs, xBef tA ad bt, xSav tA ad sv, xLin tA ad lnb lml lct]) (Lc' := fun u => [xMod tA am ms mbef msav misv mpast mpm y_mthr mways mnds mtkp mline mlm mtxt mlen mat mwr merr mfail mcmd mcm]) (Lf := fun u => [xOut tA o og, xOud tA od dg, xMod tA am ms mbef msav misv mpast mpm y_mthr mways mnds mtkp mline mlm mtxt mlen mat mwr merr mfail mcmd mcm, xObj ad hsv mal fai, xOff tA ad v shrt grp seen tp shr need ordr size, xScr tA K ad pos cmd vals txt len, xHis tA ad hc hn hs, xBef tA ad bt, xSav tA ad sv, xLin tA ad lnb lml lct]) (is := [2, 0, 1, 3, 4, 5, 6, 7, 8, 9]) (isF := [0, 1, 9, 2, 3, 4, 5, 6, 7, 8]) ⟨hx, hb, hml, hown, hts⟩ (c_X11_thrown l D tA (am 0) (am 1) (am 2) (am 3) (am 4) (am 5) (am 6) (am 7) (am 8) (am 9) (am 10) H.size ms mbef msav misv mpast mpm y_mthr mways mnds mtkp mline mlm mtxt mlen mat mwr merr mfail mcmd mcm) (cwV 0 hts (gx_tbl gL_law_X11_thrown) rfl rfl rfl (by decide +kernel) ⟨Nat.le_of_ble_eq_true rfl, Nat.le_of_ble_eq_true rfl⟩) hK hP hD hS hA ⟨rfl, rfl, (by decide)⟩ ⟨fun _ => rfl, fun _ => rfl, (by decide)⟩ (ci := 13) (q0 := 0) rfl rfl rfl rfl rfl hl.1 (Nat.le_of_ble_eq_true rfl) dL_law_2583 (by show _ + 0 ≤ 603072 ∧ _ + 0 ≤ 7207018; omega) ?_
    intro zt u H locs hzt hP hD hS
    have hP : va_P D vwCl ([xOut tA o og, xOud tA od dg, xMod tA am ms mbef msav misv mpast mpm y_mthr mways mnds mtkp mline mlm mtxt mlen mat mwr merr mfail mcmd mcm, xObj ad hsv mal fai, xOff tA ad v shrt grp seen tp shr need ordr size, xScr tA K ad pos cmd vals txt len, xHis tA ad hc hn hs, xBef tA ad bt, xSav tA ad sv, xLin tA ad lnb lml lct]).flatten H := hP
    have hD : va_D (lwA s) ([xOut tA o og, xOud tA od dg, xMod tA am ms mbef msav misv mpast mpm y_mthr mways mnds mtkp mline mlm mtxt mlen mat mwr merr mfail mcmd mcm, xObj ad hsv mal fai, xOff tA ad v shrt grp seen tp shr need ordr size, xScr tA K ad pos cmd vals txt len, xHis tA ad hc hn hs, xBef tA ad bt, xSav tA ad sv, xLin tA ad lnb lml lct]).flatten := hD
    have hzt : zt = y_mthr := hzt
    have hz69 : 0 ≤ z6 ∧ z6 ≤ 9 := by omega
    refine lv_iload hx hb dL_law_2586 (lv_at hl 1 rfl) ?_
    refine zz_icmp_eq (tgt := 2593) hx hb dL_law_2588 (by decide) (by omega) (by omega) (fun _ => ?_) (fun c9 => absurd (by omega) c9)
    refine lv_iload hx hb dL_law_2593 (lv_at hl 1 rfl) ?_
    refine zz_if_ne (tgt := 2610) hx hb dL_law_2595 (by decide) (by omega) (fun _ => ?_) (fun c9 => absurd c9 (by omega))
    refine lv_goto (tgt := 2917) hx hb dL_law_2610 (by decide) ?_
    refine W.widen (k := k9 + 20) (n := n9 + 200) (by omega) (by omega) ?_
    exact kk v shrt grp seen tp shr need ordr size pos cmd vals txt len hc hn hs bt sv hsv mal fai lnb lml lct ms mbef msav misv mpast mpm y_mthr mways mnds mtkp mline mlm mtxt mlen mat mwr merr mfail mcmd mcm og dg _ _ _ hI2 hP hD hS (lv_sub hl [2, 3, 4, 5, 6, 7] rfl)

set_option maxHeartbeats 8000000 in
set_option maxRecDepth 100000 in
theorem law_c46 {p : Program} {l : Launch} (hst : l.stackTraces = false) {e : Env} {s : State} {m : MethodId} {below : List Frame} {meth : Method} {c : Code} {D : va_G} {tA : Nat → ClassId} {K : Nat → Nat} {b L : Nat} {xs : Nat → Int32} (hL : L ≤ 2560) (C0 : lw_At p s m meth c b L xs) (hK : zK D tA s) (hZ : zT K (lwA s) s) {ad am : Nat → Nat} {o od : Nat} {i n : Int} (hi : 0 ≤ i ∧ i + 5 ≤ L) (hn9 : n < 600) {k9 n9 : Nat} (hk9 : k9 + 20 ≤ 603072 ∧ n9 + 200 ≤ 7207018) {v : Nat → Int → Int} {shrt : Int → Int} {grp : Int → Int} {seen : Int → Int} {tp : Int → Int} {shr : Int → Int} {need : Int → Int} {ordr : Int → Int} {size : Int} {pos : Int} {cmd : Int} {vals : Int → Int} {txt : Int → Int} {len : Int} {hc : Int} {hn : Int} {hs : Nat → Nat → Int → Int} {bt : Nat → Int → Int} {sv : Nat → Int → Int} {hsv : Int} {mal : Int} {fai : Int} {lnb : Int → Int} {lml : Int} {lct : Int} {ms : Int → Int} {mbef : Int → Int} {msav : Int → Int} {misv : Int} {mpast : Int → Int} {mpm : Int} {mthr : Int} {mways : Int → Int} {mnds : Int → Int} {mtkp : Int → Int} {mline : Int → Int} {mlm : Int} {mtxt : Int → Int} {mlen : Int} {mat : Int} {mwr : Int} {merr : Int} {mfail : Int} {mcmd : Int → Int} {mcm : Int} {og : Int → Int} {dg : Nat → UInt64} {H : Heap} {locs : List Loc} {ls : Array Slot} (hI : LInv n v hs sv pos cmd vals txt len hc hn hsv mal fai lnb lct ms msav misv mpast mpm mline mlm mtxt mlen merr mfail mcmd) (hP : va_P D vwCl (xW tA K ad am o od v shrt grp seen tp shr need ordr size pos cmd vals txt len hc hn hs bt sv hsv mal fai lnb lml lct ms mbef msav misv mpast mpm mthr mways mnds mtkp mline mlm mtxt mlen mat mwr merr mfail mcmd mcm og dg).flatten H) (hD : va_D (lwA s) (xW tA K ad am o od v shrt grp seen tp shr need ordr size pos cmd vals txt len hc hn hs bt sv hsv mal fai lnb lml lct ms mbef msav misv mpast mpm mthr mways mnds mtkp mline mlm mtxt mlen mat mwr merr mfail mcmd mcm og dg).flatten) (hS : va_S (lwA s) s.heap H locs) (hl : lv_has ls 9 [(0, .ref b), (1, .ref (ad 0)), (2, .ref (am 0)), (3, .ref o), (4, .ref od), (5, .int (iI i))]) (kk : lwK p l e s m below meth c D tA K ad am o od b i n k9 n9) : W p l e room_1 s m #[Value.ref b] below meth c H locs k9 n9 (lw_Z below #[Value.ref b] s) (F0 m 2613 ls []) := by
  obtain ⟨hx, hb, hrt, hml, hown, hts, hX, hbl, hlocks, hgv⟩ := id C0
  have hts := lw_more hts
  have hA : ∀ q : Nat, s.heap.size ≤ q → lwA s q := fun _ h => h
  have hbA : ¬ lwA s b := Nat.not_le.mpr hbl
  have hCn := hZ.2.2.2
  obtain ⟨⟨n0, n6, l0, l6, ln⟩, hLS, ⟨hhn, hhc, hpm, hhi⟩, ⟨hsv01, hmis, hsvv, hsvr⟩, ⟨hlen, htxt, htx⟩, ⟨hlm, hln, hl0, hl16, hlb⟩, ⟨her, hfa, hm1, hm2, hf1, hf2⟩, ⟨hcd0, hcd1, hps0, hps1, hva⟩, hcr⟩ := id hI
  have hv := hLS.1
  have hr := hLS.2
  have hch : ChS v := hv.1
  have hu9 : ChW v := hv.2.1
  obtain ⟨-, -, hcc, hsp, hmo, hfog, hrg, hni, hfd, hmt9, hln9, hsum⟩ := SVk_out (show SVk _ _ (etS v) from hv)
  have hmv := rel_MV hv hr (by omega) (by omega)
  obtain ⟨e0, e1, e2, e3, e4, e5, e6⟩ := id hr.1
  have eE := rel_sE hch hr
  have hmon : ∀ j, 0 ≤ j → j < v 7 0 → 0 ≤ v 10 j ∧ v 10 j ≤ 6000000 := fun j j0 j1 => by have := hmo j j0 j1; omega
  have hlnd : ∀ j, 0 ≤ j → j < v 7 0 → (0 ≤ v 11 j ∧ v 11 j ≤ 600) ∧ (0 ≤ v 12 j ∧ v 12 j ≤ 600) := fun j j0 j1 => by have := hln9 j j0 j1; omega
  refine lv_aload_n hx hb dL_law_2613 rfl (lv_at hl 1 rfl) ?_
  refine zz_callVi_ch (As := []) (rest := []) (L := [xOut tA o og, xOud tA od dg, xMod tA am ms mbef msav misv mpast mpm mthr mways mnds mtkp mline mlm mtxt mlen mat mwr merr mfail mcmd mcm, xObj ad hsv mal fai, xOff tA ad v shrt grp seen tp shr need ordr size, xScr tA K ad pos cmd vals txt len, xHis tA ad hc hn hs, xBef tA ad bt, xSav tA ad sv, xLin tA ad lnb lml lct]) (Lc := [xObj ad hsv mal fai, xOff tA ad v shrt grp seen tp shr need ordr size]) (Lr := [xOut tA o og, xOud tA od dg, xMod tA am ms mbef msav misv mpast mpm mthr mways mnds mtkp mline mlm mtxt mlen mat mwr merr mfail mcmd mcm, xScr tA K ad pos cmd vals txt len, xHis tA ad hc hn hs, xBef tA ad bt, xSav tA ad sv, xLin tA ad lnb lml lct]) (Lc' := fun u => [xObj ad hsv mal fai, xOff tA ad v u.1 u.2.1 u.2.2.1 u.2.2.2.1 u.2.2.2.2.2.1 u.2.2.2.2.1 u.2.2.2.2.2.2.1 u.2.2.2.2.2.2.2]) (Lf := fun u => [xOut tA o og, xOud tA od dg, xMod tA am ms mbef msav misv mpast mpm mthr mways mnds mtkp mline mlm mtxt mlen mat mwr merr mfail mcmd mcm, xObj ad hsv mal fai, xOff tA ad v u.1 u.2.1 u.2.2.1 u.2.2.2.1 u.2.2.2.2.2.1 u.2.2.2.2.1 u.2.2.2.2.2.2.1 u.2.2.2.2.2.2.2, xScr tA K ad pos cmd vals txt len, xHis tA ad hc hn hs, xBef tA ad bt, xSav tA ad sv, xLin tA ad lnb lml lct]) (is := [3, 4, 0, 1, 2, 5, 6, 7, 8, 9]) (isF := [0, 1, 2, 8, 9, 3, 4, 5, 6, 7]) ⟨hx, hb, hml, hown, hts⟩ (c_X10_isConsistent l D tA (ad 0) (ad 1) (ad 2) (ad 3) (ad 4) (ad 5) (ad 6) (ad 7) (ad 8) (ad 9) (ad 10) (ad 11) (ad 12) (ad 13) (ad 14) (ad 15) (ad 16) (ad 17) (ad 18) (ad 19) (ad 20) (ad 21) (ad 22) (ad 23) (ad 24) (ad 27) (ad 146) (ad 133) (ad 159) H.size (v 0 0) (v 1 0) (v 2) (v 3) (v 4) (v 5) (v 6) (v 7 0) (v 8) (v 9) (v 10) (v 11) (v 12) (v 13 0) (v 14 0) (v 15 0) (v 16 0) (v 17 0) (v 18 0) shrt grp seen tp shr need ordr size hsv mal fai hch hcc hsp (fun j j0 j1 => by have := hmon j j0 j1; omega) hu9 (by omega) hsum) (cwV 0 hts (gx_tbl gL_law_X10_isConsistent) rfl rfl rfl (by decide +kernel) ⟨Nat.le_of_ble_eq_true rfl, Nat.le_of_ble_eq_true rfl⟩) hK hP hD hS hA ⟨rfl, rfl, (by decide)⟩ ⟨fun _ => rfl, fun _ => rfl, (by decide)⟩ (ci := 12) (q0 := 0) rfl rfl rfl rfl rfl hl.1 (Nat.le_of_ble_eq_true rfl) dL_law_2614 (by show _ + 0 ≤ 603072 ∧ _ + 0 ≤ 7207018; omega) ?_
  intro zc u H locs hq hP hD hS
  obtain ⟨w_shrt, w_grp, w_seen, w_tp, w_need, w_shr, w_ordr, w_size⟩ := u
  have hP : va_P D vwCl ([xOut tA o og, xOud tA od dg, xMod tA am ms mbef msav misv mpast mpm mthr mways mnds mtkp mline mlm mtxt mlen mat mwr merr mfail mcmd mcm, xObj ad hsv mal fai, xOff tA ad v w_shrt w_grp w_seen w_tp w_shr w_need w_ordr w_size, xScr tA K ad pos cmd vals txt len, xHis tA ad hc hn hs, xBef tA ad bt, xSav tA ad sv, xLin tA ad lnb lml lct]).flatten H := hP
  have hD : va_D (lwA s) ([xOut tA o og, xOud tA od dg, xMod tA am ms mbef msav misv mpast mpm mthr mways mnds mtkp mline mlm mtxt mlen mat mwr merr mfail mcmd mcm, xObj ad hsv mal fai, xOff tA ad v w_shrt w_grp w_seen w_tp w_shr w_need w_ordr w_size, xScr tA K ad pos cmd vals txt len, xHis tA ad hc hn hs, xBef tA ad bt, xSav tA ad sv, xLin tA ad lnb lml lct]).flatten := hD
  have kq : zc = 1 := hq
  refine lv_aload_n hx hb dL_law_2617 rfl (lv_at hl 2 rfl) ?_
  refine zz_callVi_ch (As := []) (rest := [.int (iI zc)]) (L := [xOut tA o og, xOud tA od dg, xMod tA am ms mbef msav misv mpast mpm mthr mways mnds mtkp mline mlm mtxt mlen mat mwr merr mfail mcmd mcm, xObj ad hsv mal fai, xOff tA ad v w_shrt w_grp w_seen w_tp w_shr w_need w_ordr w_size, xScr tA K ad pos cmd vals txt len, xHis tA ad hc hn hs, xBef tA ad bt, xSav tA ad sv, xLin tA ad lnb lml lct]) (Lc := [xMod tA am ms mbef msav misv mpast mpm mthr mways mnds mtkp mline mlm mtxt mlen mat mwr merr mfail mcmd mcm]) (Lr := [xOut tA o og, xOud tA od dg, xObj ad hsv mal fai, xOff tA ad v w_shrt w_grp w_seen w_tp w_shr w_need w_ordr w_size, xScr tA K ad pos cmd vals txt len, xHis tA ad hc hn hs, xBef tA ad bt, xSav tA ad sv, xLin tA ad lnb lml lct]) (Lc' := fun u => [xMod tA am ms mbef msav misv mpast mpm 0 mways mnds mtkp mline mlm mtxt mlen mat mwr merr mfail mcmd mcm]) (Lf := fun u => [xOut tA o og, xOud tA od dg, xMod tA am ms mbef msav misv mpast mpm 0 mways mnds mtkp mline mlm mtxt mlen mat mwr merr mfail mcmd mcm, xObj ad hsv mal fai, xOff tA ad v w_shrt w_grp w_seen w_tp w_shr w_need w_ordr w_size, xScr tA K ad pos cmd vals txt len, xHis tA ad hc hn hs, xBef tA ad bt, xSav tA ad sv, xLin tA ad lnb lml lct]) (is := [2, 0, 1, 3, 4, 5, 6, 7, 8, 9]) (isF := [0, 1, 9, 2, 3, 4, 5, 6, 7, 8]) ⟨hx, hb, hml, hown, hts⟩ (c_X11_isConsistent l D tA (am 0) (am 1) (am 2) (am 3) (am 4) (am 5) (am 6) (am 7) (am 8) (am 9) (am 10) H.size ms mbef msav misv mpast mpm mthr mways mnds mtkp mline mlm mtxt mlen mat mwr merr mfail mcmd mcm  ) (cwV 0 hts (gx_tbl gL_law_X11_isConsistent) rfl rfl rfl (by decide +kernel) ⟨Nat.le_of_ble_eq_true rfl, Nat.le_of_ble_eq_true rfl⟩) hK hP hD hS hA ⟨rfl, rfl, (by decide)⟩ ⟨fun _ => rfl, fun _ => rfl, (by decide)⟩ (ci := 13) (q0 := 0) rfl rfl rfl rfl rfl hl.1 (Nat.le_of_ble_eq_true rfl) dL_law_2618 (by show _ + 0 ≤ 603072 ∧ _ + 0 ≤ 7207018; omega) ?_
  intro zb u H locs hmq hP hD hS
  have hP : va_P D vwCl ([xOut tA o og, xOud tA od dg, xMod tA am ms mbef msav misv mpast mpm 0 mways mnds mtkp mline mlm mtxt mlen mat mwr merr mfail mcmd mcm, xObj ad hsv mal fai, xOff tA ad v w_shrt w_grp w_seen w_tp w_shr w_need w_ordr w_size, xScr tA K ad pos cmd vals txt len, xHis tA ad hc hn hs, xBef tA ad bt, xSav tA ad sv, xLin tA ad lnb lml lct]).flatten H := hP
  have hD : va_D (lwA s) ([xOut tA o og, xOud tA od dg, xMod tA am ms mbef msav misv mpast mpm 0 mways mnds mtkp mline mlm mtxt mlen mat mwr merr mfail mcmd mcm, xObj ad hsv mal fai, xOff tA ad v w_shrt w_grp w_seen w_tp w_shr w_need w_ordr w_size, xScr tA K ad pos cmd vals txt len, xHis tA ad hc hn hs, xBef tA ad bt, xSav tA ad sv, xLin tA ad lnb lml lct]).flatten := hD
  have mq : zb = 1 := hmq
  clear hmq
  have hT : zb = zc := by
    omega
  have hI2 : LInv (n + 1) v hs sv pos cmd vals txt len hc hn hsv mal fai lnb lct ms msav misv mpast mpm mline mlm mtxt mlen merr mfail mcmd := by
    exact LI_q hn9 hI
  subst hT
  refine zz_icmp_eq (tgt := 2917) hx hb dL_law_2621 (by decide) (by omega) (by omega) (fun _ => ?_) (fun c9 => absurd rfl c9)
  refine W.widen (k := k9 + 20) (n := n9 + 200) (by omega) (by omega) ?_
  exact kk v w_shrt w_grp w_seen w_tp w_shr w_need w_ordr w_size pos cmd vals txt len hc hn hs bt sv hsv mal fai lnb lml lct ms mbef msav misv mpast mpm 0 mways mnds mtkp mline mlm mtxt mlen mat mwr merr mfail mcmd mcm og dg _ _ _ hI2 hP hD hS (lv_sub hl [0, 1, 2, 3, 4, 5] rfl)

set_option maxHeartbeats 8000000 in
set_option maxRecDepth 100000 in
theorem law_c47 {p : Program} {l : Launch} (hst : l.stackTraces = false) {e : Env} {s : State} {m : MethodId} {below : List Frame} {meth : Method} {c : Code} {D : va_G} {tA : Nat → ClassId} {K : Nat → Nat} {b L : Nat} {xs : Nat → Int32} (hL : L ≤ 2560) (C0 : lw_At p s m meth c b L xs) (hK : zK D tA s) (hZ : zT K (lwA s) s) {ad am : Nat → Nat} {o od : Nat} {i n : Int} (hi : 0 ≤ i ∧ i + 5 ≤ L) (hn9 : n < 600) {k9 n9 : Nat} (hk9 : k9 + 20 ≤ 603072 ∧ n9 + 200 ≤ 7207018) {v : Nat → Int → Int} {shrt : Int → Int} {grp : Int → Int} {seen : Int → Int} {tp : Int → Int} {shr : Int → Int} {need : Int → Int} {ordr : Int → Int} {size : Int} {pos : Int} {cmd : Int} {vals : Int → Int} {txt : Int → Int} {len : Int} {hc : Int} {hn : Int} {hs : Nat → Nat → Int → Int} {bt : Nat → Int → Int} {sv : Nat → Int → Int} {hsv : Int} {mal : Int} {fai : Int} {lnb : Int → Int} {lml : Int} {lct : Int} {ms : Int → Int} {mbef : Int → Int} {msav : Int → Int} {misv : Int} {mpast : Int → Int} {mpm : Int} {mthr : Int} {mways : Int → Int} {mnds : Int → Int} {mtkp : Int → Int} {mline : Int → Int} {mlm : Int} {mtxt : Int → Int} {mlen : Int} {mat : Int} {mwr : Int} {merr : Int} {mfail : Int} {mcmd : Int → Int} {mcm : Int} {og : Int → Int} {dg : Nat → UInt64} {H : Heap} {locs : List Loc} {ls : Array Slot} (hI : LInv n v hs sv pos cmd vals txt len hc hn hsv mal fai lnb lct ms msav misv mpast mpm mline mlm mtxt mlen merr mfail mcmd) (hP : va_P D vwCl (xW tA K ad am o od v shrt grp seen tp shr need ordr size pos cmd vals txt len hc hn hs bt sv hsv mal fai lnb lml lct ms mbef msav misv mpast mpm mthr mways mnds mtkp mline mlm mtxt mlen mat mwr merr mfail mcmd mcm og dg).flatten H) (hD : va_D (lwA s) (xW tA K ad am o od v shrt grp seen tp shr need ordr size pos cmd vals txt len hc hn hs bt sv hsv mal fai lnb lml lct ms mbef msav misv mpast mpm mthr mways mnds mtkp mline mlm mtxt mlen mat mwr merr mfail mcmd mcm og dg).flatten) (hS : va_S (lwA s) s.heap H locs) (hl : lv_has ls 9 [(0, .ref b), (1, .ref (ad 0)), (2, .ref (am 0)), (3, .ref o), (4, .ref od), (5, .int (iI i))]) (kk : lwK p l e s m below meth c D tA K ad am o od b i n k9 n9) : W p l e room_1 s m #[Value.ref b] below meth c H locs k9 n9 (lw_Z below #[Value.ref b] s) (F0 m 2626 ls []) := by
  obtain ⟨hx, hb, hrt, hml, hown, hts, hX, hbl, hlocks, hgv⟩ := id C0
  have hts := lw_more hts
  have hA : ∀ q : Nat, s.heap.size ≤ q → lwA s q := fun _ h => h
  have hbA : ¬ lwA s b := Nat.not_le.mpr hbl
  have hCn := hZ.2.2.2
  obtain ⟨⟨n0, n6, l0, l6, ln⟩, hLS, ⟨hhn, hhc, hpm, hhi⟩, ⟨hsv01, hmis, hsvv, hsvr⟩, ⟨hlen, htxt, htx⟩, ⟨hlm, hln, hl0, hl16, hlb⟩, ⟨her, hfa, hm1, hm2, hf1, hf2⟩, ⟨hcd0, hcd1, hps0, hps1, hva⟩, hcr⟩ := id hI
  have hv := hLS.1
  have hr := hLS.2
  have hch : ChS v := hv.1
  have hu9 : ChW v := hv.2.1
  obtain ⟨-, -, hcc, hsp, hmo, hfog, hrg, hni, hfd, hmt9, hln9, hsum⟩ := SVk_out (show SVk _ _ (etS v) from hv)
  have hmv := rel_MV hv hr (by omega) (by omega)
  obtain ⟨e0, e1, e2, e3, e4, e5, e6⟩ := id hr.1
  have eE := rel_sE hch hr
  have hmon : ∀ j, 0 ≤ j → j < v 7 0 → 0 ≤ v 10 j ∧ v 10 j ≤ 6000000 := fun j j0 j1 => by have := hmo j j0 j1; omega
  have hlnd : ∀ j, 0 ≤ j → j < v 7 0 → (0 ≤ v 11 j ∧ v 11 j ≤ 600) ∧ (0 ≤ v 12 j ∧ v 12 j ≤ 600) := fun j j0 j1 => by have := hln9 j j0 j1; omega
  refine lv_aload_n hx hb dL_law_2626 rfl (lv_at hl 1 rfl) ?_
  refine lv_aload_n hx hb dL_law_2627 rfl (lv_at hl 0 rfl) ?_
  refine lv_iload hx hb dL_law_2628 (lv_at hl 5 rfl) ?_
  refine zz_iconst hx hb dL_law_2630 ?_
  refine zz_iadd hx hb dL_law_2631 ?_
  refine zz_sld hx hb hX hbl hbA hS (k := i + 1) (by omega) hL dL_law_2632 ?_
  refine zz_i2cx hx hb dL_law_2633 ?_
  refine lv_aload_n hx hb dL_law_2634 rfl (lv_at hl 3 rfl) ?_
  refine zh_callSi_ch (As := [.ref (ad 0), .int (iI (chZ (xz xs (i + 1)))), .ref o]) (rest := []) (L := [xOut tA o og, xOud tA od dg, xMod tA am ms mbef msav misv mpast mpm mthr mways mnds mtkp mline mlm mtxt mlen mat mwr merr mfail mcmd mcm, xObj ad hsv mal fai, xOff tA ad v shrt grp seen tp shr need ordr size, xScr tA K ad pos cmd vals txt len, xHis tA ad hc hn hs, xBef tA ad bt, xSav tA ad sv, xLin tA ad lnb lml lct]) (Lc := [xOut tA o og, xObj ad hsv mal fai, xScr tA K ad pos cmd vals txt len]) (Lr := [xOud tA od dg, xMod tA am ms mbef msav misv mpast mpm mthr mways mnds mtkp mline mlm mtxt mlen mat mwr merr mfail mcmd mcm, xOff tA ad v shrt grp seen tp shr need ordr size, xHis tA ad hc hn hs, xBef tA ad bt, xSav tA ad sv, xLin tA ad lnb lml lct]) (Lc' := fun u => Sum.elim (fun u => [xOut tA o (zU og 0 u.1), xObj ad hsv mal fai, xScr tA K ad pos cmd vals (zU txt len (chZ (xz xs (i + 1)))) (len + 1)]) (fun u => [xOut tA o og, xObj ad hsv mal fai, xScr tA K ad pos cmd vals txt len]) u) (Lf := fun u => Sum.elim (fun u => [xOut tA o (zU og 0 u.1), xOud tA od dg, xMod tA am ms mbef msav misv mpast mpm mthr mways mnds mtkp mline mlm mtxt mlen mat mwr merr mfail mcmd mcm, xObj ad hsv mal fai, xOff tA ad v shrt grp seen tp shr need ordr size, xScr tA K ad pos cmd vals (zU txt len (chZ (xz xs (i + 1)))) (len + 1), xHis tA ad hc hn hs, xBef tA ad bt, xSav tA ad sv, xLin tA ad lnb lml lct]) (fun u => [xOut tA o og, xOud tA od dg, xMod tA am ms mbef msav misv mpast mpm mthr mways mnds mtkp mline mlm mtxt mlen mat mwr merr mfail mcmd mcm, xObj ad hsv mal fai, xOff tA ad v shrt grp seen tp shr need ordr size, xScr tA K ad pos cmd vals txt len, xHis tA ad hc hn hs, xBef tA ad bt, xSav tA ad sv, xLin tA ad lnb lml lct]) u) (is := [0, 3, 5, 1, 2, 4, 6, 7, 8, 9]) (isF := [7, 0, 1, 8, 2, 9, 3, 4, 5, 6]) ⟨hx, hb, hml, hown, hts⟩ (c_L_type l hst K D tA (ad 0) (ad 24) (ad 25) (ad 26) (ad 1) (ad 27) (ad 146) (ad 133) (ad 159) o H.size og pos cmd vals txt len hsv mal fai  (chZ (xz xs (i + 1))) (by have h9 := chZ_in (xz xs (i + 1)); omega) ⟨l0, l6⟩ (chZ_in _)) (vx_cwSW 3 hts (gx_wr gL_law_L_type) rfl rfl rfl (by decide +kernel) ⟨Nat.le_of_ble_eq_true rfl, Nat.le_of_ble_eq_true rfl⟩) hK hP hD hS hA hZ ⟨rfl, rfl, (by decide)⟩ ⟨fun u => by cases u <;> rfl, fun u => by cases u <;> rfl, (by decide)⟩ rfl rfl hl.1 (Nat.le_of_ble_eq_true rfl) dL_law_2635 (by show k9 + 1 ≤ 603072 ∧ n9 + 6 ≤ 7207018; omega) ?_
  intro z6 u H locs hq hP hD hS
  rcases u with ⟨zc, u⟩ | u
  · skip
    obtain ⟨hz6, kq, hzr⟩ := hq
    have kq : (32 ≤ (chZ (xz xs (i + 1))) ∧ (chZ (xz xs (i + 1))) ≤ 126) ∧ len < 60 ∧ zc = len + 1 := kq
    have hz6 : z6 = 0 := hz6
    have hzr : -2147483648 ≤ zc ∧ zc ≤ 2147483647 := hzr
    have hP : va_P D vwCl ([xOut tA o (zU og 0 zc), xOud tA od dg, xMod tA am ms mbef msav misv mpast mpm mthr mways mnds mtkp mline mlm mtxt mlen mat mwr merr mfail mcmd mcm, xObj ad hsv mal fai, xOff tA ad v shrt grp seen tp shr need ordr size, xScr tA K ad pos cmd vals (zU txt len (chZ (xz xs (i + 1)))) (len + 1), xHis tA ad hc hn hs, xBef tA ad bt, xSav tA ad sv, xLin tA ad lnb lml lct]).flatten H := hP
    have hD : va_D (lwA s) ([xOut tA o (zU og 0 zc), xOud tA od dg, xMod tA am ms mbef msav misv mpast mpm mthr mways mnds mtkp mline mlm mtxt mlen mat mwr merr mfail mcmd mcm, xObj ad hsv mal fai, xOff tA ad v shrt grp seen tp shr need ordr size, xScr tA K ad pos cmd vals (zU txt len (chZ (xz xs (i + 1)))) (len + 1), xHis tA ad hc hn hs, xBef tA ad bt, xSav tA ad sv, xLin tA ad lnb lml lct]).flatten := hD
    refine lv_istore (lv' := [(6, .int (iI z6)), (0, .ref b), (1, .ref (ad 0)), (2, .ref (am 0)), (3, .ref o), (4, .ref od), (5, .int (iI i))]) hx hb dL_law_2638 hl (by decide) rfl (fun ls hl => ?_)
    refine lv_aload_n hx hb dL_law_2640 rfl (lv_at hl 3 rfl) ?_
    refine lv_aload_n hx hb dL_law_2641 rfl (lv_at hl 1 rfl) ?_
    refine lv_iload hx hb dL_law_2642 (lv_at hl 6 rfl) ?_
    refine zz_iconst hx hb dL_law_2644 ?_
    refine zz_iadd hx hb dL_law_2645 ?_
    refine zz_sld hx hb hX hbl hbA hS (k := i + 1) (by omega) hL dL_law_2646 ?_
    refine zz_i2cx hx hb dL_law_2647 ?_
    refine zz_callVi_ch (As := [.int (iI (chZ (xz xs (i + 1))))]) (rest := []) (L := [xOut tA o (zU og 0 zc), xOud tA od dg, xMod tA am ms mbef msav misv mpast mpm mthr mways mnds mtkp mline mlm mtxt mlen mat mwr merr mfail mcmd mcm, xObj ad hsv mal fai, xOff tA ad v shrt grp seen tp shr need ordr size, xScr tA K ad pos cmd vals (zU txt len (chZ (xz xs (i + 1)))) (len + 1), xHis tA ad hc hn hs, xBef tA ad bt, xSav tA ad sv, xLin tA ad lnb lml lct]) (Lc := [xMod tA am ms mbef msav misv mpast mpm mthr mways mnds mtkp mline mlm mtxt mlen mat mwr merr mfail mcmd mcm]) (Lr := [xOut tA o (zU og 0 zc), xOud tA od dg, xObj ad hsv mal fai, xOff tA ad v shrt grp seen tp shr need ordr size, xScr tA K ad pos cmd vals (zU txt len (chZ (xz xs (i + 1)))) (len + 1), xHis tA ad hc hn hs, xBef tA ad bt, xSav tA ad sv, xLin tA ad lnb lml lct]) (Lc' := fun u => [xMod tA am ms mbef msav misv mpast mpm u.1 mways mnds mtkp mline mlm u.2.1 u.2.2 mat mwr merr mfail mcmd mcm]) (Lf := fun u => [xOut tA o (zU og 0 zc), xOud tA od dg, xMod tA am ms mbef msav misv mpast mpm u.1 mways mnds mtkp mline mlm u.2.1 u.2.2 mat mwr merr mfail mcmd mcm, xObj ad hsv mal fai, xOff tA ad v shrt grp seen tp shr need ordr size, xScr tA K ad pos cmd vals (zU txt len (chZ (xz xs (i + 1)))) (len + 1), xHis tA ad hc hn hs, xBef tA ad bt, xSav tA ad sv, xLin tA ad lnb lml lct]) (is := [2, 0, 1, 3, 4, 5, 6, 7, 8, 9]) (isF := [0, 1, 9, 2, 3, 4, 5, 6, 7, 8]) ⟨hx, hb, hml, hown, hts⟩ (c_X11_type l D tA (am 0) (am 1) (am 2) (am 3) (am 4) (am 5) (am 6) (am 7) (am 8) (am 9) (am 10) H.size ms mbef msav misv mpast mpm mthr mways mnds mtkp mline mlm mtxt mlen mat mwr merr mfail mcmd mcm (chZ (xz xs (i + 1))) (by have h9 := chZ_in (xz xs (i + 1)); omega) (by omega) (chZ_in _)) (cwV 1 hts (gx_tbl gL_law_X11_type) rfl rfl rfl (by decide +kernel) ⟨Nat.le_of_ble_eq_true rfl, Nat.le_of_ble_eq_true rfl⟩) hK hP hD hS hA ⟨rfl, rfl, (by decide)⟩ ⟨fun _ => rfl, fun _ => rfl, (by decide)⟩ (ci := 13) (q0 := 0) rfl rfl rfl rfl rfl hl.1 (Nat.le_of_ble_eq_true rfl) dL_law_2648 (by show _ + 0 ≤ 603072 ∧ _ + 0 ≤ 7207018; omega) ?_
    intro zb u H locs hmq hP hD hS
    obtain ⟨y_mthr, y_mtxt, y_mlen⟩ := u
    have hP : va_P D vwCl ([xOut tA o (zU og 0 zc), xOud tA od dg, xMod tA am ms mbef msav misv mpast mpm y_mthr mways mnds mtkp mline mlm y_mtxt y_mlen mat mwr merr mfail mcmd mcm, xObj ad hsv mal fai, xOff tA ad v shrt grp seen tp shr need ordr size, xScr tA K ad pos cmd vals (zU txt len (chZ (xz xs (i + 1)))) (len + 1), xHis tA ad hc hn hs, xBef tA ad bt, xSav tA ad sv, xLin tA ad lnb lml lct]).flatten H := hP
    have hD : va_D (lwA s) ([xOut tA o (zU og 0 zc), xOud tA od dg, xMod tA am ms mbef msav misv mpast mpm y_mthr mways mnds mtkp mline mlm y_mtxt y_mlen mat mwr merr mfail mcmd mcm, xObj ad hsv mal fai, xOff tA ad v shrt grp seen tp shr need ordr size, xScr tA K ad pos cmd vals (zU txt len (chZ (xz xs (i + 1)))) (len + 1), xHis tA ad hc hn hs, xBef tA ad bt, xSav tA ad sv, xLin tA ad lnb lml lct]).flatten := hD
    have mq : (y_mthr = 1 ∧ ¬ (32 ≤ (chZ (xz xs (i + 1))) ∧ (chZ (xz xs (i + 1))) ≤ 126) ∧ y_mtxt = mtxt ∧ y_mlen = mlen) ∨ (y_mthr = 2 ∧ (32 ≤ (chZ (xz xs (i + 1))) ∧ (chZ (xz xs (i + 1))) ≤ 126) ∧ mlen = 60 ∧ y_mtxt = mtxt ∧ y_mlen = mlen) ∨ (y_mthr = 0 ∧ (32 ≤ (chZ (xz xs (i + 1))) ∧ (chZ (xz xs (i + 1))) ≤ 126) ∧ mlen < 60 ∧ y_mtxt = zU mtxt mlen (chZ (xz xs (i + 1))) ∧ y_mlen = mlen + 1 ∧ zb = mlen + 1) := hmq
    clear hmq
    refine lv_istore (lv' := [(7, .int (iI zb)), (6, .int (iI z6)), (0, .ref b), (1, .ref (ad 0)), (2, .ref (am 0)), (3, .ref o), (4, .ref od), (5, .int (iI i))]) hx hb dL_law_2651 hl (by decide) rfl (fun ls hl => ?_)
    have hTV : y_mthr = 0 ∧ zb = zc := by
      rw [hlen] at mq
      rcases mq with ⟨m0, m1, -, -⟩ | ⟨m0, m1, m2, -, -⟩ | ⟨m0, m1, m2, -, -, m3⟩
      · exact absurd kq.1 m1
      · exfalso; have := kq.2.1; omega
      · exact ⟨m0, m3.trans kq.2.2.symm⟩
    have hT : y_mthr = z6 := hTV.1.trans hz6.symm
    have hI2 : LInv (n + 1) v hs sv pos cmd vals (zU txt len (chZ (xz xs (i + 1)))) (len + 1) hc hn hsv mal fai lnb lct ms msav misv mpast mpm mline mlm y_mtxt y_mlen merr mfail mcmd := by
      rcases mq with ⟨m0, m1, -, -⟩ | ⟨m0, m1, m2, -, -⟩ | ⟨m0, m1, m2, m4, m5, m3⟩
      · exact absurd kq.1 m1
      · exfalso; have := kq.2.1; omega
      · rw [m4, m5]
        exact LI_type hn9 hI kq.1 kq.2.1
    refine lv_aload_n hx hb dL_law_2653 rfl (lv_at hl 4 rfl) ?_
    refine zz_callVi_ch (As := []) (rest := []) (L := [xOut tA o (zU og 0 zc), xOud tA od dg, xMod tA am ms mbef msav misv mpast mpm y_mthr mways mnds mtkp mline mlm y_mtxt y_mlen mat mwr merr mfail mcmd mcm, xObj ad hsv mal fai, xOff tA ad v shrt grp seen tp shr need ordr size, xScr tA K ad pos cmd vals (zU txt len (chZ (xz xs (i + 1)))) (len + 1), xHis tA ad hc hn hs, xBef tA ad bt, xSav tA ad sv, xLin tA ad lnb lml lct]) (Lc := [xMod tA am ms mbef msav misv mpast mpm y_mthr mways mnds mtkp mline mlm y_mtxt y_mlen mat mwr merr mfail mcmd mcm]) (Lr := [xOut tA o (zU og 0 zc), xOud tA od dg, xObj ad hsv mal fai, xOff tA ad v shrt grp seen tp shr need ordr size, xScr tA K ad pos cmd vals (zU txt len (chZ (xz xs (i + 1)))) (len + 1), xHis tA ad hc hn hs, xBef tA ad bt, xSav tA ad sv, xLin tA ad lnb lml lct]) (Lc' := fun u => [xMod tA am ms mbef msav misv mpast mpm y_mthr mways mnds mtkp mline mlm y_mtxt y_mlen mat mwr merr mfail mcmd mcm]) (Lf := fun u => [xOut tA o (zU og 0 zc), xOud tA od dg, xMod tA am ms mbef msav misv mpast mpm y_mthr mways mnds mtkp mline mlm y_mtxt y_mlen mat mwr merr mfail mcmd mcm, xObj ad hsv mal fai, xOff tA ad v shrt grp seen tp shr need ordr size, xScr tA K ad pos cmd vals (zU txt len (chZ (xz xs (i + 1)))) (len + 1), xHis tA ad hc hn hs, xBef tA ad bt, xSav tA ad sv, xLin tA ad lnb lml lct]) (is := [2, 0, 1, 3, 4, 5, 6, 7, 8, 9]) (isF := [0, 1, 9, 2, 3, 4, 5, 6, 7, 8]) ⟨hx, hb, hml, hown, hts⟩ (c_X11_thrown l D tA (am 0) (am 1) (am 2) (am 3) (am 4) (am 5) (am 6) (am 7) (am 8) (am 9) (am 10) H.size ms mbef msav misv mpast mpm y_mthr mways mnds mtkp mline mlm y_mtxt y_mlen mat mwr merr mfail mcmd mcm) (cwV 0 hts (gx_tbl gL_law_X11_thrown) rfl rfl rfl (by decide +kernel) ⟨Nat.le_of_ble_eq_true rfl, Nat.le_of_ble_eq_true rfl⟩) hK hP hD hS hA ⟨rfl, rfl, (by decide)⟩ ⟨fun _ => rfl, fun _ => rfl, (by decide)⟩ (ci := 13) (q0 := 0) rfl rfl rfl rfl rfl hl.1 (Nat.le_of_ble_eq_true rfl) dL_law_2654 (by show _ + 0 ≤ 603072 ∧ _ + 0 ≤ 7207018; omega) ?_
    intro zt u H locs hzt hP hD hS
    have hP : va_P D vwCl ([xOut tA o (zU og 0 zc), xOud tA od dg, xMod tA am ms mbef msav misv mpast mpm y_mthr mways mnds mtkp mline mlm y_mtxt y_mlen mat mwr merr mfail mcmd mcm, xObj ad hsv mal fai, xOff tA ad v shrt grp seen tp shr need ordr size, xScr tA K ad pos cmd vals (zU txt len (chZ (xz xs (i + 1)))) (len + 1), xHis tA ad hc hn hs, xBef tA ad bt, xSav tA ad sv, xLin tA ad lnb lml lct]).flatten H := hP
    have hD : va_D (lwA s) ([xOut tA o (zU og 0 zc), xOud tA od dg, xMod tA am ms mbef msav misv mpast mpm y_mthr mways mnds mtkp mline mlm y_mtxt y_mlen mat mwr merr mfail mcmd mcm, xObj ad hsv mal fai, xOff tA ad v shrt grp seen tp shr need ordr size, xScr tA K ad pos cmd vals (zU txt len (chZ (xz xs (i + 1)))) (len + 1), xHis tA ad hc hn hs, xBef tA ad bt, xSav tA ad sv, xLin tA ad lnb lml lct]).flatten := hD
    have hzt : zt = y_mthr := hzt
    have hz69 : 0 ≤ z6 ∧ z6 ≤ 9 := by omega
    refine lv_iload hx hb dL_law_2657 (lv_at hl 1 rfl) ?_
    refine zz_icmp_eq (tgt := 2664) hx hb dL_law_2659 (by decide) (by omega) (by omega) (fun _ => ?_) (fun c9 => absurd (by omega) c9)
    refine lv_iload hx hb dL_law_2664 (lv_at hl 1 rfl) ?_
    refine zz_if_ne (tgt := 2681) hx hb dL_law_2666 (by decide) (by omega) (fun c9 => absurd hz6 c9) (fun _ => ?_)
    refine lv_aload_n hx hb dL_law_2669 rfl (lv_at hl 5 rfl) ?_
    refine zz_iconst hx hb dL_law_2670 ?_
    refine zz_lald hx hb hK hP 0 rfl (by decide) (by decide) dL_law_2671 ?_
    rw [zU_same]
    refine lv_iload hx hb dL_law_2672 (lv_at hl 0 rfl) ?_
    refine zz_i2l hx hb dL_law_2674 (by omega) ?_
    rw [hTV.2]
    refine zz_lcmp hx hb dL_law_2675 (by omega) (by omega) ?_
    rw [cmpZ_s]
    refine zz_if_eq (tgt := 2681) hx hb dL_law_2676 (by decide) (by decide) (fun _ => ?_) (fun c9 => absurd rfl c9)
    refine lv_goto (tgt := 2917) hx hb dL_law_2681 (by decide) ?_
    refine W.widen (k := k9 + 20) (n := n9 + 200) (by omega) (by omega) ?_
    exact kk v shrt grp seen tp shr need ordr size pos cmd vals (zU txt len (chZ (xz xs (i + 1)))) (len + 1) hc hn hs bt sv hsv mal fai lnb lml lct ms mbef msav misv mpast mpm y_mthr mways mnds mtkp mline mlm y_mtxt y_mlen mat mwr merr mfail mcmd mcm (zU og 0 zc) dg _ _ _ hI2 hP hD hS (lv_sub hl [2, 3, 4, 5, 6, 7] rfl)
  · obtain ⟨kx, rfl⟩ : ∃ q, q = u := ⟨_, rfl⟩
    have kq : (kx = 2 ∧ ¬ (32 ≤ (chZ (xz xs (i + 1))) ∧ (chZ (xz xs (i + 1))) ≤ 126)) ∨ (kx = 3 ∧ (32 ≤ (chZ (xz xs (i + 1))) ∧ (chZ (xz xs (i + 1))) ≤ 126) ∧ 60 ≤ len) := hq.1
    have kc : (kx = 2 ∧ z6 = 1) ∨ (kx = 3 ∧ z6 = 2) := hq.2
    have hP : va_P D vwCl ([xOut tA o og, xOud tA od dg, xMod tA am ms mbef msav misv mpast mpm mthr mways mnds mtkp mline mlm mtxt mlen mat mwr merr mfail mcmd mcm, xObj ad hsv mal fai, xOff tA ad v shrt grp seen tp shr need ordr size, xScr tA K ad pos cmd vals txt len, xHis tA ad hc hn hs, xBef tA ad bt, xSav tA ad sv, xLin tA ad lnb lml lct]).flatten H := hP
    have hD : va_D (lwA s) ([xOut tA o og, xOud tA od dg, xMod tA am ms mbef msav misv mpast mpm mthr mways mnds mtkp mline mlm mtxt mlen mat mwr merr mfail mcmd mcm, xObj ad hsv mal fai, xOff tA ad v shrt grp seen tp shr need ordr size, xScr tA K ad pos cmd vals txt len, xHis tA ad hc hn hs, xBef tA ad bt, xSav tA ad sv, xLin tA ad lnb lml lct]).flatten := hD
    refine lv_istore (lv' := [(6, .int (iI z6)), (0, .ref b), (1, .ref (ad 0)), (2, .ref (am 0)), (3, .ref o), (4, .ref od), (5, .int (iI i))]) hx hb dL_law_2638 hl (by decide) rfl (fun ls hl => ?_)
    refine lv_aload_n hx hb dL_law_2640 rfl (lv_at hl 3 rfl) ?_
    refine lv_aload_n hx hb dL_law_2641 rfl (lv_at hl 1 rfl) ?_
    refine lv_iload hx hb dL_law_2642 (lv_at hl 6 rfl) ?_
    refine zz_iconst hx hb dL_law_2644 ?_
    refine zz_iadd hx hb dL_law_2645 ?_
    refine zz_sld hx hb hX hbl hbA hS (k := i + 1) (by omega) hL dL_law_2646 ?_
    refine zz_i2cx hx hb dL_law_2647 ?_
    refine zz_callVi_ch (As := [.int (iI (chZ (xz xs (i + 1))))]) (rest := []) (L := [xOut tA o og, xOud tA od dg, xMod tA am ms mbef msav misv mpast mpm mthr mways mnds mtkp mline mlm mtxt mlen mat mwr merr mfail mcmd mcm, xObj ad hsv mal fai, xOff tA ad v shrt grp seen tp shr need ordr size, xScr tA K ad pos cmd vals txt len, xHis tA ad hc hn hs, xBef tA ad bt, xSav tA ad sv, xLin tA ad lnb lml lct]) (Lc := [xMod tA am ms mbef msav misv mpast mpm mthr mways mnds mtkp mline mlm mtxt mlen mat mwr merr mfail mcmd mcm]) (Lr := [xOut tA o og, xOud tA od dg, xObj ad hsv mal fai, xOff tA ad v shrt grp seen tp shr need ordr size, xScr tA K ad pos cmd vals txt len, xHis tA ad hc hn hs, xBef tA ad bt, xSav tA ad sv, xLin tA ad lnb lml lct]) (Lc' := fun u => [xMod tA am ms mbef msav misv mpast mpm u.1 mways mnds mtkp mline mlm u.2.1 u.2.2 mat mwr merr mfail mcmd mcm]) (Lf := fun u => [xOut tA o og, xOud tA od dg, xMod tA am ms mbef msav misv mpast mpm u.1 mways mnds mtkp mline mlm u.2.1 u.2.2 mat mwr merr mfail mcmd mcm, xObj ad hsv mal fai, xOff tA ad v shrt grp seen tp shr need ordr size, xScr tA K ad pos cmd vals txt len, xHis tA ad hc hn hs, xBef tA ad bt, xSav tA ad sv, xLin tA ad lnb lml lct]) (is := [2, 0, 1, 3, 4, 5, 6, 7, 8, 9]) (isF := [0, 1, 9, 2, 3, 4, 5, 6, 7, 8]) ⟨hx, hb, hml, hown, hts⟩ (c_X11_type l D tA (am 0) (am 1) (am 2) (am 3) (am 4) (am 5) (am 6) (am 7) (am 8) (am 9) (am 10) H.size ms mbef msav misv mpast mpm mthr mways mnds mtkp mline mlm mtxt mlen mat mwr merr mfail mcmd mcm (chZ (xz xs (i + 1))) (by have h9 := chZ_in (xz xs (i + 1)); omega) (by omega) (chZ_in _)) (cwV 1 hts (gx_tbl gL_law_X11_type) rfl rfl rfl (by decide +kernel) ⟨Nat.le_of_ble_eq_true rfl, Nat.le_of_ble_eq_true rfl⟩) hK hP hD hS hA ⟨rfl, rfl, (by decide)⟩ ⟨fun _ => rfl, fun _ => rfl, (by decide)⟩ (ci := 13) (q0 := 0) rfl rfl rfl rfl rfl hl.1 (Nat.le_of_ble_eq_true rfl) dL_law_2648 (by show _ + 0 ≤ 603072 ∧ _ + 0 ≤ 7207018; omega) ?_
    intro zb u H locs hmq hP hD hS
    obtain ⟨y_mthr, y_mtxt, y_mlen⟩ := u
    have hP : va_P D vwCl ([xOut tA o og, xOud tA od dg, xMod tA am ms mbef msav misv mpast mpm y_mthr mways mnds mtkp mline mlm y_mtxt y_mlen mat mwr merr mfail mcmd mcm, xObj ad hsv mal fai, xOff tA ad v shrt grp seen tp shr need ordr size, xScr tA K ad pos cmd vals txt len, xHis tA ad hc hn hs, xBef tA ad bt, xSav tA ad sv, xLin tA ad lnb lml lct]).flatten H := hP
    have hD : va_D (lwA s) ([xOut tA o og, xOud tA od dg, xMod tA am ms mbef msav misv mpast mpm y_mthr mways mnds mtkp mline mlm y_mtxt y_mlen mat mwr merr mfail mcmd mcm, xObj ad hsv mal fai, xOff tA ad v shrt grp seen tp shr need ordr size, xScr tA K ad pos cmd vals txt len, xHis tA ad hc hn hs, xBef tA ad bt, xSav tA ad sv, xLin tA ad lnb lml lct]).flatten := hD
    have mq : (y_mthr = 1 ∧ ¬ (32 ≤ (chZ (xz xs (i + 1))) ∧ (chZ (xz xs (i + 1))) ≤ 126) ∧ y_mtxt = mtxt ∧ y_mlen = mlen) ∨ (y_mthr = 2 ∧ (32 ≤ (chZ (xz xs (i + 1))) ∧ (chZ (xz xs (i + 1))) ≤ 126) ∧ mlen = 60 ∧ y_mtxt = mtxt ∧ y_mlen = mlen) ∨ (y_mthr = 0 ∧ (32 ≤ (chZ (xz xs (i + 1))) ∧ (chZ (xz xs (i + 1))) ≤ 126) ∧ mlen < 60 ∧ y_mtxt = zU mtxt mlen (chZ (xz xs (i + 1))) ∧ y_mlen = mlen + 1 ∧ zb = mlen + 1) := hmq
    clear hmq
    refine lv_istore (lv' := [(7, .int (iI zb)), (6, .int (iI z6)), (0, .ref b), (1, .ref (ad 0)), (2, .ref (am 0)), (3, .ref o), (4, .ref od), (5, .int (iI i))]) hx hb dL_law_2651 hl (by decide) rfl (fun ls hl => ?_)
    have hT : y_mthr = z6 := by
      rw [hlen] at mq
      rcases mq with ⟨m0, m1, -, -⟩ | ⟨m0, m1, m2, -, -⟩ | ⟨m0, m1, m2, -, -, m3⟩
      · rcases kq with ⟨k1, -⟩ | ⟨-, k2, -⟩
        · omega
        · exact absurd k2 m1
      · rcases kq with ⟨-, k2⟩ | ⟨k1, -, -⟩
        · exact absurd m1 k2
        · omega
      · rcases kq with ⟨-, k2⟩ | ⟨k1, -, k3⟩
        · exact absurd m1 k2
        · exfalso; omega
    have hI2 : LInv (n + 1) v hs sv pos cmd vals txt len hc hn hsv mal fai lnb lct ms msav misv mpast mpm mline mlm y_mtxt y_mlen merr mfail mcmd := by
      rcases mq with ⟨m0, m1, m2, m3⟩ | ⟨m0, m1, -, m2, m3⟩ | ⟨m0, -⟩
      · rw [m2, m3]
        exact LI_q hn9 hI
      · rw [m2, m3]
        exact LI_q hn9 hI
      · exfalso; omega
    refine lv_aload_n hx hb dL_law_2653 rfl (lv_at hl 4 rfl) ?_
    refine zz_callVi_ch (As := []) (rest := []) (L := [xOut tA o og, xOud tA od dg, xMod tA am ms mbef msav misv mpast mpm y_mthr mways mnds mtkp mline mlm y_mtxt y_mlen mat mwr merr mfail mcmd mcm, xObj ad hsv mal fai, xOff tA ad v shrt grp seen tp shr need ordr size, xScr tA K ad pos cmd vals txt len, xHis tA ad hc hn hs, xBef tA ad bt, xSav tA ad sv, xLin tA ad lnb lml lct]) (Lc := [xMod tA am ms mbef msav misv mpast mpm y_mthr mways mnds mtkp mline mlm y_mtxt y_mlen mat mwr merr mfail mcmd mcm]) (Lr := [xOut tA o og, xOud tA od dg, xObj ad hsv mal fai, xOff tA ad v shrt grp seen tp shr need ordr size, xScr tA K ad pos cmd vals txt len, xHis tA ad hc hn hs, xBef tA ad bt, xSav tA ad sv, xLin tA ad lnb lml lct]) (Lc' := fun u => [xMod tA am ms mbef msav misv mpast mpm y_mthr mways mnds mtkp mline mlm y_mtxt y_mlen mat mwr merr mfail mcmd mcm]) (Lf := fun u => [xOut tA o og, xOud tA od dg, xMod tA am ms mbef msav misv mpast mpm y_mthr mways mnds mtkp mline mlm y_mtxt y_mlen mat mwr merr mfail mcmd mcm, xObj ad hsv mal fai, xOff tA ad v shrt grp seen tp shr need ordr size, xScr tA K ad pos cmd vals txt len, xHis tA ad hc hn hs, xBef tA ad bt, xSav tA ad sv, xLin tA ad lnb lml lct]) (is := [2, 0, 1, 3, 4, 5, 6, 7, 8, 9]) (isF := [0, 1, 9, 2, 3, 4, 5, 6, 7, 8]) ⟨hx, hb, hml, hown, hts⟩ (c_X11_thrown l D tA (am 0) (am 1) (am 2) (am 3) (am 4) (am 5) (am 6) (am 7) (am 8) (am 9) (am 10) H.size ms mbef msav misv mpast mpm y_mthr mways mnds mtkp mline mlm y_mtxt y_mlen mat mwr merr mfail mcmd mcm) (cwV 0 hts (gx_tbl gL_law_X11_thrown) rfl rfl rfl (by decide +kernel) ⟨Nat.le_of_ble_eq_true rfl, Nat.le_of_ble_eq_true rfl⟩) hK hP hD hS hA ⟨rfl, rfl, (by decide)⟩ ⟨fun _ => rfl, fun _ => rfl, (by decide)⟩ (ci := 13) (q0 := 0) rfl rfl rfl rfl rfl hl.1 (Nat.le_of_ble_eq_true rfl) dL_law_2654 (by show _ + 0 ≤ 603072 ∧ _ + 0 ≤ 7207018; omega) ?_
    intro zt u H locs hzt hP hD hS
    have hP : va_P D vwCl ([xOut tA o og, xOud tA od dg, xMod tA am ms mbef msav misv mpast mpm y_mthr mways mnds mtkp mline mlm y_mtxt y_mlen mat mwr merr mfail mcmd mcm, xObj ad hsv mal fai, xOff tA ad v shrt grp seen tp shr need ordr size, xScr tA K ad pos cmd vals txt len, xHis tA ad hc hn hs, xBef tA ad bt, xSav tA ad sv, xLin tA ad lnb lml lct]).flatten H := hP
    have hD : va_D (lwA s) ([xOut tA o og, xOud tA od dg, xMod tA am ms mbef msav misv mpast mpm y_mthr mways mnds mtkp mline mlm y_mtxt y_mlen mat mwr merr mfail mcmd mcm, xObj ad hsv mal fai, xOff tA ad v shrt grp seen tp shr need ordr size, xScr tA K ad pos cmd vals txt len, xHis tA ad hc hn hs, xBef tA ad bt, xSav tA ad sv, xLin tA ad lnb lml lct]).flatten := hD
    have hzt : zt = y_mthr := hzt
    have hz69 : 0 ≤ z6 ∧ z6 ≤ 9 := by omega
    refine lv_iload hx hb dL_law_2657 (lv_at hl 1 rfl) ?_
    refine zz_icmp_eq (tgt := 2664) hx hb dL_law_2659 (by decide) (by omega) (by omega) (fun _ => ?_) (fun c9 => absurd (by omega) c9)
    refine lv_iload hx hb dL_law_2664 (lv_at hl 1 rfl) ?_
    refine zz_if_ne (tgt := 2681) hx hb dL_law_2666 (by decide) (by omega) (fun _ => ?_) (fun c9 => absurd c9 (by omega))
    refine lv_goto (tgt := 2917) hx hb dL_law_2681 (by decide) ?_
    refine W.widen (k := k9 + 20) (n := n9 + 200) (by omega) (by omega) ?_
    exact kk v shrt grp seen tp shr need ordr size pos cmd vals txt len hc hn hs bt sv hsv mal fai lnb lml lct ms mbef msav misv mpast mpm y_mthr mways mnds mtkp mline mlm y_mtxt y_mlen mat mwr merr mfail mcmd mcm og dg _ _ _ hI2 hP hD hS (lv_sub hl [2, 3, 4, 5, 6, 7] rfl)
