/-! ===== the law: its loop ===== -/
theorem law_end {p : Program} {l : Launch} {e : Env} {s : State} {m : MethodId} {below : List Frame} {meth : Method} {c : Code} {b L : Nat} {xs : Nat → Int32} (C0 : lw_At p s m meth c b L xs) {H : Heap} {locs : List Loc} {ls : Array Slot} {k9 n9 : Nat} (hk9 : k9 ≤ 603072 ∧ n9 ≤ 7207018) (hS : va_S (lwA s) s.heap H locs) : W p l e room_1 s m #[Value.ref b] below meth c H locs k9 n9 (lw_Z below #[Value.ref b] s) (F0 m 2923 ls []) := by
  obtain ⟨hx, hb, hrt, hml, hown, hts, hX, hbl, hlocks, hgv⟩ := id C0
  refine lv_iconst (v := 1) hx hb dL_law_2923 (by decide) ?_
  refine va_forget (fun q hq => hS.2.2 q hq) ?_
  refine W.widen (k := 603072) (n := 7207018) hk9.1 hk9.2 ?_
  refine W.base ?_
  exact lw_ret (Drawn.sameBut.refl s.drawn lw_cs) hx hb hrt hlocks dL_law_2924
set_option maxHeartbeats 8000000 in
set_option maxRecDepth 100000 in
theorem law_loop {p : Program} {l : Launch} (hst : l.stackTraces = false) {e : Env} {s : State} {m : MethodId} {below : List Frame} {meth : Method} {c : Code} {D : va_G} {tA : Nat → ClassId} {K : Nat → Nat} {b L : Nat} {xs : Nat → Int32} (hL : L ≤ 2560) (C0 : lw_At p s m meth c b L xs) (hK : zK D tA s) (hZ : zT K (lwA s) s) {ad am : Nat → Nat} {o od : Nat} : ∀ (f j : Nat), j ≤ 512 → 513 ≤ j + f → ∀ (v : Nat → Int → Int) (shrt : Int → Int) (grp : Int → Int) (seen : Int → Int) (tp : Int → Int) (shr : Int → Int) (need : Int → Int) (ordr : Int → Int) (size : Int) (pos : Int) (cmd : Int) (vals : Int → Int) (txt : Int → Int) (len : Int) (hc : Int) (hn : Int) (hs : Nat → Nat → Int → Int) (bt : Nat → Int → Int) (sv : Nat → Int → Int) (hsv : Int) (mal : Int) (fai : Int) (lnb : Int → Int) (lml : Int) (lct : Int) (ms : Int → Int) (mbef : Int → Int) (msav : Int → Int) (misv : Int) (mpast : Int → Int) (mpm : Int) (mthr : Int) (mways : Int → Int) (mnds : Int → Int) (mtkp : Int → Int) (mline : Int → Int) (mlm : Int) (mtxt : Int → Int) (mlen : Int) (mat : Int) (mwr : Int) (merr : Int) (mfail : Int) (mcmd : Int → Int) (mcm : Int) (og : Int → Int) (dg : Nat → UInt64) (H : Heap) (locs : List Loc) (ls : Array Slot), LInv (j : Int) v hs sv pos cmd vals txt len hc hn hsv mal fai lnb lct ms msav misv mpast mpm mline mlm mtxt mlen merr mfail mcmd → va_P D vwCl (xW tA K ad am o od v shrt grp seen tp shr need ordr size pos cmd vals txt len hc hn hs bt sv hsv mal fai lnb lml lct ms mbef msav misv mpast mpm mthr mways mnds mtkp mline mlm mtxt mlen mat mwr merr mfail mcmd mcm og dg).flatten H → va_D (lwA s) (xW tA K ad am o od v shrt grp seen tp shr need ordr size pos cmd vals txt len hc hn hs bt sv hsv mal fai lnb lml lct ms mbef msav misv mpast mpm mthr mways mnds mtkp mline mlm mtxt mlen mat mwr merr mfail mcmd mcm og dg).flatten → va_S (lwA s) s.heap H locs → lv_has ls 9 [(0, .ref b), (1, .ref (ad 0)), (2, .ref (am 0)), (3, .ref o), (4, .ref od), (5, .int (iI (5 * (j : Int))))] → W p l e room_1 s m #[Value.ref b] below meth c H locs (1000 + 20 * j) (20000 + 200 * j) (lw_Z below #[Value.ref b] s) (F0 m 28 ls []) := by
  obtain ⟨hx, hb, hrt, hml, hown, hts, hX, hbl, hlocks, hgv⟩ := id C0
  have hbA : ¬ lwA s b := Nat.not_le.mpr hbl
  intro f
  induction f with
  | zero => intro j h1 h2; exact absurd h2 (by omega)
  | succ f ih =>
    intro j h1 h2 v shrt grp seen tp shr need ordr size pos cmd vals txt len hc hn hs bt sv hsv mal fai lnb lml lct ms mbef msav misv mpast mpm mthr mways mnds mtkp mline mlm mtxt mlen mat mwr merr mfail mcmd mcm og dg H locs ls hI hP hD hS hl
    refine lv_iload hx hb dL_law_28 (lv_at hl 5 rfl) ?_
    refine lv_aload_n hx hb dL_law_30 rfl (lv_at hl 0 rfl) ?_
    refine zz_slen hx hb hX hbl hbA hS dL_law_31 ?_
    refine zz_iconst hx hb dL_law_32 ?_
    refine zz_isub hx hb dL_law_33 ?_
    refine zz_icmp_gt (tgt := 2923) hx hb dL_law_34 (by decide) (by omega) (by omega) (fun c9 => ?_) (fun c9 => ?_)
    · exact law_end C0 (by omega) hS
    · have hi : 0 ≤ 5 * (j : Int) ∧ 5 * (j : Int) + 5 ≤ L := by omega
      have hj : j ≤ 511 := by omega
      have hn9 : (j : Int) < 600 := by omega
      have hk9 : 1000 + 20 * j + 20 ≤ 603072 ∧ 20000 + 200 * j + 200 ≤ 7207018 := by omega
      have kk : lwK p l e s m below meth c D tA K ad am o od b (5 * (j : Int)) (j : Int) (1000 + 20 * j) (20000 + 200 * j) := by
        intro v shrt grp seen tp shr need ordr size pos cmd vals txt len hc hn hs bt sv hsv mal fai lnb lml lct ms mbef msav misv mpast mpm mthr mways mnds mtkp mline mlm mtxt mlen mat mwr merr mfail mcmd mcm og dg H locs ls hI hP hD hS hl
        refine zz_iinc (lv' := [(5, .int (iI (5 * (j : Int) + 5))), (0, .ref b), (1, .ref (ad 0)), (2, .ref (am 0)), (3, .ref o), (4, .ref od)]) hx hb dL_law_2917 hl (k := 5) rfl (by decide) rfl (fun ls hl => ?_)
        refine lv_goto (tgt := 28) hx hb dL_law_2920 (by decide) ?_
        have hl := lv_sub hl [1, 2, 3, 4, 5, 0] rfl
        have hl : lv_has ls 9 [(0, .ref b), (1, .ref (ad 0)), (2, .ref (am 0)), (3, .ref o), (4, .ref od), (5, .int (iI (5 * (j : Int) + 5)))] := hl
        rw [show 5 * (j : Int) + 5 = 5 * ((j + 1 : Nat) : Int) by omega] at hl
        rw [show (j : Int) + 1 = ((j + 1 : Nat) : Int) by omega] at hI
        have r := ih (j + 1) (by omega) (by omega) v shrt grp seen tp shr need ordr size pos cmd vals txt len hc hn hs bt sv hsv mal fai lnb lml lct ms mbef msav misv mpast mpm mthr mways mnds mtkp mline mlm mtxt mlen mat mwr merr mfail mcmd mcm og dg H locs ls hI hP hD hS hl
        rw [show 1000 + 20 * (j + 1) = 1000 + 20 * j + 20 by omega, show 20000 + 200 * (j + 1) = 20000 + 200 * j + 200 by omega] at r
        exact r
      refine lv_aload_n hx hb dL_law_37 rfl (lv_at hl 0 rfl) ?_
      refine lv_iload hx hb dL_law_38 (lv_at hl 5 rfl) ?_
      refine zz_sld hx hb hX hbl hbA hS (k := 5 * (j : Int)) (by omega) hL dL_law_40 ?_
      refine zz_bipush hx hb dL_law_41 rfl ?_
      refine zz_and63 hx hb dL_law_43 (fun w w0 w1 => ?_)
      by_cases q0 : w = 0
      · subst q0
        refine zz_tabIn (tgt := 276) (off := 232) hx hb dL_law_44 (by decide) rfl (by decide) ?_
        exact law_c0 hst hL C0 hK hZ hi hn9 hk9 hI hP hD hS hl kk
      by_cases q1 : w = 1
      · subst q1
        refine zz_tabIn (tgt := 320) (off := 276) hx hb dL_law_44 (by decide) rfl (by decide) ?_
        exact law_c1 hst hL C0 hK hZ hi hn9 hk9 hI hP hD hS hl kk
      by_cases q2 : w = 2
      · subst q2
        refine zz_tabIn (tgt := 412) (off := 368) hx hb dL_law_44 (by decide) rfl (by decide) ?_
        exact law_c2 hst hL C0 hK hZ hi hn9 hk9 hI hP hD hS hl kk
      by_cases q3 : w = 3
      · subst q3
        refine zz_tabIn (tgt := 480) (off := 436) hx hb dL_law_44 (by decide) rfl (by decide) ?_
        exact law_c3 hst hL C0 hK hZ hi hn9 hk9 hI hP hD hS hl kk
      by_cases q4 : w = 4
      · subst q4
        refine zz_tabIn (tgt := 493) (off := 449) hx hb dL_law_44 (by decide) rfl (by decide) ?_
        exact law_c4 hst hL C0 hK hZ hi hn9 hk9 hI hP hD hS hl kk
      by_cases q5 : w = 5
      · subst q5
        refine zz_tabIn (tgt := 506) (off := 462) hx hb dL_law_44 (by decide) rfl (by decide) ?_
        exact law_c5 hst hL C0 hK hZ hi hn9 hk9 hI hP hD hS hl kk
      by_cases q6 : w = 6
      · subst q6
        refine zz_tabIn (tgt := 581) (off := 537) hx hb dL_law_44 (by decide) rfl (by decide) ?_
        exact law_c6 hst hL C0 hK hZ hi hn9 hk9 hI hP hD hS hl kk
      by_cases q7 : w = 7
      · subst q7
        refine zz_tabIn (tgt := 649) (off := 605) hx hb dL_law_44 (by decide) rfl (by decide) ?_
        exact law_c7 hst hL C0 hK hZ hi hn9 hk9 hI hP hD hS hl kk
      by_cases q8 : w = 8
      · subst q8
        refine zz_tabIn (tgt := 717) (off := 673) hx hb dL_law_44 (by decide) rfl (by decide) ?_
        exact law_c8 hst hL C0 hK hZ hi hn9 hk9 hI hP hD hS hl kk
      by_cases q9 : w = 9
      · subst q9
        refine zz_tabIn (tgt := 785) (off := 741) hx hb dL_law_44 (by decide) rfl (by decide) ?_
        exact law_c9 hst hL C0 hK hZ hi hn9 hk9 hI hP hD hS hl kk
      by_cases q10 : w = 10
      · subst q10
        refine zz_tabIn (tgt := 860) (off := 816) hx hb dL_law_44 (by decide) rfl (by decide) ?_
        exact law_c10 hst hL C0 hK hZ hi hn9 hk9 hI hP hD hS hl kk
      by_cases q11 : w = 11
      · subst q11
        refine zz_tabIn (tgt := 916) (off := 872) hx hb dL_law_44 (by decide) rfl (by decide) ?_
        exact law_c11 hst hL C0 hK hZ hi hn9 hk9 hI hP hD hS hl kk
      by_cases q12 : w = 12
      · subst q12
        refine zz_tabIn (tgt := 972) (off := 928) hx hb dL_law_44 (by decide) rfl (by decide) ?_
        exact law_c12 hst hL C0 hK hZ hi hn9 hk9 hI hP hD hS hl kk
      by_cases q13 : w = 13
      · subst q13
        refine zz_tabIn (tgt := 1040) (off := 996) hx hb dL_law_44 (by decide) rfl (by decide) ?_
        exact law_c13 hst hL C0 hK hZ hi hn9 hk9 hI hP hD hS hl kk
      by_cases q14 : w = 14
      · subst q14
        refine zz_tabIn (tgt := 1108) (off := 1064) hx hb dL_law_44 (by decide) rfl (by decide) ?_
        exact law_c14 hst hL C0 hK hZ hi hn9 hk9 hI hP hD hS hl kk
      by_cases q15 : w = 15
      · subst q15
        refine zz_tabIn (tgt := 1176) (off := 1132) hx hb dL_law_44 (by decide) rfl (by decide) ?_
        exact law_c15 hst hL C0 hK hZ hi hn9 hk9 hI hP hD hS hl kk
      by_cases q16 : w = 16
      · subst q16
        refine zz_tabIn (tgt := 1244) (off := 1200) hx hb dL_law_44 (by decide) rfl (by decide) ?_
        exact law_c16 hst hL C0 hK hZ hi hn9 hk9 hI hP hD hS hl kk
      by_cases q17 : w = 17
      · subst q17
        refine zz_tabIn (tgt := 1312) (off := 1268) hx hb dL_law_44 (by decide) rfl (by decide) ?_
        exact law_c17 hst hL C0 hK hZ hi hn9 hk9 hI hP hD hS hl kk
      by_cases q18 : w = 18
      · subst q18
        refine zz_tabIn (tgt := 1325) (off := 1281) hx hb dL_law_44 (by decide) rfl (by decide) ?_
        exact law_c18 hst hL C0 hK hZ hi hn9 hk9 hI hP hD hS hl kk
      by_cases q19 : w = 19
      · subst q19
        refine zz_tabIn (tgt := 1405) (off := 1361) hx hb dL_law_44 (by decide) rfl (by decide) ?_
        exact law_c19 hst hL C0 hK hZ hi hn9 hk9 hI hP hD hS hl kk
      by_cases q20 : w = 20
      · subst q20
        refine zz_tabIn (tgt := 1461) (off := 1417) hx hb dL_law_44 (by decide) rfl (by decide) ?_
        exact law_c20 hst hL C0 hK hZ hi hn9 hk9 hI hP hD hS hl kk
      by_cases q21 : w = 21
      · subst q21
        refine zz_tabIn (tgt := 1529) (off := 1485) hx hb dL_law_44 (by decide) rfl (by decide) ?_
        exact law_c21 hst hL C0 hK hZ hi hn9 hk9 hI hP hD hS hl kk
      by_cases q22 : w = 22
      · subst q22
        refine zz_tabIn (tgt := 1542) (off := 1498) hx hb dL_law_44 (by decide) rfl (by decide) ?_
        exact law_c22 hst hL C0 hK hZ hi hn9 hk9 hI hP hD hS hl kk
      by_cases q23 : w = 23
      · subst q23
        refine zz_tabIn (tgt := 1598) (off := 1554) hx hb dL_law_44 (by decide) rfl (by decide) ?_
        exact law_c23 hst hL C0 hK hZ hi hn9 hk9 hI hP hD hS hl kk
      by_cases q24 : w = 24
      · subst q24
        refine zz_tabIn (tgt := 1654) (off := 1610) hx hb dL_law_44 (by decide) rfl (by decide) ?_
        exact law_c24 hst hL C0 hK hZ hi hn9 hk9 hI hP hD hS hl kk
      by_cases q25 : w = 25
      · subst q25
        refine zz_tabIn (tgt := 1710) (off := 1666) hx hb dL_law_44 (by decide) rfl (by decide) ?_
        exact law_c25 hst hL C0 hK hZ hi hn9 hk9 hI hP hD hS hl kk
      by_cases q26 : w = 26
      · subst q26
        refine zz_tabIn (tgt := 1766) (off := 1722) hx hb dL_law_44 (by decide) rfl (by decide) ?_
        exact law_c26 hst hL C0 hK hZ hi hn9 hk9 hI hP hD hS hl kk
      by_cases q27 : w = 27
      · subst q27
        refine zz_tabIn (tgt := 1822) (off := 1778) hx hb dL_law_44 (by decide) rfl (by decide) ?_
        exact law_c27 hst hL C0 hK hZ hi hn9 hk9 hI hP hD hS hl kk
      by_cases q28 : w = 28
      · subst q28
        refine zz_tabIn (tgt := 1878) (off := 1834) hx hb dL_law_44 (by decide) rfl (by decide) ?_
        exact law_c28 hst hL C0 hK hZ hi hn9 hk9 hI hP hD hS hl kk
      by_cases q29 : w = 29
      · subst q29
        refine zz_tabIn (tgt := 1934) (off := 1890) hx hb dL_law_44 (by decide) rfl (by decide) ?_
        exact law_c29 hst hL C0 hK hZ hi hn9 hk9 hI hP hD hS hl kk
      by_cases q30 : w = 30
      · subst q30
        refine zz_tabIn (tgt := 1990) (off := 1946) hx hb dL_law_44 (by decide) rfl (by decide) ?_
        exact law_c30 hst hL C0 hK hZ hi hn9 hk9 hI hP hD hS hl kk
      by_cases q31 : w = 31
      · subst q31
        refine zz_tabIn (tgt := 2046) (off := 2002) hx hb dL_law_44 (by decide) rfl (by decide) ?_
        exact law_c31 hst hL C0 hK hZ hi hn9 hk9 hI hP hD hS hl kk
      by_cases q32 : w = 32
      · subst q32
        refine zz_tabIn (tgt := 2102) (off := 2058) hx hb dL_law_44 (by decide) rfl (by decide) ?_
        exact law_c32 hst hL C0 hK hZ hi hn9 hk9 hI hP hD hS hl kk
      by_cases q33 : w = 33
      · subst q33
        refine zz_tabIn (tgt := 2115) (off := 2071) hx hb dL_law_44 (by decide) rfl (by decide) ?_
        exact law_c33 hst hL C0 hK hZ hi hn9 hk9 hI hP hD hS hl kk
      by_cases q34 : w = 34
      · subst q34
        refine zz_tabIn (tgt := 2128) (off := 2084) hx hb dL_law_44 (by decide) rfl (by decide) ?_
        exact law_c34 hst hL C0 hK hZ hi hn9 hk9 hI hP hD hS hl kk
      by_cases q35 : w = 35
      · subst q35
        refine zz_tabIn (tgt := 2191) (off := 2147) hx hb dL_law_44 (by decide) rfl (by decide) ?_
        exact law_c35 hst hL C0 hK hZ hi hn9 hk9 hI hP hD hS hl kk
      by_cases q36 : w = 36
      · subst q36
        refine zz_tabIn (tgt := 2204) (off := 2160) hx hb dL_law_44 (by decide) rfl (by decide) ?_
        exact law_c36 hst hL C0 hK hZ hi hn9 hk9 hI hP hD hS hl kk
      by_cases q37 : w = 37
      · subst q37
        refine zz_tabIn (tgt := 2217) (off := 2173) hx hb dL_law_44 (by decide) rfl (by decide) ?_
        exact law_c37 hst hL C0 hK hZ hi hn9 hk9 hI hP hD hS hl kk
      by_cases q38 : w = 38
      · subst q38
        refine zz_tabIn (tgt := 2230) (off := 2186) hx hb dL_law_44 (by decide) rfl (by decide) ?_
        exact law_c38 hst hL C0 hK hZ hi hn9 hk9 hI hP hD hS hl kk
      by_cases q39 : w = 39
      · subst q39
        refine zz_tabIn (tgt := 2286) (off := 2242) hx hb dL_law_44 (by decide) rfl (by decide) ?_
        exact law_c39 hst hL C0 hK hZ hi hn9 hk9 hI hP hD hS hl kk
      by_cases q40 : w = 40
      · subst q40
        refine zz_tabIn (tgt := 2300) (off := 2256) hx hb dL_law_44 (by decide) rfl (by decide) ?_
        exact law_c40 hst hL C0 hK hZ hi hn9 hk9 hI hP hD hS hl kk
      by_cases q41 : w = 41
      · subst q41
        refine zz_tabIn (tgt := 2314) (off := 2270) hx hb dL_law_44 (by decide) rfl (by decide) ?_
        exact law_c41 hst hL C0 hK hZ hi hn9 hk9 hI hP hD hS hl kk
      by_cases q42 : w = 42
      · subst q42
        refine zz_tabIn (tgt := 2379) (off := 2335) hx hb dL_law_44 (by decide) rfl (by decide) ?_
        exact law_c42 hst hL C0 hK hZ hi hn9 hk9 hI hP hD hS hl kk
      by_cases q43 : w = 43
      · subst q43
        refine zz_tabIn (tgt := 2445) (off := 2401) hx hb dL_law_44 (by decide) rfl (by decide) ?_
        exact law_c43 hst hL C0 hK hZ hi hn9 hk9 hI hP hD hS hl kk
      by_cases q44 : w = 44
      · subst q44
        refine zz_tabIn (tgt := 2501) (off := 2457) hx hb dL_law_44 (by decide) rfl (by decide) ?_
        exact law_c44 hst hL C0 hK hZ hi hn9 hk9 hI hP hD hS hl kk
      by_cases q45 : w = 45
      · subst q45
        refine zz_tabIn (tgt := 2557) (off := 2513) hx hb dL_law_44 (by decide) rfl (by decide) ?_
        exact law_c45 hst hL C0 hK hZ hi hn9 hk9 hI hP hD hS hl kk
      by_cases q46 : w = 46
      · subst q46
        refine zz_tabIn (tgt := 2613) (off := 2569) hx hb dL_law_44 (by decide) rfl (by decide) ?_
        exact law_c46 hst hL C0 hK hZ hi hn9 hk9 hI hP hD hS hl kk
      by_cases q47 : w = 47
      · subst q47
        refine zz_tabIn (tgt := 2626) (off := 2582) hx hb dL_law_44 (by decide) rfl (by decide) ?_
        exact law_c47 hst hL C0 hK hZ hi hn9 hk9 hI hP hD hS hl kk
      by_cases q48 : w = 48
      · subst q48
        refine zz_tabIn (tgt := 2684) (off := 2640) hx hb dL_law_44 (by decide) rfl (by decide) ?_
        exact law_c48 hst hL C0 hK hZ hi hn9 hk9 hI hP hD hS hl kk
      by_cases q49 : w = 49
      · subst q49
        refine zz_tabIn (tgt := 2728) (off := 2684) hx hb dL_law_44 (by decide) rfl (by decide) ?_
        exact law_c49 hst hL C0 hK hZ hi hn9 hk9 hI hP hD hS hl kk
      by_cases q50 : w = 50
      · subst q50
        refine zz_tabIn (tgt := 2772) (off := 2728) hx hb dL_law_44 (by decide) rfl (by decide) ?_
        exact law_c50 hst hL C0 hK hZ hi hn9 hk9 hI hP hD hS hl kk
      by_cases q51 : w = 51
      · subst q51
        refine zz_tabIn (tgt := 2816) (off := 2772) hx hb dL_law_44 (by decide) rfl (by decide) ?_
        exact law_c51 hst hL C0 hK hZ hi hn9 hk9 hI hP hD hS hl kk
      by_cases q52 : w = 52
      · subst q52
        refine zz_tabIn (tgt := 2860) (off := 2816) hx hb dL_law_44 (by decide) rfl (by decide) ?_
        exact law_c52 hst hL C0 hK hZ hi hn9 hk9 hI hP hD hS hl kk
      by_cases q53 : w = 53
      · subst q53
        refine zz_tabIn (tgt := 2873) (off := 2829) hx hb dL_law_44 (by decide) rfl (by decide) ?_
        exact law_c53 hst hL C0 hK hZ hi hn9 hk9 hI hP hD hS hl kk
      refine zz_tabOut (tgt := 2917) hx hb dL_law_44 (by omega) (by decide) ?_
      refine W.widen (k := 1000 + 20 * j + 20) (n := 20000 + 200 * j + 200) (by omega) (by omega) ?_
      exact kk v shrt grp seen tp shr need ordr size pos cmd vals txt len hc hn hs bt sv hsv mal fai lnb lml lct ms mbef msav misv mpast mpm mthr mways mnds mtkp mline mlm mtxt mlen mat mwr merr mfail mcmd mcm og dg _ _ _ (LI_q hn9 hI) hP hD hS hl
