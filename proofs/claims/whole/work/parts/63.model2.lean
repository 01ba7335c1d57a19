/-! ===== HarborLightsModel, 2 ===== -/
set_option maxHeartbeats 4000000 in
set_option maxRecDepth 100000 in
theorem c_X11_finds (l : Launch) (D : va_G) (tA : Nat → ClassId) (a0 a1 a2 a3 a4 a5 a6 a7 a8 a9 a10 : Nat) (sz : Nat) (ms : Int → Int) (mbef : Int → Int) (msav : Int → Int) (misv : Int) (mpast : Int → Int) (mpm : Int) (mthr : Int) (mways : Int → Int) (mnds : Int → Int) (mtkp : Int → Int) (mline : Int → Int) (mlm : Int) (mtxt : Int → Int) (mlen : Int) (mat : Int) (mwr : Int) (merr : Int) (mfail : Int) (mcmd : Int → Int) (mcm : Int) (lit : Int) (r_lit : lit = 0 ∨ lit = 1) (hm : MV ms) : zMv l yX11_finds wsX11_finds ({ frames := 2, cells := 0, slots := 0, locals := 45 }) D tA [.ref a0, .int (iI lit)] (bModel tA a0 a1 a2 a3 a4 a5 a6 a7 a8 a9 a10 ms mbef msav misv mpast mpm mthr mways mnds mtkp mline mlm mtxt mlen mat mwr merr mfail mcmd mcm) sz (fun (u : (Int → Int)) => (∀ a b, 0 ≤ a → a < 10 → 0 ≤ b → b < 10 → wayP (egM ms (rgM ms lit)) a b (u (10 * a + b)))) (fun (u : (Int → Int)) => bModel tA a0 a1 a2 a3 a4 a5 a6 a7 a8 a9 a10 ms mbef msav misv mpast mpm mthr u mnds mtkp mline mlm mtxt mlen mat mwr merr mfail mcmd mcm) 0 0 := by
  refine zMv_of (cc := cX11_finds) (maxL := 6) (by decide) rfl (Nat.le_of_ble_eq_true rfl) ?_
  intro p e s m args below meth c A Q ls hx hb hml hts hown hK hP hD hA hret hl
  obtain ⟨H, hHe⟩ : ∃ H : Heap, H = s.heap := ⟨_, rfl⟩
  have hS : va_S A s.heap H [] := by rw [hHe]; exact va_S.rf
  rw [← hHe] at hP ⊢
  have hl : lv_has ls 6 [(0, .ref a0), (1, .int (iI lit))] := hl
  have iX11 : ∀ v ∈ wsX110, v ∈ wsX11_finds := by decide +kernel
  have f_22 := hts (.fieldLink RX11 22 "HarborLightsModel" "ways" "[I") (by decide +kernel)
  have l_119 := hts (.methodLink RX11 119 Lib.Math.min.name) (by decide +kernel)
  have ls_119 := hts (.static Lib.Math.min.name) (by decide +kernel)
  have lc_119 := hts (.code Lib.Math.min.name Lib.Math.min.code 2 (some .int)) (by decide +kernel)
  have li_119 := hts (.initialized "java/lang/Math") (by decide +kernel)
  obtain ⟨⟨mp0, mp1, mc0, mc1, mf0, mf1, mr0, mr1⟩, hlr, mL, mS⟩ := id hm
  have hE := egM_ok mL (rgM ms lit)
  refine zz_iconst hx hb dX11_finds_0 ?_
  refine lv_istore_n (lv' := [(2, .int (iI 0)), (0, .ref a0), (1, .int (iI lit))]) hx hb dX11_finds_1 rfl hl (by decide) rfl (fun ls hl => ?_)
  have L2 : ∀ (n : Nat) (pl : Int) (w9 : Int → Int) (H : Heap) (locs : List Loc) (ls : Array Slot), (0 ≤ pl ∧ pl ≤ 100) → (∀ j, 0 ≤ j → j < pl → FlIp (egM ms (rgM ms lit)) j (w9 j)) → (100 - pl).toNat < n → va_P D vwCl (bModel tA a0 a1 a2 a3 a4 a5 a6 a7 a8 a9 a10 ms mbef msav misv mpast mpm mthr w9 mnds mtkp mline mlm mtxt mlen mat mwr merr mfail mcmd mcm) H → va_D A (bModel tA a0 a1 a2 a3 a4 a5 a6 a7 a8 a9 a10 ms mbef msav misv mpast mpm mthr w9 mnds mtkp mline mlm mtxt mlen mat mwr merr mfail mcmd mcm) → va_S A s.heap H locs → lv_has ls 6 [(2, .int (iI pl)), (0, .ref a0), (1, .int (iI lit))] → W p l e (headSpec wsX11_finds ({ frames := 2, cells := 0, slots := 0, locals := 45 })).room s m args below meth c H locs 0 0 Q (F0 m 2 ls []) := by
    intro n
    induction n with
    | zero => intro pl w9 H locs ls i0 i1 hmz; exact absurd hmz (Nat.not_lt_zero _)
    | succ n ih2 =>
      intro pl w9 H locs ls i0 i1 hmz hP hD hS hl
      refine lv_iload_n hx hb dX11_finds_2 rfl (lv_at hl 0 rfl) ?_
      refine zz_bipush hx hb dX11_finds_3 (by decide) ?_
      refine zz_icmp_ge (tgt := 91) hx hb dX11_finds_5 (by decide) (by omega) (by decide) (fun c_5 => ?_) (fun c_5 => ?_)
      · refine zz_iconst hx hb dX11_finds_91 ?_
        refine lv_istore_n (lv' := [(2, .int (iI 0)), (0, .ref a0), (1, .int (iI lit))]) hx hb dX11_finds_92 rfl hl (by decide) rfl (fun ls hl => ?_)
        have L93 : ∀ (n : Nat) (by1 : Int) (w8 : Int → Int) (H : Heap) (locs : List Loc) (ls : Array Slot), (0 ≤ by1 ∧ by1 ≤ 10) → (FlT iadd (PW (egM ms (rgM ms lit))) w9 by1 w8) → (10 - by1).toNat < n → va_P D vwCl (bModel tA a0 a1 a2 a3 a4 a5 a6 a7 a8 a9 a10 ms mbef msav misv mpast mpm mthr w8 mnds mtkp mline mlm mtxt mlen mat mwr merr mfail mcmd mcm) H → va_D A (bModel tA a0 a1 a2 a3 a4 a5 a6 a7 a8 a9 a10 ms mbef msav misv mpast mpm mthr w8 mnds mtkp mline mlm mtxt mlen mat mwr merr mfail mcmd mcm) → va_S A s.heap H locs → lv_has ls 6 [(2, .int (iI by1)), (0, .ref a0), (1, .int (iI lit))] → W p l e (headSpec wsX11_finds ({ frames := 2, cells := 0, slots := 0, locals := 45 })).room s m args below meth c H locs 0 0 Q (F0 m 93 ls []) := by
          intro n
          induction n with
          | zero => intro by1 w8 H locs ls k0 k1 hmz; exact absurd hmz (Nat.not_lt_zero _)
          | succ n ih93 =>
            intro by1 w8 H locs ls k0 k1 hmz hP hD hS hl
            refine lv_iload_n hx hb dX11_finds_93 rfl (lv_at hl 0 rfl) ?_
            refine zz_bipush hx hb dX11_finds_94 (by decide) ?_
            refine zz_icmp_ge (tgt := 167) hx hb dX11_finds_96 (by decide) (by omega) (by decide) (fun c_96 => ?_) (fun c_96 => ?_)
            · exact hret w8 _ _ _ _ dX11_finds_167 (show ∀ a b, 0 ≤ a → a < 10 → 0 ≤ b → b < 10 → wayP (egM ms (rgM ms lit)) a b (w8 (10 * a + b)) from by exact fun a b a0 a1 b0 b1 => FlT_end (by decide) hE (egM_uq _) (FlI_of (fun j j0 j1 => i1 j j0 (by omega))) (by rw [show by1 = 10 by omega] at k1; exact k1) ⟨a0, a1⟩ ⟨b0, b1⟩) hP hD hS
            · refine zz_iconst hx hb dX11_finds_99 ?_
              refine lv_istore_n (lv' := [(3, .int (iI 0)), (2, .int (iI by1)), (0, .ref a0), (1, .int (iI lit))]) hx hb dX11_finds_100 rfl hl (by decide) rfl (fun ls hl => ?_)
              have L101 : ∀ (n : Nat) (p2 : Int) (w7 : Int → Int) (H : Heap) (locs : List Loc) (ls : Array Slot), (0 ≤ p2 ∧ p2 ≤ 100) → (FlS iadd by1 p2 w8 w7) → (100 - p2).toNat < n → va_P D vwCl (bModel tA a0 a1 a2 a3 a4 a5 a6 a7 a8 a9 a10 ms mbef msav misv mpast mpm mthr w7 mnds mtkp mline mlm mtxt mlen mat mwr merr mfail mcmd mcm) H → va_D A (bModel tA a0 a1 a2 a3 a4 a5 a6 a7 a8 a9 a10 ms mbef msav misv mpast mpm mthr w7 mnds mtkp mline mlm mtxt mlen mat mwr merr mfail mcmd mcm) → va_S A s.heap H locs → lv_has ls 6 [(3, .int (iI p2)), (2, .int (iI by1)), (0, .ref a0), (1, .int (iI lit))] → W p l e (headSpec wsX11_finds ({ frames := 2, cells := 0, slots := 0, locals := 45 })).room s m args below meth c H locs 0 0 Q (F0 m 101 ls []) := by
                intro n
                induction n with
                | zero => intro p2 w7 H locs ls l0 l1 hmz; exact absurd hmz (Nat.not_lt_zero _)
                | succ n ih101 =>
                  intro p2 w7 H locs ls l0 l1 hmz hP hD hS hl
                  refine lv_iload_n hx hb dX11_finds_101 rfl (lv_at hl 0 rfl) ?_
                  refine zz_bipush hx hb dX11_finds_102 (by decide) ?_
                  refine zz_icmp_ge (tgt := 161) hx hb dX11_finds_104 (by decide) (by omega) (by decide) (fun c_104 => ?_) (fun c_104 => ?_)
                  · refine zz_iinc (lv' := [(2, .int (iI (by1 + 1))), (3, .int (iI p2)), (0, .ref a0), (1, .int (iI lit))]) hx hb dX11_finds_161 hl (k := 1) rfl (by decide) rfl (fun ls hl => ?_)
                    refine lv_goto (tgt := 93) hx hb dX11_finds_164 (by decide) ?_
                    exact ih93 (by1 + 1) w7 _ _ _ (by omega) (by exact FlT_step OpOk_add (PW_op _) (by omega) k1 (by rw [show p2 = 100 by omega] at l1; exact l1)) (by omega) hP hD hS (lv_sub hl [0, 2, 3] rfl)
                  · refine lv_aload_n hx hb dX11_finds_107 rfl (lv_at hl 2 rfl) ?_
                    refine va_get (D := D) (ci := 13) (v := .ref a5) (C := RX11) (T := TX11) (N := 20) hx hb hts iX11 hown hK hP 0 rfl rfl 7 (by decide) f_22 (fun _ h9 => h9) rfl dX11_finds_108 ?_
                    refine zz_bipush hx hb dX11_finds_111 (by decide) ?_
                    refine lv_iload_n hx hb dX11_finds_113 rfl (lv_at hl 0 rfl) ?_
                    refine zz_bipush hx hb dX11_finds_114 (by decide) ?_
                    refine zz_idiv hx hb dX11_finds_116 (by omega) (by omega) ?_
                    refine zz_imul hx hb dX11_finds_117 ?_
                    refine lv_iload_n hx hb dX11_finds_118 rfl (lv_at hl 1 rfl) ?_
                    refine zz_iadd hx hb dX11_finds_119 ?_
                    refine zz_iald hx hb hK hP 5 rfl (by decide) (by omega) dX11_finds_120 ?_
                    have r_120 := FlS_in OpOk_add (by omega) k1.1 l1 (show 0 ≤ ((10 * (p2 / 10)) + by1) by omega) (show ((10 * (p2 / 10)) + by1) < 100 by omega)
                    refine lv_aload_n hx hb dX11_finds_121 rfl (lv_at hl 2 rfl) ?_
                    refine va_get (D := D) (ci := 13) (v := .ref a5) (C := RX11) (T := TX11) (N := 20) hx hb hts iX11 hown hK hP 0 rfl rfl 7 (by decide) f_22 (fun _ h9 => h9) rfl dX11_finds_122 ?_
                    refine zz_bipush hx hb dX11_finds_125 (by decide) ?_
                    refine lv_iload_n hx hb dX11_finds_127 rfl (lv_at hl 1 rfl) ?_
                    refine zz_imul hx hb dX11_finds_128 ?_
                    refine lv_iload_n hx hb dX11_finds_129 rfl (lv_at hl 0 rfl) ?_
                    refine zz_bipush hx hb dX11_finds_130 (by decide) ?_
                    refine zz_irem hx hb dX11_finds_132 (by omega) (by omega) ?_
                    refine zz_iadd hx hb dX11_finds_133 ?_
                    refine zz_iald hx hb hK hP 5 rfl (by decide) (by omega) dX11_finds_134 ?_
                    have r_134 := FlS_in OpOk_add (by omega) k1.1 l1 (show 0 ≤ ((10 * by1) + (p2 % 10)) by omega) (show ((10 * by1) + (p2 % 10)) < 100 by omega)
                    refine zz_iadd hx hb dX11_finds_135 ?_
                    refine lv_istore (lv' := [(4, .int (iI ((w7 ((10 * (p2 / 10)) + by1)) + (w7 ((10 * by1) + (p2 % 10)))))), (3, .int (iI p2)), (2, .int (iI by1)), (0, .ref a0), (1, .int (iI lit))]) hx hb dX11_finds_136 hl (by decide) rfl (fun ls hl => ?_)
                    refine lv_aload_n hx hb dX11_finds_138 rfl (lv_at hl 3 rfl) ?_
                    refine va_get (D := D) (ci := 13) (v := .ref a5) (C := RX11) (T := TX11) (N := 20) hx hb hts iX11 hown hK hP 0 rfl rfl 7 (by decide) f_22 (fun _ h9 => h9) rfl dX11_finds_139 ?_
                    refine lv_iload_n hx hb dX11_finds_142 rfl (lv_at hl 1 rfl) ?_
                    refine lv_aload_n hx hb dX11_finds_143 rfl (lv_at hl 3 rfl) ?_
                    refine va_get (D := D) (ci := 13) (v := .ref a5) (C := RX11) (T := TX11) (N := 20) hx hb hts iX11 hown hK hP 0 rfl rfl 7 (by decide) f_22 (fun _ h9 => h9) rfl dX11_finds_144 ?_
                    refine lv_iload_n hx hb dX11_finds_147 rfl (lv_at hl 1 rfl) ?_
                    refine zz_iald hx hb hK hP 5 rfl (by decide) (by omega) dX11_finds_148 ?_
                    have r_148 := FlS_in OpOk_add (by omega) k1.1 l1 (show 0 ≤ p2 by omega) (show p2 < 100 by omega)
                    refine lv_iload hx hb dX11_finds_149 (lv_at hl 0 rfl) ?_
                    refine zz_mmin hx hb (by rw [hml]; exact hl.1.symm) hown l_119 ls_119 li_119 lc_119 (Nat.le_of_ble_eq_true rfl) (Nat.le_of_ble_eq_true rfl) (Nat.le_of_ble_eq_true rfl) (Nat.le_of_ble_eq_true rfl) (by omega) (by omega) dX11_finds_151 ?_
                    refine zz_iast hx hb hK hP hD hS 5 rfl (by decide) (by omega) dX11_finds_154 (fun H locs hP hD hS => ?_)
                    have hP : va_P D vwCl (bModel tA a0 a1 a2 a3 a4 a5 a6 a7 a8 a9 a10 ms mbef msav misv mpast mpm mthr (zU w7 p2 (min (w7 p2) ((w7 ((10 * (p2 / 10)) + by1)) + (w7 ((10 * by1) + (p2 % 10)))))) mnds mtkp mline mlm mtxt mlen mat mwr merr mfail mcmd mcm) H := hP
                    have hD : va_D A (bModel tA a0 a1 a2 a3 a4 a5 a6 a7 a8 a9 a10 ms mbef msav misv mpast mpm mthr (zU w7 p2 (min (w7 p2) ((w7 ((10 * (p2 / 10)) + by1)) + (w7 ((10 * by1) + (p2 % 10)))))) mnds mtkp mline mlm mtxt mlen mat mwr merr mfail mcmd mcm) := hD
                    refine zz_iinc (lv' := [(3, .int (iI (p2 + 1))), (4, .int (iI ((w7 ((10 * (p2 / 10)) + by1)) + (w7 ((10 * by1) + (p2 % 10)))))), (2, .int (iI by1)), (0, .ref a0), (1, .int (iI lit))]) hx hb dX11_finds_155 hl (k := 1) rfl (by decide) rfl (fun ls hl => ?_)
                    refine lv_goto (tgt := 101) hx hb dX11_finds_158 (by decide) ?_
                    exact ih101 (p2 + 1) (zU w7 p2 (min (w7 p2) ((w7 ((10 * (p2 / 10)) + by1)) + (w7 ((10 * by1) + (p2 % 10)))))) _ _ _ (by omega) (by exact FlS_step OpOk_add (by omega) (by omega) k1.1 l1) (by omega) hP hD hS (lv_sub hl [0, 2, 3, 4] rfl)
              exact L101 _ 0 w8 _ _ _ (by omega) (by exact FlS_0) (Nat.lt_succ_self _) hP hD hS (lv_sub hl [0, 1, 2, 3] rfl)
        exact L93 _ 0 w9 _ _ _ (by omega) (by exact FlI_T hE (FlI_of (fun j j0 j1 => i1 j j0 (by omega)))) (Nat.lt_succ_self _) hP hD hS (lv_sub hl [0, 1, 2] rfl)
      · refine lv_iload_n hx hb dX11_finds_8 rfl (lv_at hl 0 rfl) ?_
        refine zz_bipush hx hb dX11_finds_9 (by decide) ?_
        refine zz_idiv hx hb dX11_finds_11 (by omega) (by omega) ?_
        refine lv_istore_n (lv' := [(3, .int (iI (pl / 10))), (2, .int (iI pl)), (0, .ref a0), (1, .int (iI lit))]) hx hb dX11_finds_12 rfl hl (by decide) rfl (fun ls hl => ?_)
        refine lv_iload_n hx hb dX11_finds_13 rfl (lv_at hl 1 rfl) ?_
        refine zz_bipush hx hb dX11_finds_14 (by decide) ?_
        refine zz_irem hx hb dX11_finds_16 (by omega) (by omega) ?_
        refine lv_istore (lv' := [(4, .int (iI (pl % 10))), (3, .int (iI (pl / 10))), (2, .int (iI pl)), (0, .ref a0), (1, .int (iI lit))]) hx hb dX11_finds_17 hl (by decide) rfl (fun ls hl => ?_)
        have J49 : ∀ (isx : Int) (H : Heap) (locs : List Loc) (ls : Array Slot), ((isx = 1 ∧ 0 < lgM ms (pl / 10) (pl % 10) 0 ∧ lgM ms (pl / 10) (pl % 10) 1 ≤ rgM ms lit) ∨ (isx = 0 ∧ ¬ (0 < lgM ms (pl / 10) (pl % 10) 0 ∧ lgM ms (pl / 10) (pl % 10) 1 ≤ rgM ms lit))) → va_P D vwCl (bModel tA a0 a1 a2 a3 a4 a5 a6 a7 a8 a9 a10 ms mbef msav misv mpast mpm mthr w9 mnds mtkp mline mlm mtxt mlen mat mwr merr mfail mcmd mcm) H → va_D A (bModel tA a0 a1 a2 a3 a4 a5 a6 a7 a8 a9 a10 ms mbef msav misv mpast mpm mthr w9 mnds mtkp mline mlm mtxt mlen mat mwr merr mfail mcmd mcm) → va_S A s.heap H locs → lv_has ls 6 [(4, .int (iI (pl % 10))), (3, .int (iI (pl / 10))), (2, .int (iI pl)), (0, .ref a0), (1, .int (iI lit))] → W p l e (headSpec wsX11_finds ({ frames := 2, cells := 0, slots := 0, locals := 45 })).room s m args below meth c H locs 0 0 Q (F0 m 49 ls [.int (iI isx)]) := by
          intro isx H locs ls js hP hD hS hl
          refine lv_istore (lv' := [(5, .int (iI isx)), (4, .int (iI (pl % 10))), (3, .int (iI (pl / 10))), (2, .int (iI pl)), (0, .ref a0), (1, .int (iI lit))]) hx hb dX11_finds_49 hl (by decide) rfl (fun ls hl => ?_)
          refine lv_aload_n hx hb dX11_finds_51 rfl (lv_at hl 4 rfl) ?_
          refine va_get (D := D) (ci := 13) (v := .ref a5) (C := RX11) (T := TX11) (N := 20) hx hb hts iX11 hown hK hP 0 rfl rfl 7 (by decide) f_22 (fun _ h9 => h9) rfl dX11_finds_52 ?_
          refine lv_iload_n hx hb dX11_finds_55 rfl (lv_at hl 3 rfl) ?_
          refine lv_iload_n hx hb dX11_finds_56 rfl (lv_at hl 2 rfl) ?_
          refine lv_iload hx hb dX11_finds_57 (lv_at hl 1 rfl) ?_
          refine zz_icmp_ne (tgt := 66) hx hb dX11_finds_59 (by decide) (by omega) (by omega) (fun c_59 => ?_) (fun c_59 => ?_)
          · refine lv_iload hx hb dX11_finds_66 (lv_at hl 0 rfl) ?_
            refine zz_if_eq (tgt := 82) hx hb dX11_finds_68 (by decide) (by omega) (fun c_68 => ?_) (fun c_68 => ?_)
            · refine zz_ldc hx hb hown (hts (.constant RX11 118 (100000)) (by decide +kernel)) (n := 100000) (by decide +kernel) dX11_finds_82 ?_
              refine zz_iast hx hb hK hP hD hS 5 rfl (by decide) (by omega) dX11_finds_84 (fun H locs hP hD hS => ?_)
              have hP : va_P D vwCl (bModel tA a0 a1 a2 a3 a4 a5 a6 a7 a8 a9 a10 ms mbef msav misv mpast mpm mthr (zU w9 pl 100000) mnds mtkp mline mlm mtxt mlen mat mwr merr mfail mcmd mcm) H := hP
              have hD : va_D A (bModel tA a0 a1 a2 a3 a4 a5 a6 a7 a8 a9 a10 ms mbef msav misv mpast mpm mthr (zU w9 pl 100000) mnds mtkp mline mlm mtxt mlen mat mwr merr mfail mcmd mcm) := hD
              refine zz_iinc (lv' := [(2, .int (iI (pl + 1))), (5, .int (iI isx)), (4, .int (iI (pl % 10))), (3, .int (iI (pl / 10))), (0, .ref a0), (1, .int (iI lit))]) hx hb dX11_finds_85 hl (k := 3) rfl (by decide) rfl (fun ls hl => ?_)
              refine lv_goto (tgt := 2) hx hb dX11_finds_88 (by decide) ?_
              exact ih2 (pl + 1) (zU w9 pl 100000) _ _ _ (by omega) (by exact upd_all (P := fun j x => FlIp (egM ms (rgM ms lit)) j x) i1 (by unfold FlIp; first | exact Or.inl ⟨by omega, rfl⟩ | exact Or.inr (Or.inl ⟨by omega, egM_iff.mpr ⟨by omega, by omega, by omega, by omega, by omega, q_76, by omega⟩⟩) | exact Or.inr (Or.inr ⟨by omega, rfl, egM_no (by omega)⟩))) (by omega) hP hD hS (lv_sub hl [0, 4, 5] rfl)
            · refine lv_aload_n hx hb dX11_finds_71 rfl (lv_at hl 4 rfl) ?_
              refine lv_iload_n hx hb dX11_finds_72 rfl (lv_at hl 2 rfl) ?_
              refine lv_iload hx hb dX11_finds_73 (lv_at hl 1 rfl) ?_
              refine zz_iconst hx hb dX11_finds_75 ?_
              refine zz_callVi (As := [.int (iI (pl / 10)), .int (iI (pl % 10)), .int (iI 0)]) (rest := [.int (iI pl), .ref a5]) (wf := fun u => bModel tA a0 a1 a2 a3 a4 a5 a6 a7 a8 a9 a10 ms mbef msav misv mpast mpm mthr w9 mnds mtkp mline mlm mtxt mlen mat mwr merr mfail mcmd mcm) ⟨hx, hb, hml, hown, hts⟩ (c_X11_leg l D tA a0 a1 a2 a3 a4 a5 a6 a7 a8 a9 a10 H.size ms mbef msav misv mpast mpm mthr w9 mnds mtkp mline mlm mtxt mlen mat mwr merr mfail mcmd mcm (pl / 10) (pl % 10) 0 (by first | assumption | omega) (by first | assumption | omega) (by first | assumption | omega) (by first | assumption | omega) (by first | assumption | omega) (by first | assumption | omega)) (cwV 3 hts gX11_finds_X11_leg rfl rfl rfl (by decide +kernel) ⟨Nat.le_of_ble_eq_true rfl, Nat.le_of_ble_eq_true rfl⟩) hK hP hD hS hA [0, 1, 2, 3, 4, 5, 6, 7, 8, 9, 10] [] [0, 1, 2, 3, 4, 5, 6, 7, 8, 9, 10] rfl rfl (by decide) (by decide) (by decide) (by decide) (fun _ => rfl) (ci := 13) (q0 := 0) rfl rfl rfl rfl rfl hl.1 (Nat.le_of_ble_eq_true rfl) dX11_finds_76 ⟨Nat.le_of_ble_eq_true rfl, Nat.le_of_ble_eq_true rfl⟩ ?_
              intro z76_1 u H locs p76_2 hP hD hS
              have hP : va_P D vwCl (bModel tA a0 a1 a2 a3 a4 a5 a6 a7 a8 a9 a10 ms mbef msav misv mpast mpm mthr w9 mnds mtkp mline mlm mtxt mlen mat mwr merr mfail mcmd mcm) H := hP
              have hD : va_D A (bModel tA a0 a1 a2 a3 a4 a5 a6 a7 a8 a9 a10 ms mbef msav misv mpast mpm mthr w9 mnds mtkp mline mlm mtxt mlen mat mwr merr mfail mcmd mcm) := hD
              have q_76 : z76_1 = lgM ms (pl / 10) (pl % 10) 0 := p76_2
              have rl3 := hlr (pl / 10) (pl % 10) (0) (by omega) (by omega) (by omega) (by omega) (by omega) (by omega)
              refine lv_goto (tgt := 84) hx hb dX11_finds_79 (by decide) ?_
              refine zz_iast hx hb hK hP hD hS 5 rfl (by decide) (by omega) dX11_finds_84 (fun H locs hP hD hS => ?_)
              have hP : va_P D vwCl (bModel tA a0 a1 a2 a3 a4 a5 a6 a7 a8 a9 a10 ms mbef msav misv mpast mpm mthr (zU w9 pl z76_1) mnds mtkp mline mlm mtxt mlen mat mwr merr mfail mcmd mcm) H := hP
              have hD : va_D A (bModel tA a0 a1 a2 a3 a4 a5 a6 a7 a8 a9 a10 ms mbef msav misv mpast mpm mthr (zU w9 pl z76_1) mnds mtkp mline mlm mtxt mlen mat mwr merr mfail mcmd mcm) := hD
              refine zz_iinc (lv' := [(2, .int (iI (pl + 1))), (5, .int (iI isx)), (4, .int (iI (pl % 10))), (3, .int (iI (pl / 10))), (0, .ref a0), (1, .int (iI lit))]) hx hb dX11_finds_85 hl (k := 3) rfl (by decide) rfl (fun ls hl => ?_)
              refine lv_goto (tgt := 2) hx hb dX11_finds_88 (by decide) ?_
              exact ih2 (pl + 1) (zU w9 pl z76_1) _ _ _ (by omega) (by exact upd_all (P := fun j x => FlIp (egM ms (rgM ms lit)) j x) i1 (by unfold FlIp; first | exact Or.inl ⟨by omega, rfl⟩ | exact Or.inr (Or.inl ⟨by omega, egM_iff.mpr ⟨by omega, by omega, by omega, by omega, by omega, q_76, by omega⟩⟩) | exact Or.inr (Or.inr ⟨by omega, rfl, egM_no (by omega)⟩))) (by omega) hP hD hS (lv_sub hl [0, 4, 5] rfl)
          · refine zz_iconst hx hb dX11_finds_62 ?_
            refine lv_goto (tgt := 84) hx hb dX11_finds_63 (by decide) ?_
            refine zz_iast hx hb hK hP hD hS 5 rfl (by decide) (by omega) dX11_finds_84 (fun H locs hP hD hS => ?_)
            have hP : va_P D vwCl (bModel tA a0 a1 a2 a3 a4 a5 a6 a7 a8 a9 a10 ms mbef msav misv mpast mpm mthr (zU w9 pl 0) mnds mtkp mline mlm mtxt mlen mat mwr merr mfail mcmd mcm) H := hP
            have hD : va_D A (bModel tA a0 a1 a2 a3 a4 a5 a6 a7 a8 a9 a10 ms mbef msav misv mpast mpm mthr (zU w9 pl 0) mnds mtkp mline mlm mtxt mlen mat mwr merr mfail mcmd mcm) := hD
            refine zz_iinc (lv' := [(2, .int (iI (pl + 1))), (5, .int (iI isx)), (4, .int (iI (pl % 10))), (3, .int (iI (pl / 10))), (0, .ref a0), (1, .int (iI lit))]) hx hb dX11_finds_85 hl (k := 3) rfl (by decide) rfl (fun ls hl => ?_)
            refine lv_goto (tgt := 2) hx hb dX11_finds_88 (by decide) ?_
            exact ih2 (pl + 1) (zU w9 pl 0) _ _ _ (by omega) (by exact upd_all (P := fun j x => FlIp (egM ms (rgM ms lit)) j x) i1 (by unfold FlIp; first | exact Or.inl ⟨by omega, rfl⟩ | exact Or.inr (Or.inl ⟨by omega, egM_iff.mpr ⟨by omega, by omega, by omega, by omega, by omega, q_76, by omega⟩⟩) | exact Or.inr (Or.inr ⟨by omega, rfl, egM_no (by omega)⟩))) (by omega) hP hD hS (lv_sub hl [0, 4, 5] rfl)
        refine lv_aload_n hx hb dX11_finds_19 rfl (lv_at hl 3 rfl) ?_
        refine lv_iload_n hx hb dX11_finds_20 rfl (lv_at hl 1 rfl) ?_
        refine lv_iload hx hb dX11_finds_21 (lv_at hl 0 rfl) ?_
        refine zz_iconst hx hb dX11_finds_23 ?_
        refine zz_callVi (As := [.int (iI (pl / 10)), .int (iI (pl % 10)), .int (iI 0)]) (rest := []) (wf := fun u => bModel tA a0 a1 a2 a3 a4 a5 a6 a7 a8 a9 a10 ms mbef msav misv mpast mpm mthr w9 mnds mtkp mline mlm mtxt mlen mat mwr merr mfail mcmd mcm) ⟨hx, hb, hml, hown, hts⟩ (c_X11_leg l D tA a0 a1 a2 a3 a4 a5 a6 a7 a8 a9 a10 H.size ms mbef msav misv mpast mpm mthr w9 mnds mtkp mline mlm mtxt mlen mat mwr merr mfail mcmd mcm (pl / 10) (pl % 10) 0 (by first | assumption | omega) (by first | assumption | omega) (by first | assumption | omega) (by first | assumption | omega) (by first | assumption | omega) (by first | assumption | omega)) (cwV 3 hts gX11_finds_X11_leg rfl rfl rfl (by decide +kernel) ⟨Nat.le_of_ble_eq_true rfl, Nat.le_of_ble_eq_true rfl⟩) hK hP hD hS hA [0, 1, 2, 3, 4, 5, 6, 7, 8, 9, 10] [] [0, 1, 2, 3, 4, 5, 6, 7, 8, 9, 10] rfl rfl (by decide) (by decide) (by decide) (by decide) (fun _ => rfl) (ci := 13) (q0 := 0) rfl rfl rfl rfl rfl hl.1 (Nat.le_of_ble_eq_true rfl) dX11_finds_24 ⟨Nat.le_of_ble_eq_true rfl, Nat.le_of_ble_eq_true rfl⟩ ?_
        intro z24_3 u H locs p24_4 hP hD hS
        have hP : va_P D vwCl (bModel tA a0 a1 a2 a3 a4 a5 a6 a7 a8 a9 a10 ms mbef msav misv mpast mpm mthr w9 mnds mtkp mline mlm mtxt mlen mat mwr merr mfail mcmd mcm) H := hP
        have hD : va_D A (bModel tA a0 a1 a2 a3 a4 a5 a6 a7 a8 a9 a10 ms mbef msav misv mpast mpm mthr w9 mnds mtkp mline mlm mtxt mlen mat mwr merr mfail mcmd mcm) := hD
        have q_24 : z24_3 = lgM ms (pl / 10) (pl % 10) 0 := p24_4
        have rl := hlr (pl / 10) (pl % 10) (0) (by omega) (by omega) (by omega) (by omega) (by omega) (by omega)
        refine zz_if_le (tgt := 48) hx hb dX11_finds_27 (by decide) (by omega) (fun c_27 => ?_) (fun c_27 => ?_)
        · refine zz_iconst hx hb dX11_finds_48 ?_
          exact J49 0 _ _ _ (by unfold rgM; have h20 : 0 < lgM ms (pl / 10) (pl % 10) 0 → 1 ≤ lgM ms (pl / 10) (pl % 10) 1 ∧ lgM ms (pl / 10) (pl % 10) 1 ≤ 20 := egM_20 mL (by omega) (by omega); by_cases hli : lit = 1; all_goals first | (rw [if_pos hli]; omega) | (rw [if_neg hli]; omega)) hP hD hS (lv_sub hl [0, 1, 2, 3, 4] rfl)
        · refine lv_iload_n hx hb dX11_finds_30 rfl (lv_at hl 4 rfl) ?_
          refine zz_if_eq (tgt := 44) hx hb dX11_finds_31 (by decide) (by omega) (fun c_31 => ?_) (fun c_31 => ?_)
          · refine zz_iconst hx hb dX11_finds_44 ?_
            refine lv_goto (tgt := 49) hx hb dX11_finds_45 (by decide) ?_
            exact J49 1 _ _ _ (by unfold rgM; have h20 : 0 < lgM ms (pl / 10) (pl % 10) 0 → 1 ≤ lgM ms (pl / 10) (pl % 10) 1 ∧ lgM ms (pl / 10) (pl % 10) 1 ≤ 20 := egM_20 mL (by omega) (by omega); by_cases hli : lit = 1; all_goals first | (rw [if_pos hli]; omega) | (rw [if_neg hli]; omega)) hP hD hS (lv_sub hl [0, 1, 2, 3, 4] rfl)
          · refine lv_aload_n hx hb dX11_finds_34 rfl (lv_at hl 3 rfl) ?_
            refine lv_iload_n hx hb dX11_finds_35 rfl (lv_at hl 1 rfl) ?_
            refine lv_iload hx hb dX11_finds_36 (lv_at hl 0 rfl) ?_
            refine zz_callVi (As := [.int (iI (pl / 10)), .int (iI (pl % 10))]) (rest := []) (wf := fun u => bModel tA a0 a1 a2 a3 a4 a5 a6 a7 a8 a9 a10 ms mbef msav misv mpast mpm mthr w9 mnds mtkp mline mlm mtxt mlen mat mwr merr mfail mcmd mcm) ⟨hx, hb, hml, hown, hts⟩ (c_X11_shines l D tA a0 a1 a2 a3 a4 a5 a6 a7 a8 a9 a10 H.size ms mbef msav misv mpast mpm mthr w9 mnds mtkp mline mlm mtxt mlen mat mwr merr mfail mcmd mcm (pl / 10) (pl % 10) (by first | assumption | omega) (by first | assumption | omega) (by first | assumption | omega) (by first | assumption | omega) (by first | assumption | omega) (by first | assumption | omega)) (cwV 2 hts gX11_finds_X11_shines rfl rfl rfl (by decide +kernel) ⟨Nat.le_of_ble_eq_true rfl, Nat.le_of_ble_eq_true rfl⟩) hK hP hD hS hA [0, 1, 2, 3, 4, 5, 6, 7, 8, 9, 10] [] [0, 1, 2, 3, 4, 5, 6, 7, 8, 9, 10] rfl rfl (by decide) (by decide) (by decide) (by decide) (fun _ => rfl) (ci := 13) (q0 := 0) rfl rfl rfl rfl rfl hl.1 (Nat.le_of_ble_eq_true rfl) dX11_finds_38 ⟨Nat.le_of_ble_eq_true rfl, Nat.le_of_ble_eq_true rfl⟩ ?_
            intro z38_5 u H locs p38_6 hP hD hS
            have hP : va_P D vwCl (bModel tA a0 a1 a2 a3 a4 a5 a6 a7 a8 a9 a10 ms mbef msav misv mpast mpm mthr w9 mnds mtkp mline mlm mtxt mlen mat mwr merr mfail mcmd mcm) H := hP
            have hD : va_D A (bModel tA a0 a1 a2 a3 a4 a5 a6 a7 a8 a9 a10 ms mbef msav misv mpast mpm mthr w9 mnds mtkp mline mlm mtxt mlen mat mwr merr mfail mcmd mcm) := hD
            have q_38 : (z38_5 = 1 ∧ 0 < lgM ms (pl / 10) (pl % 10) 0 ∧ lgM ms (pl / 10) (pl % 10) 1 ≤ ms 3) ∨ (z38_5 = 0 ∧ ¬ (0 < lgM ms (pl / 10) (pl % 10) 0 ∧ lgM ms (pl / 10) (pl % 10) 1 ≤ ms 3)) := p38_6
            refine zz_if_eq (tgt := 48) hx hb dX11_finds_41 (by decide) (by omega) (fun c_41 => ?_) (fun c_41 => ?_)
            · refine zz_iconst hx hb dX11_finds_48 ?_
              exact J49 0 _ _ _ (by unfold rgM; have h20 : 0 < lgM ms (pl / 10) (pl % 10) 0 → 1 ≤ lgM ms (pl / 10) (pl % 10) 1 ∧ lgM ms (pl / 10) (pl % 10) 1 ≤ 20 := egM_20 mL (by omega) (by omega); by_cases hli : lit = 1; all_goals first | (rw [if_pos hli]; omega) | (rw [if_neg hli]; omega)) hP hD hS (lv_sub hl [0, 1, 2, 3, 4] rfl)
            · refine zz_iconst hx hb dX11_finds_44 ?_
              refine lv_goto (tgt := 49) hx hb dX11_finds_45 (by decide) ?_
              exact J49 1 _ _ _ (by unfold rgM; have h20 : 0 < lgM ms (pl / 10) (pl % 10) 0 → 1 ≤ lgM ms (pl / 10) (pl % 10) 1 ∧ lgM ms (pl / 10) (pl % 10) 1 ≤ 20 := egM_20 mL (by omega) (by omega); by_cases hli : lit = 1; all_goals first | (rw [if_pos hli]; omega) | (rw [if_neg hli]; omega)) hP hD hS (lv_sub hl [0, 1, 2, 3, 4] rfl)
  exact L2 _ 0 mways _ _ _ (by omega) (by exact nothing_yet) (Nat.lt_succ_self _) hP hD hS (lv_sub hl [0, 1, 2] rfl)

set_option maxHeartbeats 4000000 in
set_option maxRecDepth 100000 in
theorem c_X11_findsRanges (l : Launch) (D : va_G) (tA : Nat → ClassId) (a0 a1 a2 a3 a4 a5 a6 a7 a8 a9 a10 : Nat) (sz : Nat) (ms : Int → Int) (mbef : Int → Int) (msav : Int → Int) (misv : Int) (mpast : Int → Int) (mpm : Int) (mthr : Int) (mways : Int → Int) (mnds : Int → Int) (mtkp : Int → Int) (mline : Int → Int) (mlm : Int) (mtxt : Int → Int) (mlen : Int) (mat : Int) (mwr : Int) (merr : Int) (mfail : Int) (mcmd : Int → Int) (mcm : Int) (hm : MV ms) : zMv l yX11_findsRanges wsX11_findsRanges ({ frames := 1, cells := 0, slots := 0, locals := 23 }) D tA [.ref a0] (bModel tA a0 a1 a2 a3 a4 a5 a6 a7 a8 a9 a10 ms mbef msav misv mpast mpm mthr mways mnds mtkp mline mlm mtxt mlen mat mwr merr mfail mcmd mcm) sz (fun (u : (Int → Int)) => (∀ a b, 0 ≤ a → a < 10 → 0 ≤ b → b < 10 → a ≠ b → rngP (egM ms) a b (u (10 * a + b)))) (fun (u : (Int → Int)) => bModel tA a0 a1 a2 a3 a4 a5 a6 a7 a8 a9 a10 ms mbef msav misv mpast mpm mthr u mnds mtkp mline mlm mtxt mlen mat mwr merr mfail mcmd mcm) 0 0 := by
  refine zMv_of (cc := cX11_findsRanges) (maxL := 4) (by decide) rfl (Nat.le_of_ble_eq_true rfl) ?_
  intro p e s m args below meth c A Q ls hx hb hml hts hown hK hP hD hA hret hl
  obtain ⟨H, hHe⟩ : ∃ H : Heap, H = s.heap := ⟨_, rfl⟩
  have hS : va_S A s.heap H [] := by rw [hHe]; exact va_S.rf
  rw [← hHe] at hP ⊢
  have hl : lv_has ls 4 [(0, .ref a0)] := hl
  have iX11 : ∀ v ∈ wsX110, v ∈ wsX11_findsRanges := by decide +kernel
  have f_22 := hts (.fieldLink RX11 22 "HarborLightsModel" "ways" "[I") (by decide +kernel)
  have l_119 := hts (.methodLink RX11 119 Lib.Math.min.name) (by decide +kernel)
  have ls_119 := hts (.static Lib.Math.min.name) (by decide +kernel)
  have lc_119 := hts (.code Lib.Math.min.name Lib.Math.min.code 2 (some .int)) (by decide +kernel)
  have li_119 := hts (.initialized "java/lang/Math") (by decide +kernel)
  have l_124 := hts (.methodLink RX11 124 Lib.Math.max.name) (by decide +kernel)
  have ls_124 := hts (.static Lib.Math.max.name) (by decide +kernel)
  have lc_124 := hts (.code Lib.Math.max.name Lib.Math.max.code 2 (some .int)) (by decide +kernel)
  have li_124 := hts (.initialized "java/lang/Math") (by decide +kernel)
  obtain ⟨⟨mp0, mp1, mc0, mc1, mf0, mf1, mr0, mr1⟩, hlr, mL, mS⟩ := id hm
  have hE := egM_ok mL
  refine zz_iconst hx hb dX11_findsRanges_0 ?_
  refine lv_istore_n (lv' := [(1, .int (iI 0)), (0, .ref a0)]) hx hb dX11_findsRanges_1 rfl hl (by decide) rfl (fun ls hl => ?_)
  have L2 : ∀ (n : Nat) (pl : Int) (w9 : Int → Int) (H : Heap) (locs : List Loc) (ls : Array Slot), (0 ≤ pl ∧ pl ≤ 100) → (∀ j, 0 ≤ j → j < pl → FrIp (egM ms) j (w9 j)) → (100 - pl).toNat < n → va_P D vwCl (bModel tA a0 a1 a2 a3 a4 a5 a6 a7 a8 a9 a10 ms mbef msav misv mpast mpm mthr w9 mnds mtkp mline mlm mtxt mlen mat mwr merr mfail mcmd mcm) H → va_D A (bModel tA a0 a1 a2 a3 a4 a5 a6 a7 a8 a9 a10 ms mbef msav misv mpast mpm mthr w9 mnds mtkp mline mlm mtxt mlen mat mwr merr mfail mcmd mcm) → va_S A s.heap H locs → lv_has ls 4 [(1, .int (iI pl)), (0, .ref a0)] → W p l e (headSpec wsX11_findsRanges ({ frames := 1, cells := 0, slots := 0, locals := 23 })).room s m args below meth c H locs 0 0 Q (F0 m 2 ls []) := by
    intro n
    induction n with
    | zero => intro pl w9 H locs ls i0 i1 hmz; exact absurd hmz (Nat.not_lt_zero _)
    | succ n ih2 =>
      intro pl w9 H locs ls i0 i1 hmz hP hD hS hl
      refine lv_iload_n hx hb dX11_findsRanges_2 rfl (lv_at hl 0 rfl) ?_
      refine zz_bipush hx hb dX11_findsRanges_3 (by decide) ?_
      refine zz_icmp_ge (tgt := 79) hx hb dX11_findsRanges_5 (by decide) (by omega) (by decide) (fun c_5 => ?_) (fun c_5 => ?_)
      · refine zz_iconst hx hb dX11_findsRanges_79 ?_
        refine lv_istore_n (lv' := [(1, .int (iI 0)), (0, .ref a0)]) hx hb dX11_findsRanges_80 rfl hl (by decide) rfl (fun ls hl => ?_)
        have L81 : ∀ (n : Nat) (by1 : Int) (w8 : Int → Int) (H : Heap) (locs : List Loc) (ls : Array Slot), (0 ≤ by1 ∧ by1 ≤ 10) → (FlT max (PR (egM ms)) w9 by1 w8) → (10 - by1).toNat < n → va_P D vwCl (bModel tA a0 a1 a2 a3 a4 a5 a6 a7 a8 a9 a10 ms mbef msav misv mpast mpm mthr w8 mnds mtkp mline mlm mtxt mlen mat mwr merr mfail mcmd mcm) H → va_D A (bModel tA a0 a1 a2 a3 a4 a5 a6 a7 a8 a9 a10 ms mbef msav misv mpast mpm mthr w8 mnds mtkp mline mlm mtxt mlen mat mwr merr mfail mcmd mcm) → va_S A s.heap H locs → lv_has ls 4 [(1, .int (iI by1)), (0, .ref a0)] → W p l e (headSpec wsX11_findsRanges ({ frames := 1, cells := 0, slots := 0, locals := 23 })).room s m args below meth c H locs 0 0 Q (F0 m 81 ls []) := by
          intro n
          induction n with
          | zero => intro by1 w8 H locs ls k0 k1 hmz; exact absurd hmz (Nat.not_lt_zero _)
          | succ n ih81 =>
            intro by1 w8 H locs ls k0 k1 hmz hP hD hS hl
            refine lv_iload_n hx hb dX11_findsRanges_81 rfl (lv_at hl 0 rfl) ?_
            refine zz_bipush hx hb dX11_findsRanges_82 (by decide) ?_
            refine zz_icmp_ge (tgt := 155) hx hb dX11_findsRanges_84 (by decide) (by omega) (by decide) (fun c_84 => ?_) (fun c_84 => ?_)
            · exact hret w8 _ _ _ _ dX11_findsRanges_155 (show ∀ a b, 0 ≤ a → a < 10 → 0 ≤ b → b < 10 → a ≠ b → rngP (egM ms) a b (w8 (10 * a + b)) from by exact fun a b a0 a1 b0 b1 hne => FrT_end hE (by decide) (egM_low mL) (FrI_of (fun j j0 j1 => i1 j j0 (by omega))) (by rw [show by1 = 10 by omega] at k1; exact k1) ⟨a0, a1⟩ ⟨b0, b1⟩ hne) hP hD hS
            · refine zz_iconst hx hb dX11_findsRanges_87 ?_
              refine lv_istore_n (lv' := [(2, .int (iI 0)), (1, .int (iI by1)), (0, .ref a0)]) hx hb dX11_findsRanges_88 rfl hl (by decide) rfl (fun ls hl => ?_)
              have L89 : ∀ (n : Nat) (p2 : Int) (w7 : Int → Int) (H : Heap) (locs : List Loc) (ls : Array Slot), (0 ≤ p2 ∧ p2 ≤ 100) → (FlS max by1 p2 w8 w7) → (100 - p2).toNat < n → va_P D vwCl (bModel tA a0 a1 a2 a3 a4 a5 a6 a7 a8 a9 a10 ms mbef msav misv mpast mpm mthr w7 mnds mtkp mline mlm mtxt mlen mat mwr merr mfail mcmd mcm) H → va_D A (bModel tA a0 a1 a2 a3 a4 a5 a6 a7 a8 a9 a10 ms mbef msav misv mpast mpm mthr w7 mnds mtkp mline mlm mtxt mlen mat mwr merr mfail mcmd mcm) → va_S A s.heap H locs → lv_has ls 4 [(2, .int (iI p2)), (1, .int (iI by1)), (0, .ref a0)] → W p l e (headSpec wsX11_findsRanges ({ frames := 1, cells := 0, slots := 0, locals := 23 })).room s m args below meth c H locs 0 0 Q (F0 m 89 ls []) := by
                intro n
                induction n with
                | zero => intro p2 w7 H locs ls l0 l1 hmz; exact absurd hmz (Nat.not_lt_zero _)
                | succ n ih89 =>
                  intro p2 w7 H locs ls l0 l1 hmz hP hD hS hl
                  refine lv_iload_n hx hb dX11_findsRanges_89 rfl (lv_at hl 0 rfl) ?_
                  refine zz_bipush hx hb dX11_findsRanges_90 (by decide) ?_
                  refine zz_icmp_ge (tgt := 149) hx hb dX11_findsRanges_92 (by decide) (by omega) (by decide) (fun c_92 => ?_) (fun c_92 => ?_)
                  · refine zz_iinc (lv' := [(1, .int (iI (by1 + 1))), (2, .int (iI p2)), (0, .ref a0)]) hx hb dX11_findsRanges_149 hl (k := 1) rfl (by decide) rfl (fun ls hl => ?_)
                    refine lv_goto (tgt := 81) hx hb dX11_findsRanges_152 (by decide) ?_
                    exact ih81 (by1 + 1) w7 _ _ _ (by omega) (by exact FlT_step OpOk_max (PR_op egM_mon) (by omega) k1 (by rw [show p2 = 100 by omega] at l1; exact l1)) (by omega) hP hD hS (lv_sub hl [0, 2] rfl)
                  · refine lv_aload_n hx hb dX11_findsRanges_95 rfl (lv_at hl 2 rfl) ?_
                    refine va_get (D := D) (ci := 13) (v := .ref a5) (C := RX11) (T := TX11) (N := 20) hx hb hts iX11 hown hK hP 0 rfl rfl 7 (by decide) f_22 (fun _ h9 => h9) rfl dX11_findsRanges_96 ?_
                    refine zz_bipush hx hb dX11_findsRanges_99 (by decide) ?_
                    refine lv_iload_n hx hb dX11_findsRanges_101 rfl (lv_at hl 0 rfl) ?_
                    refine zz_bipush hx hb dX11_findsRanges_102 (by decide) ?_
                    refine zz_idiv hx hb dX11_findsRanges_104 (by omega) (by omega) ?_
                    refine zz_imul hx hb dX11_findsRanges_105 ?_
                    refine lv_iload_n hx hb dX11_findsRanges_106 rfl (lv_at hl 1 rfl) ?_
                    refine zz_iadd hx hb dX11_findsRanges_107 ?_
                    refine zz_iald hx hb hK hP 5 rfl (by decide) (by omega) dX11_findsRanges_108 ?_
                    have r_108 := FlS_in OpOk_max (by omega) k1.1 l1 (show 0 ≤ ((10 * (p2 / 10)) + by1) by omega) (show ((10 * (p2 / 10)) + by1) < 100 by omega)
                    refine lv_aload_n hx hb dX11_findsRanges_109 rfl (lv_at hl 2 rfl) ?_
                    refine va_get (D := D) (ci := 13) (v := .ref a5) (C := RX11) (T := TX11) (N := 20) hx hb hts iX11 hown hK hP 0 rfl rfl 7 (by decide) f_22 (fun _ h9 => h9) rfl dX11_findsRanges_110 ?_
                    refine zz_bipush hx hb dX11_findsRanges_113 (by decide) ?_
                    refine lv_iload_n hx hb dX11_findsRanges_115 rfl (lv_at hl 1 rfl) ?_
                    refine zz_imul hx hb dX11_findsRanges_116 ?_
                    refine lv_iload_n hx hb dX11_findsRanges_117 rfl (lv_at hl 0 rfl) ?_
                    refine zz_bipush hx hb dX11_findsRanges_118 (by decide) ?_
                    refine zz_irem hx hb dX11_findsRanges_120 (by omega) (by omega) ?_
                    refine zz_iadd hx hb dX11_findsRanges_121 ?_
                    refine zz_iald hx hb hK hP 5 rfl (by decide) (by omega) dX11_findsRanges_122 ?_
                    have r_122 := FlS_in OpOk_max (by omega) k1.1 l1 (show 0 ≤ ((10 * by1) + (p2 % 10)) by omega) (show ((10 * by1) + (p2 % 10)) < 100 by omega)
                    refine zz_mmax hx hb (by rw [hml]; exact hl.1.symm) hown l_124 ls_124 li_124 lc_124 (Nat.le_of_ble_eq_true rfl) (Nat.le_of_ble_eq_true rfl) (Nat.le_of_ble_eq_true rfl) (Nat.le_of_ble_eq_true rfl) (by omega) (by omega) dX11_findsRanges_123 ?_
                    refine lv_istore_n (lv' := [(3, .int (iI (max (w7 ((10 * (p2 / 10)) + by1)) (w7 ((10 * by1) + (p2 % 10)))))), (2, .int (iI p2)), (1, .int (iI by1)), (0, .ref a0)]) hx hb dX11_findsRanges_126 rfl hl (by decide) rfl (fun ls hl => ?_)
                    refine lv_aload_n hx hb dX11_findsRanges_127 rfl (lv_at hl 3 rfl) ?_
                    refine va_get (D := D) (ci := 13) (v := .ref a5) (C := RX11) (T := TX11) (N := 20) hx hb hts iX11 hown hK hP 0 rfl rfl 7 (by decide) f_22 (fun _ h9 => h9) rfl dX11_findsRanges_128 ?_
                    refine lv_iload_n hx hb dX11_findsRanges_131 rfl (lv_at hl 1 rfl) ?_
                    refine lv_aload_n hx hb dX11_findsRanges_132 rfl (lv_at hl 3 rfl) ?_
                    refine va_get (D := D) (ci := 13) (v := .ref a5) (C := RX11) (T := TX11) (N := 20) hx hb hts iX11 hown hK hP 0 rfl rfl 7 (by decide) f_22 (fun _ h9 => h9) rfl dX11_findsRanges_133 ?_
                    refine lv_iload_n hx hb dX11_findsRanges_136 rfl (lv_at hl 1 rfl) ?_
                    refine zz_iald hx hb hK hP 5 rfl (by decide) (by omega) dX11_findsRanges_137 ?_
                    have r_137 := FlS_in OpOk_max (by omega) k1.1 l1 (show 0 ≤ p2 by omega) (show p2 < 100 by omega)
                    refine lv_iload_n hx hb dX11_findsRanges_138 rfl (lv_at hl 0 rfl) ?_
                    refine zz_mmin hx hb (by rw [hml]; exact hl.1.symm) hown l_119 ls_119 li_119 lc_119 (Nat.le_of_ble_eq_true rfl) (Nat.le_of_ble_eq_true rfl) (Nat.le_of_ble_eq_true rfl) (Nat.le_of_ble_eq_true rfl) (by omega) (by omega) dX11_findsRanges_139 ?_
                    refine zz_iast hx hb hK hP hD hS 5 rfl (by decide) (by omega) dX11_findsRanges_142 (fun H locs hP hD hS => ?_)
                    have hP : va_P D vwCl (bModel tA a0 a1 a2 a3 a4 a5 a6 a7 a8 a9 a10 ms mbef msav misv mpast mpm mthr (zU w7 p2 (min (w7 p2) (max (w7 ((10 * (p2 / 10)) + by1)) (w7 ((10 * by1) + (p2 % 10)))))) mnds mtkp mline mlm mtxt mlen mat mwr merr mfail mcmd mcm) H := hP
                    have hD : va_D A (bModel tA a0 a1 a2 a3 a4 a5 a6 a7 a8 a9 a10 ms mbef msav misv mpast mpm mthr (zU w7 p2 (min (w7 p2) (max (w7 ((10 * (p2 / 10)) + by1)) (w7 ((10 * by1) + (p2 % 10)))))) mnds mtkp mline mlm mtxt mlen mat mwr merr mfail mcmd mcm) := hD
                    refine zz_iinc (lv' := [(2, .int (iI (p2 + 1))), (3, .int (iI (max (w7 ((10 * (p2 / 10)) + by1)) (w7 ((10 * by1) + (p2 % 10)))))), (1, .int (iI by1)), (0, .ref a0)]) hx hb dX11_findsRanges_143 hl (k := 1) rfl (by decide) rfl (fun ls hl => ?_)
                    refine lv_goto (tgt := 89) hx hb dX11_findsRanges_146 (by decide) ?_
                    exact ih89 (p2 + 1) (zU w7 p2 (min (w7 p2) (max (w7 ((10 * (p2 / 10)) + by1)) (w7 ((10 * by1) + (p2 % 10)))))) _ _ _ (by omega) (by exact FlS_step OpOk_max (by omega) (by omega) k1.1 l1) (by omega) hP hD hS (lv_sub hl [0, 2, 3] rfl)
              exact L89 _ 0 w8 _ _ _ (by omega) (by exact FlS_0) (Nat.lt_succ_self _) hP hD hS (lv_sub hl [0, 1, 2] rfl)
        exact L81 _ 0 w9 _ _ _ (by omega) (by exact FrI_T (FrI_of (fun j j0 j1 => i1 j j0 (by omega)))) (Nat.lt_succ_self _) hP hD hS (lv_sub hl [0, 1] rfl)
      · have J29 : ∀ (isx : Int) (H : Heap) (locs : List Loc) (ls : Array Slot), ((isx = 1 ∧ 0 < lgM ms (pl / 10) (pl % 10) 0) ∨ (isx = 0 ∧ ¬ 0 < lgM ms (pl / 10) (pl % 10) 0)) → va_P D vwCl (bModel tA a0 a1 a2 a3 a4 a5 a6 a7 a8 a9 a10 ms mbef msav misv mpast mpm mthr w9 mnds mtkp mline mlm mtxt mlen mat mwr merr mfail mcmd mcm) H → va_D A (bModel tA a0 a1 a2 a3 a4 a5 a6 a7 a8 a9 a10 ms mbef msav misv mpast mpm mthr w9 mnds mtkp mline mlm mtxt mlen mat mwr merr mfail mcmd mcm) → va_S A s.heap H locs → lv_has ls 4 [(1, .int (iI pl)), (0, .ref a0)] → W p l e (headSpec wsX11_findsRanges ({ frames := 1, cells := 0, slots := 0, locals := 23 })).room s m args below meth c H locs 0 0 Q (F0 m 29 ls [.int (iI isx)]) := by
          intro isx H locs ls js hP hD hS hl
          refine lv_istore_n (lv' := [(2, .int (iI isx)), (1, .int (iI pl)), (0, .ref a0)]) hx hb dX11_findsRanges_29 rfl hl (by decide) rfl (fun ls hl => ?_)
          refine lv_aload_n hx hb dX11_findsRanges_30 rfl (lv_at hl 2 rfl) ?_
          refine va_get (D := D) (ci := 13) (v := .ref a5) (C := RX11) (T := TX11) (N := 20) hx hb hts iX11 hown hK hP 0 rfl rfl 7 (by decide) f_22 (fun _ h9 => h9) rfl dX11_findsRanges_31 ?_
          refine lv_iload_n hx hb dX11_findsRanges_34 rfl (lv_at hl 1 rfl) ?_
          refine lv_iload_n hx hb dX11_findsRanges_35 rfl (lv_at hl 1 rfl) ?_
          refine zz_bipush hx hb dX11_findsRanges_36 (by decide) ?_
          refine zz_idiv hx hb dX11_findsRanges_38 (by omega) (by omega) ?_
          refine lv_iload_n hx hb dX11_findsRanges_39 rfl (lv_at hl 1 rfl) ?_
          refine zz_bipush hx hb dX11_findsRanges_40 (by decide) ?_
          refine zz_irem hx hb dX11_findsRanges_42 (by omega) (by omega) ?_
          refine zz_icmp_ne (tgt := 50) hx hb dX11_findsRanges_43 (by decide) (by omega) (by omega) (fun c_43 => ?_) (fun c_43 => ?_)
          · refine lv_iload_n hx hb dX11_findsRanges_50 rfl (lv_at hl 0 rfl) ?_
            refine zz_if_eq (tgt := 70) hx hb dX11_findsRanges_51 (by decide) (by omega) (fun c_51 => ?_) (fun c_51 => ?_)
            · refine zz_ldc hx hb hown (hts (.constant RX11 118 (100000)) (by decide +kernel)) (n := 100000) (by decide +kernel) dX11_findsRanges_70 ?_
              refine zz_iast hx hb hK hP hD hS 5 rfl (by decide) (by omega) dX11_findsRanges_72 (fun H locs hP hD hS => ?_)
              have hP : va_P D vwCl (bModel tA a0 a1 a2 a3 a4 a5 a6 a7 a8 a9 a10 ms mbef msav misv mpast mpm mthr (zU w9 pl 100000) mnds mtkp mline mlm mtxt mlen mat mwr merr mfail mcmd mcm) H := hP
              have hD : va_D A (bModel tA a0 a1 a2 a3 a4 a5 a6 a7 a8 a9 a10 ms mbef msav misv mpast mpm mthr (zU w9 pl 100000) mnds mtkp mline mlm mtxt mlen mat mwr merr mfail mcmd mcm) := hD
              refine zz_iinc (lv' := [(1, .int (iI (pl + 1))), (2, .int (iI isx)), (0, .ref a0)]) hx hb dX11_findsRanges_73 hl (k := 1) rfl (by decide) rfl (fun ls hl => ?_)
              refine lv_goto (tgt := 2) hx hb dX11_findsRanges_76 (by decide) ?_
              exact ih2 (pl + 1) (zU w9 pl 100000) _ _ _ (by omega) (by exact upd_all (P := fun j x => FrIp (egM ms) j x) i1 (by unfold FrIp; first | exact Or.inl ⟨by omega, rfl⟩ | exact Or.inr (Or.inl (by have h20 : 1 ≤ lgM ms (pl / 10) (pl % 10) 1 ∧ lgM ms (pl / 10) (pl % 10) 1 ≤ 20 := egM_20 mL (by omega) (by omega) (by omega); exact ⟨by omega, by omega, by omega, ⟨_, egM_iff.mpr ⟨by omega, by omega, by omega, by omega, by omega, rfl, by omega⟩⟩, fun r y hy => by have := (egM_iff.mp hy).2.2.2.2.2.2; omega⟩)) | exact Or.inr (Or.inr ⟨by omega, rfl, fun r => egM_no (by omega)⟩))) (by omega) hP hD hS (lv_sub hl [0, 2] rfl)
            · refine lv_aload_n hx hb dX11_findsRanges_54 rfl (lv_at hl 2 rfl) ?_
              refine lv_iload_n hx hb dX11_findsRanges_55 rfl (lv_at hl 1 rfl) ?_
              refine zz_bipush hx hb dX11_findsRanges_56 (by decide) ?_
              refine zz_idiv hx hb dX11_findsRanges_58 (by omega) (by omega) ?_
              refine lv_iload_n hx hb dX11_findsRanges_59 rfl (lv_at hl 1 rfl) ?_
              refine zz_bipush hx hb dX11_findsRanges_60 (by decide) ?_
              refine zz_irem hx hb dX11_findsRanges_62 (by omega) (by omega) ?_
              refine zz_iconst hx hb dX11_findsRanges_63 ?_
              refine zz_callVi (As := [.int (iI (pl / 10)), .int (iI (pl % 10)), .int (iI 1)]) (rest := [.int (iI pl), .ref a5]) (wf := fun u => bModel tA a0 a1 a2 a3 a4 a5 a6 a7 a8 a9 a10 ms mbef msav misv mpast mpm mthr w9 mnds mtkp mline mlm mtxt mlen mat mwr merr mfail mcmd mcm) ⟨hx, hb, hml, hown, hts⟩ (c_X11_leg l D tA a0 a1 a2 a3 a4 a5 a6 a7 a8 a9 a10 H.size ms mbef msav misv mpast mpm mthr w9 mnds mtkp mline mlm mtxt mlen mat mwr merr mfail mcmd mcm (pl / 10) (pl % 10) 1 (by first | assumption | omega) (by first | assumption | omega) (by first | assumption | omega) (by first | assumption | omega) (by first | assumption | omega) (by first | assumption | omega)) (cwV 3 hts gX11_findsRanges_X11_leg rfl rfl rfl (by decide +kernel) ⟨Nat.le_of_ble_eq_true rfl, Nat.le_of_ble_eq_true rfl⟩) hK hP hD hS hA [0, 1, 2, 3, 4, 5, 6, 7, 8, 9, 10] [] [0, 1, 2, 3, 4, 5, 6, 7, 8, 9, 10] rfl rfl (by decide) (by decide) (by decide) (by decide) (fun _ => rfl) (ci := 13) (q0 := 0) rfl rfl rfl rfl rfl hl.1 (Nat.le_of_ble_eq_true rfl) dX11_findsRanges_64 ⟨Nat.le_of_ble_eq_true rfl, Nat.le_of_ble_eq_true rfl⟩ ?_
              intro z64_1 u H locs p64_2 hP hD hS
              have hP : va_P D vwCl (bModel tA a0 a1 a2 a3 a4 a5 a6 a7 a8 a9 a10 ms mbef msav misv mpast mpm mthr w9 mnds mtkp mline mlm mtxt mlen mat mwr merr mfail mcmd mcm) H := hP
              have hD : va_D A (bModel tA a0 a1 a2 a3 a4 a5 a6 a7 a8 a9 a10 ms mbef msav misv mpast mpm mthr w9 mnds mtkp mline mlm mtxt mlen mat mwr merr mfail mcmd mcm) := hD
              have q_64 : z64_1 = lgM ms (pl / 10) (pl % 10) 1 := p64_2
              have rl3 := hlr (pl / 10) (pl % 10) (1) (by omega) (by omega) (by omega) (by omega) (by omega) (by omega)
              refine lv_goto (tgt := 72) hx hb dX11_findsRanges_67 (by decide) ?_
              refine zz_iast hx hb hK hP hD hS 5 rfl (by decide) (by omega) dX11_findsRanges_72 (fun H locs hP hD hS => ?_)
              have hP : va_P D vwCl (bModel tA a0 a1 a2 a3 a4 a5 a6 a7 a8 a9 a10 ms mbef msav misv mpast mpm mthr (zU w9 pl z64_1) mnds mtkp mline mlm mtxt mlen mat mwr merr mfail mcmd mcm) H := hP
              have hD : va_D A (bModel tA a0 a1 a2 a3 a4 a5 a6 a7 a8 a9 a10 ms mbef msav misv mpast mpm mthr (zU w9 pl z64_1) mnds mtkp mline mlm mtxt mlen mat mwr merr mfail mcmd mcm) := hD
              refine zz_iinc (lv' := [(1, .int (iI (pl + 1))), (2, .int (iI isx)), (0, .ref a0)]) hx hb dX11_findsRanges_73 hl (k := 1) rfl (by decide) rfl (fun ls hl => ?_)
              refine lv_goto (tgt := 2) hx hb dX11_findsRanges_76 (by decide) ?_
              exact ih2 (pl + 1) (zU w9 pl z64_1) _ _ _ (by omega) (by exact upd_all (P := fun j x => FrIp (egM ms) j x) i1 (by unfold FrIp; first | exact Or.inl ⟨by omega, rfl⟩ | exact Or.inr (Or.inl (by have h20 : 1 ≤ lgM ms (pl / 10) (pl % 10) 1 ∧ lgM ms (pl / 10) (pl % 10) 1 ≤ 20 := egM_20 mL (by omega) (by omega) (by omega); exact ⟨by omega, by omega, by omega, ⟨_, egM_iff.mpr ⟨by omega, by omega, by omega, by omega, by omega, rfl, by omega⟩⟩, fun r y hy => by have := (egM_iff.mp hy).2.2.2.2.2.2; omega⟩)) | exact Or.inr (Or.inr ⟨by omega, rfl, fun r => egM_no (by omega)⟩))) (by omega) hP hD hS (lv_sub hl [0, 2] rfl)
          · refine zz_iconst hx hb dX11_findsRanges_46 ?_
            refine lv_goto (tgt := 72) hx hb dX11_findsRanges_47 (by decide) ?_
            refine zz_iast hx hb hK hP hD hS 5 rfl (by decide) (by omega) dX11_findsRanges_72 (fun H locs hP hD hS => ?_)
            have hP : va_P D vwCl (bModel tA a0 a1 a2 a3 a4 a5 a6 a7 a8 a9 a10 ms mbef msav misv mpast mpm mthr (zU w9 pl 0) mnds mtkp mline mlm mtxt mlen mat mwr merr mfail mcmd mcm) H := hP
            have hD : va_D A (bModel tA a0 a1 a2 a3 a4 a5 a6 a7 a8 a9 a10 ms mbef msav misv mpast mpm mthr (zU w9 pl 0) mnds mtkp mline mlm mtxt mlen mat mwr merr mfail mcmd mcm) := hD
            refine zz_iinc (lv' := [(1, .int (iI (pl + 1))), (2, .int (iI isx)), (0, .ref a0)]) hx hb dX11_findsRanges_73 hl (k := 1) rfl (by decide) rfl (fun ls hl => ?_)
            refine lv_goto (tgt := 2) hx hb dX11_findsRanges_76 (by decide) ?_
            exact ih2 (pl + 1) (zU w9 pl 0) _ _ _ (by omega) (by exact upd_all (P := fun j x => FrIp (egM ms) j x) i1 (by unfold FrIp; first | exact Or.inl ⟨by omega, rfl⟩ | exact Or.inr (Or.inl (by have h20 : 1 ≤ lgM ms (pl / 10) (pl % 10) 1 ∧ lgM ms (pl / 10) (pl % 10) 1 ≤ 20 := egM_20 mL (by omega) (by omega) (by omega); exact ⟨by omega, by omega, by omega, ⟨_, egM_iff.mpr ⟨by omega, by omega, by omega, by omega, by omega, rfl, by omega⟩⟩, fun r y hy => by have := (egM_iff.mp hy).2.2.2.2.2.2; omega⟩)) | exact Or.inr (Or.inr ⟨by omega, rfl, fun r => egM_no (by omega)⟩))) (by omega) hP hD hS (lv_sub hl [0, 2] rfl)
        refine lv_aload_n hx hb dX11_findsRanges_8 rfl (lv_at hl 1 rfl) ?_
        refine lv_iload_n hx hb dX11_findsRanges_9 rfl (lv_at hl 0 rfl) ?_
        refine zz_bipush hx hb dX11_findsRanges_10 (by decide) ?_
        refine zz_idiv hx hb dX11_findsRanges_12 (by omega) (by omega) ?_
        refine lv_iload_n hx hb dX11_findsRanges_13 rfl (lv_at hl 0 rfl) ?_
        refine zz_bipush hx hb dX11_findsRanges_14 (by decide) ?_
        refine zz_irem hx hb dX11_findsRanges_16 (by omega) (by omega) ?_
        refine zz_iconst hx hb dX11_findsRanges_17 ?_
        refine zz_callVi (As := [.int (iI (pl / 10)), .int (iI (pl % 10)), .int (iI 0)]) (rest := []) (wf := fun u => bModel tA a0 a1 a2 a3 a4 a5 a6 a7 a8 a9 a10 ms mbef msav misv mpast mpm mthr w9 mnds mtkp mline mlm mtxt mlen mat mwr merr mfail mcmd mcm) ⟨hx, hb, hml, hown, hts⟩ (c_X11_leg l D tA a0 a1 a2 a3 a4 a5 a6 a7 a8 a9 a10 H.size ms mbef msav misv mpast mpm mthr w9 mnds mtkp mline mlm mtxt mlen mat mwr merr mfail mcmd mcm (pl / 10) (pl % 10) 0 (by first | assumption | omega) (by first | assumption | omega) (by first | assumption | omega) (by first | assumption | omega) (by first | assumption | omega) (by first | assumption | omega)) (cwV 3 hts gX11_findsRanges_X11_leg rfl rfl rfl (by decide +kernel) ⟨Nat.le_of_ble_eq_true rfl, Nat.le_of_ble_eq_true rfl⟩) hK hP hD hS hA [0, 1, 2, 3, 4, 5, 6, 7, 8, 9, 10] [] [0, 1, 2, 3, 4, 5, 6, 7, 8, 9, 10] rfl rfl (by decide) (by decide) (by decide) (by decide) (fun _ => rfl) (ci := 13) (q0 := 0) rfl rfl rfl rfl rfl hl.1 (Nat.le_of_ble_eq_true rfl) dX11_findsRanges_18 ⟨Nat.le_of_ble_eq_true rfl, Nat.le_of_ble_eq_true rfl⟩ ?_
        intro z18_3 u H locs p18_4 hP hD hS
        have hP : va_P D vwCl (bModel tA a0 a1 a2 a3 a4 a5 a6 a7 a8 a9 a10 ms mbef msav misv mpast mpm mthr w9 mnds mtkp mline mlm mtxt mlen mat mwr merr mfail mcmd mcm) H := hP
        have hD : va_D A (bModel tA a0 a1 a2 a3 a4 a5 a6 a7 a8 a9 a10 ms mbef msav misv mpast mpm mthr w9 mnds mtkp mline mlm mtxt mlen mat mwr merr mfail mcmd mcm) := hD
        have q_18 : z18_3 = lgM ms (pl / 10) (pl % 10) 0 := p18_4
        have rl := hlr (pl / 10) (pl % 10) (0) (by omega) (by omega) (by omega) (by omega) (by omega) (by omega)
        refine zz_if_le (tgt := 28) hx hb dX11_findsRanges_21 (by decide) (by omega) (fun c_21 => ?_) (fun c_21 => ?_)
        · refine zz_iconst hx hb dX11_findsRanges_28 ?_
          exact J29 0 _ _ _ (by omega) hP hD hS (lv_sub hl [0, 1] rfl)
        · refine zz_iconst hx hb dX11_findsRanges_24 ?_
          refine lv_goto (tgt := 29) hx hb dX11_findsRanges_25 (by decide) ?_
          exact J29 1 _ _ _ (by omega) hP hD hS (lv_sub hl [0, 1] rfl)
  exact L2 _ 0 mways _ _ _ (by omega) (by exact nothing_yet) (Nat.lt_succ_self _) hP hD hS (lv_sub hl [0, 1] rfl)

set_option maxHeartbeats 4000000 in
set_option maxRecDepth 100000 in
theorem c_X11_asksWay (l : Launch) (D : va_G) (tA : Nat → ClassId) (a0 a1 a2 a3 a4 a5 a6 a7 a8 a9 a10 : Nat) (sz : Nat) (ms : Int → Int) (mbef : Int → Int) (msav : Int → Int) (misv : Int) (mpast : Int → Int) (mpm : Int) (mthr : Int) (mways : Int → Int) (mnds : Int → Int) (mtkp : Int → Int) (mline : Int → Int) (mlm : Int) (mtxt : Int → Int) (mlen : Int) (mat : Int) (mwr : Int) (merr : Int) (mfail : Int) (mcmd : Int → Int) (mcm : Int) (frm : Int) (too : Int) (lit : Int) (r_frm : -2147483648 ≤ frm ∧ frm ≤ 2147483647) (r_too : -2147483648 ≤ too ∧ too ≤ 2147483647) (r_lit : lit = 0 ∨ lit = 1) (hm : MV ms) : zMi l yX11_asksWay wsX11_asksWay ({ frames := 3, cells := 0, slots := 0, locals := 70 }) D tA [.ref a0, .int (iI frm), .int (iI too), .int (iI lit)] (bModel tA a0 a1 a2 a3 a4 a5 a6 a7 a8 a9 a10 ms mbef msav misv mpast mpm mthr mways mnds mtkp mline mlm mtxt mlen mat mwr merr mfail mcmd mcm) sz (fun (z : Int) (u : (Int → Int) × (Int)) => (askP (inP (ms 0) frm too) (distP (egM ms (rgM ms lit)) frm too) z u.2)) (fun (u : (Int → Int) × (Int)) => bModel tA a0 a1 a2 a3 a4 a5 a6 a7 a8 a9 a10 ms mbef msav misv mpast mpm u.2 u.1 mnds mtkp mline mlm mtxt mlen mat mwr merr mfail mcmd mcm) 0 0 := by
  refine zMi_of (cc := cX11_asksWay) (maxL := 5) (by decide) rfl (fun z u h => rfl) (Nat.le_of_ble_eq_true rfl) ?_
  intro p e s m args below meth c A Q ls hx hb hml hts hown hK hP hD hA hret hl
  obtain ⟨H, hHe⟩ : ∃ H : Heap, H = s.heap := ⟨_, rfl⟩
  have hS : va_S A s.heap H [] := by rw [hHe]; exact va_S.rf
  rw [← hHe] at hP ⊢
  have hl : lv_has ls 5 [(0, .ref a0), (1, .int (iI frm)), (2, .int (iI too)), (3, .int (iI lit))] := hl
  have iX11 : ∀ v ∈ wsX110, v ∈ wsX11_asksWay := by decide +kernel
  have f_22 := hts (.fieldLink RX11 22 "HarborLightsModel" "ways" "[I") (by decide +kernel)
  have f_49 := hts (.fieldLink RX11 49 "HarborLightsModel" "thrown" "I") (by decide +kernel)
  obtain ⟨⟨mp0, mp1, mc0, mc1, mf0, mf1, mr0, mr1⟩, hlr, mL, mS⟩ := id hm
  refine lv_aload_n hx hb dX11_asksWay_0 rfl (lv_at hl 0 rfl) ?_
  refine lv_iload_n hx hb dX11_asksWay_1 rfl (lv_at hl 1 rfl) ?_
  refine lv_iload_n hx hb dX11_asksWay_2 rfl (lv_at hl 2 rfl) ?_
  refine zz_callVi (As := [.int (iI frm), .int (iI too)]) (rest := []) (wf := fun u => bModel tA a0 a1 a2 a3 a4 a5 a6 a7 a8 a9 a10 ms mbef msav misv mpast mpm mthr mways mnds mtkp mline mlm mtxt mlen mat mwr merr mfail mcmd mcm) ⟨hx, hb, hml, hown, hts⟩ (c_X11_arePorts l D tA a0 a1 a2 a3 a4 a5 a6 a7 a8 a9 a10 H.size ms mbef msav misv mpast mpm mthr mways mnds mtkp mline mlm mtxt mlen mat mwr merr mfail mcmd mcm frm too (by first | assumption | omega) (by first | assumption | omega) (by first | assumption | omega)) (cwV 2 hts gX11_asksWay_X11_arePorts rfl rfl rfl (by decide +kernel) ⟨Nat.le_of_ble_eq_true rfl, Nat.le_of_ble_eq_true rfl⟩) hK hP hD hS hA [0, 1, 2, 3, 4, 5, 6, 7, 8, 9, 10] [] [0, 1, 2, 3, 4, 5, 6, 7, 8, 9, 10] rfl rfl (by decide) (by decide) (by decide) (by decide) (fun _ => rfl) (ci := 13) (q0 := 0) rfl rfl rfl rfl rfl hl.1 (Nat.le_of_ble_eq_true rfl) dX11_asksWay_3 ⟨Nat.le_of_ble_eq_true rfl, Nat.le_of_ble_eq_true rfl⟩ ?_
  intro z3_1 u H locs p3_2 hP hD hS
  have hP : va_P D vwCl (bModel tA a0 a1 a2 a3 a4 a5 a6 a7 a8 a9 a10 ms mbef msav misv mpast mpm mthr mways mnds mtkp mline mlm mtxt mlen mat mwr merr mfail mcmd mcm) H := hP
  have hD : va_D A (bModel tA a0 a1 a2 a3 a4 a5 a6 a7 a8 a9 a10 ms mbef msav misv mpast mpm mthr mways mnds mtkp mline mlm mtxt mlen mat mwr merr mfail mcmd mcm) := hD
  have q_3 : (z3_1 = 1 ∧ inP (ms 0) frm too) ∨ (z3_1 = 0 ∧ ¬ inP (ms 0) frm too) := p3_2
  refine zz_if_ne (tgt := 15) hx hb dX11_asksWay_6 (by decide) (by omega) (fun c_6 => ?_) (fun c_6 => ?_)
  · have hin : inP (ms 0) frm too := q_3.elim (fun g => g.2) (fun g => absurd g.1 (by omega))
    have hpp : 0 ≤ frm ∧ frm < 10 ∧ 0 ≤ too ∧ too < 10 := by obtain ⟨x0, x1, x2, x3⟩ := id hin; omega
    refine lv_aload_n hx hb dX11_asksWay_15 rfl (lv_at hl 0 rfl) ?_
    refine lv_iload_n hx hb dX11_asksWay_16 rfl (lv_at hl 3 rfl) ?_
    refine zz_callVv (As := [.int (iI lit)]) (rest := []) (wf := fun u => bModel tA a0 a1 a2 a3 a4 a5 a6 a7 a8 a9 a10 ms mbef msav misv mpast mpm mthr u mnds mtkp mline mlm mtxt mlen mat mwr merr mfail mcmd mcm) ⟨hx, hb, hml, hown, hts⟩ (c_X11_finds l D tA a0 a1 a2 a3 a4 a5 a6 a7 a8 a9 a10 H.size ms mbef msav misv mpast mpm mthr mways mnds mtkp mline mlm mtxt mlen mat mwr merr mfail mcmd mcm lit (by first | assumption | omega) (by first | assumption | omega)) (cwV 1 hts gX11_asksWay_X11_finds rfl rfl rfl (by decide +kernel) ⟨Nat.le_of_ble_eq_true rfl, Nat.le_of_ble_eq_true rfl⟩) hK hP hD hS hA [0, 1, 2, 3, 4, 5, 6, 7, 8, 9, 10] [] [0, 1, 2, 3, 4, 5, 6, 7, 8, 9, 10] rfl rfl (by decide) (by decide) (by decide) (by decide) (fun _ => rfl) (ci := 13) (q0 := 0) rfl rfl rfl rfl rfl hl.1 (Nat.le_of_ble_eq_true rfl) dX11_asksWay_17 ⟨Nat.le_of_ble_eq_true rfl, Nat.le_of_ble_eq_true rfl⟩ ?_
    intro u H locs p17_4 hP hD hS
    obtain ⟨mways_3, rfl⟩ : ∃ q, q = u := ⟨_, rfl⟩
    have hP : va_P D vwCl (bModel tA a0 a1 a2 a3 a4 a5 a6 a7 a8 a9 a10 ms mbef msav misv mpast mpm mthr mways_3 mnds mtkp mline mlm mtxt mlen mat mwr merr mfail mcmd mcm) H := hP
    have hD : va_D A (bModel tA a0 a1 a2 a3 a4 a5 a6 a7 a8 a9 a10 ms mbef msav misv mpast mpm mthr mways_3 mnds mtkp mline mlm mtxt mlen mat mwr merr mfail mcmd mcm) := hD
    have q_17 : ∀ a b, 0 ≤ a → a < 10 → 0 ≤ b → b < 10 → wayP (egM ms (rgM ms lit)) a b (mways_3 (10 * a + b)) := p17_4
    refine lv_aload_n hx hb dX11_asksWay_20 rfl (lv_at hl 0 rfl) ?_
    refine va_get (D := D) (ci := 13) (v := .ref a5) (C := RX11) (T := TX11) (N := 20) hx hb hts iX11 hown hK hP 0 rfl rfl 7 (by decide) f_22 (fun _ h9 => h9) rfl dX11_asksWay_21 ?_
    refine zz_bipush hx hb dX11_asksWay_24 (by decide) ?_
    refine lv_iload_n hx hb dX11_asksWay_26 rfl (lv_at hl 1 rfl) ?_
    refine zz_imul hx hb dX11_asksWay_27 ?_
    refine lv_iload_n hx hb dX11_asksWay_28 rfl (lv_at hl 2 rfl) ?_
    refine zz_iadd hx hb dX11_asksWay_29 ?_
    refine zz_iald hx hb hK hP 5 rfl (by decide) (by omega) dX11_asksWay_30 ?_
    have hwy := wayP_in (q_17 frm too (by omega) (by omega) (by omega) (by omega))
    refine lv_istore (lv' := [(4, .int (iI (mways_3 ((10 * frm) + too)))), (0, .ref a0), (1, .int (iI frm)), (2, .int (iI too)), (3, .int (iI lit))]) hx hb dX11_asksWay_31 hl (by decide) rfl (fun ls hl => ?_)
    refine lv_aload_n hx hb dX11_asksWay_33 rfl (lv_at hl 1 rfl) ?_
    refine lv_iload hx hb dX11_asksWay_34 (lv_at hl 0 rfl) ?_
    refine zz_ldc hx hb hown (hts (.constant RX11 118 (100000)) (by decide +kernel)) (n := 100000) (by decide +kernel) dX11_asksWay_36 ?_
    refine zz_icmp_lt (tgt := 45) hx hb dX11_asksWay_38 (by decide) (by omega) (by decide) (fun c_38 => ?_) (fun c_38 => ?_)
    · refine zz_iconst hx hb dX11_asksWay_45 ?_
      refine va_put (D := D) (ci := 13) (v := .int (iI 0)) (ty := .int) (C := RX11) (T := TX11) (N := 20) hx hb hts iX11 tyX11 tyX11_ok nmX11 hown hK hP hD hS 0 rfl rfl 6 (by decide) f_49 (fun _ h9 => h9) rfl (by decide +kernel) rfl rfl (Nat.le_of_ble_eq_true rfl) dX11_asksWay_46 (fun H locs hP hD hS => ?_)
      have hP : va_P D vwCl (bModel tA a0 a1 a2 a3 a4 a5 a6 a7 a8 a9 a10 ms mbef msav misv mpast mpm 0 mways_3 mnds mtkp mline mlm mtxt mlen mat mwr merr mfail mcmd mcm) H := hP
      have hD : va_D A (bModel tA a0 a1 a2 a3 a4 a5 a6 a7 a8 a9 a10 ms mbef msav misv mpast mpm 0 mways_3 mnds mtkp mline mlm mtxt mlen mat mwr merr mfail mcmd mcm) := hD
      refine lv_aload_n hx hb dX11_asksWay_49 rfl (lv_at hl 1 rfl) ?_
      refine va_get (D := D) (ci := 13) (v := .int (iI 0)) (C := RX11) (T := TX11) (N := 20) hx hb hts iX11 hown hK hP 0 rfl rfl 6 (by decide) f_49 (fun _ h9 => h9) rfl dX11_asksWay_50 ?_
      refine zz_if_le (tgt := 60) hx hb dX11_asksWay_53 (by decide) (by decide) (fun c_53 => ?_) (fun c_53 => ?_)
      · refine lv_iload hx hb dX11_asksWay_60 (lv_at hl 0 rfl) ?_
        exact hret (mways_3 ((10 * frm) + too)) (mways_3, 0) _ _ _ _ dX11_asksWay_62 (show askP (inP (ms 0) frm too) (distP (egM ms (rgM ms lit)) frm too) (mways_3 ((10 * frm) + too)) 0 from by first | exact Or.inr ⟨hin, Or.inr ⟨rfl, by omega, (hwy.2.2.1 (by omega)).2.2⟩⟩ | exact Or.inr ⟨hin, Or.inl ⟨rfl, (hwy.2.2.2 (by omega)).2⟩⟩) hP hD hS
      · exact absurd c_53 (by decide)
    · refine zz_iconst hx hb dX11_asksWay_41 ?_
      refine lv_goto (tgt := 46) hx hb dX11_asksWay_42 (by decide) ?_
      refine va_put (D := D) (ci := 13) (v := .int (iI 2)) (ty := .int) (C := RX11) (T := TX11) (N := 20) hx hb hts iX11 tyX11 tyX11_ok nmX11 hown hK hP hD hS 0 rfl rfl 6 (by decide) f_49 (fun _ h9 => h9) rfl (by decide +kernel) rfl rfl (Nat.le_of_ble_eq_true rfl) dX11_asksWay_46 (fun H locs hP hD hS => ?_)
      have hP : va_P D vwCl (bModel tA a0 a1 a2 a3 a4 a5 a6 a7 a8 a9 a10 ms mbef msav misv mpast mpm 2 mways_3 mnds mtkp mline mlm mtxt mlen mat mwr merr mfail mcmd mcm) H := hP
      have hD : va_D A (bModel tA a0 a1 a2 a3 a4 a5 a6 a7 a8 a9 a10 ms mbef msav misv mpast mpm 2 mways_3 mnds mtkp mline mlm mtxt mlen mat mwr merr mfail mcmd mcm) := hD
      refine lv_aload_n hx hb dX11_asksWay_49 rfl (lv_at hl 1 rfl) ?_
      refine va_get (D := D) (ci := 13) (v := .int (iI 2)) (C := RX11) (T := TX11) (N := 20) hx hb hts iX11 hown hK hP 0 rfl rfl 6 (by decide) f_49 (fun _ h9 => h9) rfl dX11_asksWay_50 ?_
      refine zz_if_le (tgt := 60) hx hb dX11_asksWay_53 (by decide) (by decide) (fun c_53 => ?_) (fun c_53 => ?_)
      · exact absurd c_53 (by decide)
      · refine zz_iconst hx hb dX11_asksWay_56 ?_
        refine lv_goto (tgt := 62) hx hb dX11_asksWay_57 (by decide) ?_
        exact hret 0 (mways_3, 2) _ _ _ _ dX11_asksWay_62 (show askP (inP (ms 0) frm too) (distP (egM ms (rgM ms lit)) frm too) (0 : Int) 2 from by first | exact Or.inr ⟨hin, Or.inr ⟨rfl, by omega, (hwy.2.2.1 (by omega)).2.2⟩⟩ | exact Or.inr ⟨hin, Or.inl ⟨rfl, (hwy.2.2.2 (by omega)).2⟩⟩) hP hD hS
  · refine lv_aload_n hx hb dX11_asksWay_9 rfl (lv_at hl 0 rfl) ?_
    refine zz_iconst hx hb dX11_asksWay_10 ?_
    refine zz_callVi (As := [.int (iI 1)]) (rest := []) (wf := fun u => bModel tA a0 a1 a2 a3 a4 a5 a6 a7 a8 a9 a10 ms mbef msav misv mpast mpm 1 mways mnds mtkp mline mlm mtxt mlen mat mwr merr mfail mcmd mcm) ⟨hx, hb, hml, hown, hts⟩ (c_X11_fails l D tA a0 a1 a2 a3 a4 a5 a6 a7 a8 a9 a10 H.size ms mbef msav misv mpast mpm mthr mways mnds mtkp mline mlm mtxt mlen mat mwr merr mfail mcmd mcm 1 (by first | assumption | omega)) (cwV 1 hts gX11_asksWay_X11_fails rfl rfl rfl (by decide +kernel) ⟨Nat.le_of_ble_eq_true rfl, Nat.le_of_ble_eq_true rfl⟩) hK hP hD hS hA [0, 1, 2, 3, 4, 5, 6, 7, 8, 9, 10] [] [0, 1, 2, 3, 4, 5, 6, 7, 8, 9, 10] rfl rfl (by decide) (by decide) (by decide) (by decide) (fun _ => rfl) (ci := 13) (q0 := 0) rfl rfl rfl rfl rfl hl.1 (Nat.le_of_ble_eq_true rfl) dX11_asksWay_11 ⟨Nat.le_of_ble_eq_true rfl, Nat.le_of_ble_eq_true rfl⟩ ?_
    intro z11_5 u H locs p11_6 hP hD hS
    have hP : va_P D vwCl (bModel tA a0 a1 a2 a3 a4 a5 a6 a7 a8 a9 a10 ms mbef msav misv mpast mpm 1 mways mnds mtkp mline mlm mtxt mlen mat mwr merr mfail mcmd mcm) H := hP
    have hD : va_D A (bModel tA a0 a1 a2 a3 a4 a5 a6 a7 a8 a9 a10 ms mbef msav misv mpast mpm 1 mways mnds mtkp mline mlm mtxt mlen mat mwr merr mfail mcmd mcm) := hD
    have q_11 : z11_5 = 0 := p11_6
    exact hret z11_5 (mways, 1) _ _ _ _ dX11_asksWay_14 (show askP (inP (ms 0) frm too) (distP (egM ms (rgM ms lit)) frm too) z11_5 1 from by exact Or.inl ⟨rfl, q_3.elim (fun g => absurd g.1 (by omega)) (fun g => g.2)⟩) hP hD hS

set_option maxHeartbeats 4000000 in
set_option maxRecDepth 100000 in
theorem c_X11_distance (l : Launch) (D : va_G) (tA : Nat → ClassId) (a0 a1 a2 a3 a4 a5 a6 a7 a8 a9 a10 : Nat) (sz : Nat) (ms : Int → Int) (mbef : Int → Int) (msav : Int → Int) (misv : Int) (mpast : Int → Int) (mpm : Int) (mthr : Int) (mways : Int → Int) (mnds : Int → Int) (mtkp : Int → Int) (mline : Int → Int) (mlm : Int) (mtxt : Int → Int) (mlen : Int) (mat : Int) (mwr : Int) (merr : Int) (mfail : Int) (mcmd : Int → Int) (mcm : Int) (frm : Int) (too : Int) (r_frm : -2147483648 ≤ frm ∧ frm ≤ 2147483647) (r_too : -2147483648 ≤ too ∧ too ≤ 2147483647) (hm : MV ms) : zMi l yX11_distance wsX11_distance ({ frames := 4, cells := 0, slots := 0, locals := 94 }) D tA [.ref a0, .int (iI frm), .int (iI too)] (bModel tA a0 a1 a2 a3 a4 a5 a6 a7 a8 a9 a10 ms mbef msav misv mpast mpm mthr mways mnds mtkp mline mlm mtxt mlen mat mwr merr mfail mcmd mcm) sz (fun (z : Int) (u : (Int → Int) × (Int)) => (askP (inP (ms 0) frm too) (distP (egM ms (rgM ms 0)) frm too) z u.2)) (fun (u : (Int → Int) × (Int)) => bModel tA a0 a1 a2 a3 a4 a5 a6 a7 a8 a9 a10 ms mbef msav misv mpast mpm u.2 u.1 mnds mtkp mline mlm mtxt mlen mat mwr merr mfail mcmd mcm) 0 0 := by
  refine zMi_of (cc := cX11_distance) (maxL := 3) (by decide) rfl (fun z u h => rfl) (Nat.le_of_ble_eq_true rfl) ?_
  intro p e s m args below meth c A Q ls hx hb hml hts hown hK hP hD hA hret hl
  obtain ⟨H, hHe⟩ : ∃ H : Heap, H = s.heap := ⟨_, rfl⟩
  have hS : va_S A s.heap H [] := by rw [hHe]; exact va_S.rf
  rw [← hHe] at hP ⊢
  have hl : lv_has ls 3 [(0, .ref a0), (1, .int (iI frm)), (2, .int (iI too))] := hl
  refine lv_aload_n hx hb dX11_distance_0 rfl (lv_at hl 0 rfl) ?_
  refine lv_iload_n hx hb dX11_distance_1 rfl (lv_at hl 1 rfl) ?_
  refine lv_iload_n hx hb dX11_distance_2 rfl (lv_at hl 2 rfl) ?_
  refine zz_iconst hx hb dX11_distance_3 ?_
  refine zz_callVi (As := [.int (iI frm), .int (iI too), .int (iI 0)]) (rest := []) (wf := fun u => bModel tA a0 a1 a2 a3 a4 a5 a6 a7 a8 a9 a10 ms mbef msav misv mpast mpm u.2 u.1 mnds mtkp mline mlm mtxt mlen mat mwr merr mfail mcmd mcm) ⟨hx, hb, hml, hown, hts⟩ (c_X11_asksWay l D tA a0 a1 a2 a3 a4 a5 a6 a7 a8 a9 a10 H.size ms mbef msav misv mpast mpm mthr mways mnds mtkp mline mlm mtxt mlen mat mwr merr mfail mcmd mcm frm too 0 (by first | assumption | omega) (by first | assumption | omega) (by first | assumption | omega) (by first | assumption | omega)) (cwV 3 hts gX11_distance_X11_asksWay rfl rfl rfl (by decide +kernel) ⟨Nat.le_of_ble_eq_true rfl, Nat.le_of_ble_eq_true rfl⟩) hK hP hD hS hA [0, 1, 2, 3, 4, 5, 6, 7, 8, 9, 10] [] [0, 1, 2, 3, 4, 5, 6, 7, 8, 9, 10] rfl rfl (by decide) (by decide) (by decide) (by decide) (fun _ => rfl) (ci := 13) (q0 := 0) rfl rfl rfl rfl rfl hl.1 (Nat.le_of_ble_eq_true rfl) dX11_distance_4 ⟨Nat.le_of_ble_eq_true rfl, Nat.le_of_ble_eq_true rfl⟩ ?_
  intro z4_3 u H locs p4_4 hP hD hS
  obtain ⟨mways_1, mthr_2⟩ := u
  have hP : va_P D vwCl (bModel tA a0 a1 a2 a3 a4 a5 a6 a7 a8 a9 a10 ms mbef msav misv mpast mpm mthr_2 mways_1 mnds mtkp mline mlm mtxt mlen mat mwr merr mfail mcmd mcm) H := hP
  have hD : va_D A (bModel tA a0 a1 a2 a3 a4 a5 a6 a7 a8 a9 a10 ms mbef msav misv mpast mpm mthr_2 mways_1 mnds mtkp mline mlm mtxt mlen mat mwr merr mfail mcmd mcm) := hD
  have q_4 : askP (inP (ms 0) frm too) (distP (egM ms (rgM ms 0)) frm too) z4_3 mthr_2 := p4_4
  exact hret z4_3 (mways_1, mthr_2) _ _ _ _ dX11_distance_7 (show askP (inP (ms 0) frm too) (distP (egM ms (rgM ms 0)) frm too) z4_3 mthr_2 from by assumption) hP hD hS

set_option maxHeartbeats 4000000 in
set_option maxRecDepth 100000 in
theorem c_X11_distanceByRounds (l : Launch) (D : va_G) (tA : Nat → ClassId) (a0 a1 a2 a3 a4 a5 a6 a7 a8 a9 a10 : Nat) (sz : Nat) (ms : Int → Int) (mbef : Int → Int) (msav : Int → Int) (misv : Int) (mpast : Int → Int) (mpm : Int) (mthr : Int) (mways : Int → Int) (mnds : Int → Int) (mtkp : Int → Int) (mline : Int → Int) (mlm : Int) (mtxt : Int → Int) (mlen : Int) (mat : Int) (mwr : Int) (merr : Int) (mfail : Int) (mcmd : Int → Int) (mcm : Int) (frm : Int) (too : Int) (r_frm : -2147483648 ≤ frm ∧ frm ≤ 2147483647) (r_too : -2147483648 ≤ too ∧ too ≤ 2147483647) (hm : MV ms) : zMi l yX11_distanceByRounds wsX11_distanceByRounds ({ frames := 4, cells := 0, slots := 0, locals := 94 }) D tA [.ref a0, .int (iI frm), .int (iI too)] (bModel tA a0 a1 a2 a3 a4 a5 a6 a7 a8 a9 a10 ms mbef msav misv mpast mpm mthr mways mnds mtkp mline mlm mtxt mlen mat mwr merr mfail mcmd mcm) sz (fun (z : Int) (u : (Int → Int) × (Int)) => (askP (inP (ms 0) frm too) (distP (egM ms (rgM ms 0)) frm too) z u.2)) (fun (u : (Int → Int) × (Int)) => bModel tA a0 a1 a2 a3 a4 a5 a6 a7 a8 a9 a10 ms mbef msav misv mpast mpm u.2 u.1 mnds mtkp mline mlm mtxt mlen mat mwr merr mfail mcmd mcm) 0 0 := by
  refine zMi_of (cc := cX11_distanceByRounds) (maxL := 3) (by decide) rfl (fun z u h => rfl) (Nat.le_of_ble_eq_true rfl) ?_
  intro p e s m args below meth c A Q ls hx hb hml hts hown hK hP hD hA hret hl
  obtain ⟨H, hHe⟩ : ∃ H : Heap, H = s.heap := ⟨_, rfl⟩
  have hS : va_S A s.heap H [] := by rw [hHe]; exact va_S.rf
  rw [← hHe] at hP ⊢
  have hl : lv_has ls 3 [(0, .ref a0), (1, .int (iI frm)), (2, .int (iI too))] := hl
  refine lv_aload_n hx hb dX11_distanceByRounds_0 rfl (lv_at hl 0 rfl) ?_
  refine lv_iload_n hx hb dX11_distanceByRounds_1 rfl (lv_at hl 1 rfl) ?_
  refine lv_iload_n hx hb dX11_distanceByRounds_2 rfl (lv_at hl 2 rfl) ?_
  refine zz_iconst hx hb dX11_distanceByRounds_3 ?_
  refine zz_callVi (As := [.int (iI frm), .int (iI too), .int (iI 0)]) (rest := []) (wf := fun u => bModel tA a0 a1 a2 a3 a4 a5 a6 a7 a8 a9 a10 ms mbef msav misv mpast mpm u.2 u.1 mnds mtkp mline mlm mtxt mlen mat mwr merr mfail mcmd mcm) ⟨hx, hb, hml, hown, hts⟩ (c_X11_asksWay l D tA a0 a1 a2 a3 a4 a5 a6 a7 a8 a9 a10 H.size ms mbef msav misv mpast mpm mthr mways mnds mtkp mline mlm mtxt mlen mat mwr merr mfail mcmd mcm frm too 0 (by first | assumption | omega) (by first | assumption | omega) (by first | assumption | omega) (by first | assumption | omega)) (cwV 3 hts gX11_distanceByRounds_X11_asksWay rfl rfl rfl (by decide +kernel) ⟨Nat.le_of_ble_eq_true rfl, Nat.le_of_ble_eq_true rfl⟩) hK hP hD hS hA [0, 1, 2, 3, 4, 5, 6, 7, 8, 9, 10] [] [0, 1, 2, 3, 4, 5, 6, 7, 8, 9, 10] rfl rfl (by decide) (by decide) (by decide) (by decide) (fun _ => rfl) (ci := 13) (q0 := 0) rfl rfl rfl rfl rfl hl.1 (Nat.le_of_ble_eq_true rfl) dX11_distanceByRounds_4 ⟨Nat.le_of_ble_eq_true rfl, Nat.le_of_ble_eq_true rfl⟩ ?_
  intro z4_3 u H locs p4_4 hP hD hS
  obtain ⟨mways_1, mthr_2⟩ := u
  have hP : va_P D vwCl (bModel tA a0 a1 a2 a3 a4 a5 a6 a7 a8 a9 a10 ms mbef msav misv mpast mpm mthr_2 mways_1 mnds mtkp mline mlm mtxt mlen mat mwr merr mfail mcmd mcm) H := hP
  have hD : va_D A (bModel tA a0 a1 a2 a3 a4 a5 a6 a7 a8 a9 a10 ms mbef msav misv mpast mpm mthr_2 mways_1 mnds mtkp mline mlm mtxt mlen mat mwr merr mfail mcmd mcm) := hD
  have q_4 : askP (inP (ms 0) frm too) (distP (egM ms (rgM ms 0)) frm too) z4_3 mthr_2 := p4_4
  exact hret z4_3 (mways_1, mthr_2) _ _ _ _ dX11_distanceByRounds_7 (show askP (inP (ms 0) frm too) (distP (egM ms (rgM ms 0)) frm too) z4_3 mthr_2 from by assumption) hP hD hS

set_option maxHeartbeats 4000000 in
set_option maxRecDepth 100000 in
theorem c_X11_litDistance (l : Launch) (D : va_G) (tA : Nat → ClassId) (a0 a1 a2 a3 a4 a5 a6 a7 a8 a9 a10 : Nat) (sz : Nat) (ms : Int → Int) (mbef : Int → Int) (msav : Int → Int) (misv : Int) (mpast : Int → Int) (mpm : Int) (mthr : Int) (mways : Int → Int) (mnds : Int → Int) (mtkp : Int → Int) (mline : Int → Int) (mlm : Int) (mtxt : Int → Int) (mlen : Int) (mat : Int) (mwr : Int) (merr : Int) (mfail : Int) (mcmd : Int → Int) (mcm : Int) (frm : Int) (too : Int) (r_frm : -2147483648 ≤ frm ∧ frm ≤ 2147483647) (r_too : -2147483648 ≤ too ∧ too ≤ 2147483647) (hm : MV ms) : zMi l yX11_litDistance wsX11_litDistance ({ frames := 4, cells := 0, slots := 0, locals := 94 }) D tA [.ref a0, .int (iI frm), .int (iI too)] (bModel tA a0 a1 a2 a3 a4 a5 a6 a7 a8 a9 a10 ms mbef msav misv mpast mpm mthr mways mnds mtkp mline mlm mtxt mlen mat mwr merr mfail mcmd mcm) sz (fun (z : Int) (u : (Int → Int) × (Int)) => (askP (inP (ms 0) frm too) (distP (egM ms (rgM ms 1)) frm too) z u.2)) (fun (u : (Int → Int) × (Int)) => bModel tA a0 a1 a2 a3 a4 a5 a6 a7 a8 a9 a10 ms mbef msav misv mpast mpm u.2 u.1 mnds mtkp mline mlm mtxt mlen mat mwr merr mfail mcmd mcm) 0 0 := by
  refine zMi_of (cc := cX11_litDistance) (maxL := 3) (by decide) rfl (fun z u h => rfl) (Nat.le_of_ble_eq_true rfl) ?_
  intro p e s m args below meth c A Q ls hx hb hml hts hown hK hP hD hA hret hl
  obtain ⟨H, hHe⟩ : ∃ H : Heap, H = s.heap := ⟨_, rfl⟩
  have hS : va_S A s.heap H [] := by rw [hHe]; exact va_S.rf
  rw [← hHe] at hP ⊢
  have hl : lv_has ls 3 [(0, .ref a0), (1, .int (iI frm)), (2, .int (iI too))] := hl
  refine lv_aload_n hx hb dX11_litDistance_0 rfl (lv_at hl 0 rfl) ?_
  refine lv_iload_n hx hb dX11_litDistance_1 rfl (lv_at hl 1 rfl) ?_
  refine lv_iload_n hx hb dX11_litDistance_2 rfl (lv_at hl 2 rfl) ?_
  refine zz_iconst hx hb dX11_litDistance_3 ?_
  refine zz_callVi (As := [.int (iI frm), .int (iI too), .int (iI 1)]) (rest := []) (wf := fun u => bModel tA a0 a1 a2 a3 a4 a5 a6 a7 a8 a9 a10 ms mbef msav misv mpast mpm u.2 u.1 mnds mtkp mline mlm mtxt mlen mat mwr merr mfail mcmd mcm) ⟨hx, hb, hml, hown, hts⟩ (c_X11_asksWay l D tA a0 a1 a2 a3 a4 a5 a6 a7 a8 a9 a10 H.size ms mbef msav misv mpast mpm mthr mways mnds mtkp mline mlm mtxt mlen mat mwr merr mfail mcmd mcm frm too 1 (by first | assumption | omega) (by first | assumption | omega) (by first | assumption | omega) (by first | assumption | omega)) (cwV 3 hts gX11_litDistance_X11_asksWay rfl rfl rfl (by decide +kernel) ⟨Nat.le_of_ble_eq_true rfl, Nat.le_of_ble_eq_true rfl⟩) hK hP hD hS hA [0, 1, 2, 3, 4, 5, 6, 7, 8, 9, 10] [] [0, 1, 2, 3, 4, 5, 6, 7, 8, 9, 10] rfl rfl (by decide) (by decide) (by decide) (by decide) (fun _ => rfl) (ci := 13) (q0 := 0) rfl rfl rfl rfl rfl hl.1 (Nat.le_of_ble_eq_true rfl) dX11_litDistance_4 ⟨Nat.le_of_ble_eq_true rfl, Nat.le_of_ble_eq_true rfl⟩ ?_
  intro z4_3 u H locs p4_4 hP hD hS
  obtain ⟨mways_1, mthr_2⟩ := u
  have hP : va_P D vwCl (bModel tA a0 a1 a2 a3 a4 a5 a6 a7 a8 a9 a10 ms mbef msav misv mpast mpm mthr_2 mways_1 mnds mtkp mline mlm mtxt mlen mat mwr merr mfail mcmd mcm) H := hP
  have hD : va_D A (bModel tA a0 a1 a2 a3 a4 a5 a6 a7 a8 a9 a10 ms mbef msav misv mpast mpm mthr_2 mways_1 mnds mtkp mline mlm mtxt mlen mat mwr merr mfail mcmd mcm) := hD
  have q_4 : askP (inP (ms 0) frm too) (distP (egM ms (rgM ms 1)) frm too) z4_3 mthr_2 := p4_4
  exact hret z4_3 (mways_1, mthr_2) _ _ _ _ dX11_litDistance_7 (show askP (inP (ms 0) frm too) (distP (egM ms (rgM ms 1)) frm too) z4_3 mthr_2 from by assumption) hP hD hS

set_option maxHeartbeats 4000000 in
set_option maxRecDepth 100000 in
theorem c_X11_neededRange (l : Launch) (D : va_G) (tA : Nat → ClassId) (a0 a1 a2 a3 a4 a5 a6 a7 a8 a9 a10 : Nat) (sz : Nat) (ms : Int → Int) (mbef : Int → Int) (msav : Int → Int) (misv : Int) (mpast : Int → Int) (mpm : Int) (mthr : Int) (mways : Int → Int) (mnds : Int → Int) (mtkp : Int → Int) (mline : Int → Int) (mlm : Int) (mtxt : Int → Int) (mlen : Int) (mat : Int) (mwr : Int) (merr : Int) (mfail : Int) (mcmd : Int → Int) (mcm : Int) (frm : Int) (too : Int) (r_frm : -2147483648 ≤ frm ∧ frm ≤ 2147483647) (r_too : -2147483648 ≤ too ∧ too ≤ 2147483647) (hm : MV ms) : zMi l yX11_neededRange wsX11_neededRange ({ frames := 2, cells := 0, slots := 0, locals := 46 }) D tA [.ref a0, .int (iI frm), .int (iI too)] (bModel tA a0 a1 a2 a3 a4 a5 a6 a7 a8 a9 a10 ms mbef msav misv mpast mpm mthr mways mnds mtkp mline mlm mtxt mlen mat mwr merr mfail mcmd mcm) sz (fun (z : Int) (u : (Int → Int) × (Int)) => ((u.2 = 1 ∧ ¬ inP (ms 0) frm too) ∨ (inP (ms 0) frm too ∧ ((u.2 = 2 ∧ frm = too) ∨ (frm ≠ too ∧ ((u.2 = 3 ∧ needP (egM ms) frm too (-1)) ∨ (u.2 = 0 ∧ z ≠ -1 ∧ needP (egM ms) frm too z))))))) (fun (u : (Int → Int) × (Int)) => bModel tA a0 a1 a2 a3 a4 a5 a6 a7 a8 a9 a10 ms mbef msav misv mpast mpm u.2 u.1 mnds mtkp mline mlm mtxt mlen mat mwr merr mfail mcmd mcm) 0 0 := by
  refine zMi_of (cc := cX11_neededRange) (maxL := 4) (by decide) rfl (fun z u h => rfl) (Nat.le_of_ble_eq_true rfl) ?_
  intro p e s m args below meth c A Q ls hx hb hml hts hown hK hP hD hA hret hl
  obtain ⟨H, hHe⟩ : ∃ H : Heap, H = s.heap := ⟨_, rfl⟩
  have hS : va_S A s.heap H [] := by rw [hHe]; exact va_S.rf
  rw [← hHe] at hP ⊢
  have hl : lv_has ls 4 [(0, .ref a0), (1, .int (iI frm)), (2, .int (iI too))] := hl
  have iX11 : ∀ v ∈ wsX110, v ∈ wsX11_neededRange := by decide +kernel
  have f_22 := hts (.fieldLink RX11 22 "HarborLightsModel" "ways" "[I") (by decide +kernel)
  have f_49 := hts (.fieldLink RX11 49 "HarborLightsModel" "thrown" "I") (by decide +kernel)
  obtain ⟨⟨mp0, mp1, mc0, mc1, mf0, mf1, mr0, mr1⟩, hlr, mL, mS⟩ := id hm
  refine lv_aload_n hx hb dX11_neededRange_0 rfl (lv_at hl 0 rfl) ?_
  refine lv_iload_n hx hb dX11_neededRange_1 rfl (lv_at hl 1 rfl) ?_
  refine lv_iload_n hx hb dX11_neededRange_2 rfl (lv_at hl 2 rfl) ?_
  refine zz_callVi (As := [.int (iI frm), .int (iI too)]) (rest := []) (wf := fun u => bModel tA a0 a1 a2 a3 a4 a5 a6 a7 a8 a9 a10 ms mbef msav misv mpast mpm mthr mways mnds mtkp mline mlm mtxt mlen mat mwr merr mfail mcmd mcm) ⟨hx, hb, hml, hown, hts⟩ (c_X11_arePorts l D tA a0 a1 a2 a3 a4 a5 a6 a7 a8 a9 a10 H.size ms mbef msav misv mpast mpm mthr mways mnds mtkp mline mlm mtxt mlen mat mwr merr mfail mcmd mcm frm too (by first | assumption | omega) (by first | assumption | omega) (by first | assumption | omega)) (cwV 2 hts gX11_neededRange_X11_arePorts rfl rfl rfl (by decide +kernel) ⟨Nat.le_of_ble_eq_true rfl, Nat.le_of_ble_eq_true rfl⟩) hK hP hD hS hA [0, 1, 2, 3, 4, 5, 6, 7, 8, 9, 10] [] [0, 1, 2, 3, 4, 5, 6, 7, 8, 9, 10] rfl rfl (by decide) (by decide) (by decide) (by decide) (fun _ => rfl) (ci := 13) (q0 := 0) rfl rfl rfl rfl rfl hl.1 (Nat.le_of_ble_eq_true rfl) dX11_neededRange_3 ⟨Nat.le_of_ble_eq_true rfl, Nat.le_of_ble_eq_true rfl⟩ ?_
  intro z3_1 u H locs p3_2 hP hD hS
  have hP : va_P D vwCl (bModel tA a0 a1 a2 a3 a4 a5 a6 a7 a8 a9 a10 ms mbef msav misv mpast mpm mthr mways mnds mtkp mline mlm mtxt mlen mat mwr merr mfail mcmd mcm) H := hP
  have hD : va_D A (bModel tA a0 a1 a2 a3 a4 a5 a6 a7 a8 a9 a10 ms mbef msav misv mpast mpm mthr mways mnds mtkp mline mlm mtxt mlen mat mwr merr mfail mcmd mcm) := hD
  have q_3 : (z3_1 = 1 ∧ inP (ms 0) frm too) ∨ (z3_1 = 0 ∧ ¬ inP (ms 0) frm too) := p3_2
  refine zz_if_ne (tgt := 15) hx hb dX11_neededRange_6 (by decide) (by omega) (fun c_6 => ?_) (fun c_6 => ?_)
  · have hin : inP (ms 0) frm too := q_3.elim (fun g => g.2) (fun g => absurd g.1 (by omega))
    have hpp : 0 ≤ frm ∧ frm < 10 ∧ 0 ≤ too ∧ too < 10 := by obtain ⟨x0, x1, x2, x3⟩ := id hin; omega
    refine lv_iload_n hx hb dX11_neededRange_15 rfl (lv_at hl 1 rfl) ?_
    refine lv_iload_n hx hb dX11_neededRange_16 rfl (lv_at hl 2 rfl) ?_
    refine zz_icmp_ne (tgt := 26) hx hb dX11_neededRange_17 (by decide) (by omega) (by omega) (fun c_17 => ?_) (fun c_17 => ?_)
    · refine lv_aload_n hx hb dX11_neededRange_26 rfl (lv_at hl 0 rfl) ?_
      refine zz_callVv (As := []) (rest := []) (wf := fun u => bModel tA a0 a1 a2 a3 a4 a5 a6 a7 a8 a9 a10 ms mbef msav misv mpast mpm mthr u mnds mtkp mline mlm mtxt mlen mat mwr merr mfail mcmd mcm) ⟨hx, hb, hml, hown, hts⟩ (c_X11_findsRanges l D tA a0 a1 a2 a3 a4 a5 a6 a7 a8 a9 a10 H.size ms mbef msav misv mpast mpm mthr mways mnds mtkp mline mlm mtxt mlen mat mwr merr mfail mcmd mcm (by first | assumption | omega)) (cwV 0 hts gX11_neededRange_X11_findsRanges rfl rfl rfl (by decide +kernel) ⟨Nat.le_of_ble_eq_true rfl, Nat.le_of_ble_eq_true rfl⟩) hK hP hD hS hA [0, 1, 2, 3, 4, 5, 6, 7, 8, 9, 10] [] [0, 1, 2, 3, 4, 5, 6, 7, 8, 9, 10] rfl rfl (by decide) (by decide) (by decide) (by decide) (fun _ => rfl) (ci := 13) (q0 := 0) rfl rfl rfl rfl rfl hl.1 (Nat.le_of_ble_eq_true rfl) dX11_neededRange_27 ⟨Nat.le_of_ble_eq_true rfl, Nat.le_of_ble_eq_true rfl⟩ ?_
      intro u H locs p27_4 hP hD hS
      obtain ⟨mways_3, rfl⟩ : ∃ q, q = u := ⟨_, rfl⟩
      have hP : va_P D vwCl (bModel tA a0 a1 a2 a3 a4 a5 a6 a7 a8 a9 a10 ms mbef msav misv mpast mpm mthr mways_3 mnds mtkp mline mlm mtxt mlen mat mwr merr mfail mcmd mcm) H := hP
      have hD : va_D A (bModel tA a0 a1 a2 a3 a4 a5 a6 a7 a8 a9 a10 ms mbef msav misv mpast mpm mthr mways_3 mnds mtkp mline mlm mtxt mlen mat mwr merr mfail mcmd mcm) := hD
      have q_27 : ∀ a b, 0 ≤ a → a < 10 → 0 ≤ b → b < 10 → a ≠ b → rngP (egM ms) a b (mways_3 (10 * a + b)) := p27_4
      refine lv_aload_n hx hb dX11_neededRange_30 rfl (lv_at hl 0 rfl) ?_
      refine va_get (D := D) (ci := 13) (v := .ref a5) (C := RX11) (T := TX11) (N := 20) hx hb hts iX11 hown hK hP 0 rfl rfl 7 (by decide) f_22 (fun _ h9 => h9) rfl dX11_neededRange_31 ?_
      refine zz_bipush hx hb dX11_neededRange_34 (by decide) ?_
      refine lv_iload_n hx hb dX11_neededRange_36 rfl (lv_at hl 1 rfl) ?_
      refine zz_imul hx hb dX11_neededRange_37 ?_
      refine lv_iload_n hx hb dX11_neededRange_38 rfl (lv_at hl 2 rfl) ?_
      refine zz_iadd hx hb dX11_neededRange_39 ?_
      refine zz_iald hx hb hK hP 5 rfl (by decide) (by omega) dX11_neededRange_40 ?_
      have hwy := rngP_in (q_27 frm too (by omega) (by omega) (by omega) (by omega) (by omega))
      refine lv_istore_n (lv' := [(3, .int (iI (mways_3 ((10 * frm) + too)))), (0, .ref a0), (1, .int (iI frm)), (2, .int (iI too))]) hx hb dX11_neededRange_41 rfl hl (by decide) rfl (fun ls hl => ?_)
      refine lv_aload_n hx hb dX11_neededRange_42 rfl (lv_at hl 1 rfl) ?_
      refine lv_iload_n hx hb dX11_neededRange_43 rfl (lv_at hl 0 rfl) ?_
      refine zz_ldc hx hb hown (hts (.constant RX11 118 (100000)) (by decide +kernel)) (n := 100000) (by decide +kernel) dX11_neededRange_44 ?_
      refine zz_icmp_ne (tgt := 53) hx hb dX11_neededRange_46 (by decide) (by omega) (by decide) (fun c_46 => ?_) (fun c_46 => ?_)
      · refine zz_iconst hx hb dX11_neededRange_53 ?_
        refine va_put (D := D) (ci := 13) (v := .int (iI 0)) (ty := .int) (C := RX11) (T := TX11) (N := 20) hx hb hts iX11 tyX11 tyX11_ok nmX11 hown hK hP hD hS 0 rfl rfl 6 (by decide) f_49 (fun _ h9 => h9) rfl (by decide +kernel) rfl rfl (Nat.le_of_ble_eq_true rfl) dX11_neededRange_54 (fun H locs hP hD hS => ?_)
        have hP : va_P D vwCl (bModel tA a0 a1 a2 a3 a4 a5 a6 a7 a8 a9 a10 ms mbef msav misv mpast mpm 0 mways_3 mnds mtkp mline mlm mtxt mlen mat mwr merr mfail mcmd mcm) H := hP
        have hD : va_D A (bModel tA a0 a1 a2 a3 a4 a5 a6 a7 a8 a9 a10 ms mbef msav misv mpast mpm 0 mways_3 mnds mtkp mline mlm mtxt mlen mat mwr merr mfail mcmd mcm) := hD
        refine lv_aload_n hx hb dX11_neededRange_57 rfl (lv_at hl 1 rfl) ?_
        refine va_get (D := D) (ci := 13) (v := .int (iI 0)) (C := RX11) (T := TX11) (N := 20) hx hb hts iX11 hown hK hP 0 rfl rfl 6 (by decide) f_49 (fun _ h9 => h9) rfl dX11_neededRange_58 ?_
        refine zz_if_le (tgt := 68) hx hb dX11_neededRange_61 (by decide) (by decide) (fun c_61 => ?_) (fun c_61 => ?_)
        · refine lv_iload_n hx hb dX11_neededRange_68 rfl (lv_at hl 0 rfl) ?_
          exact hret (mways_3 ((10 * frm) + too)) (mways_3, 0) _ _ _ _ dX11_neededRange_69 (show (0 = 1 ∧ ¬ inP (ms 0) frm too) ∨ (inP (ms 0) frm too ∧ ((0 = 2 ∧ frm = too) ∨ (frm ≠ too ∧ ((0 = 3 ∧ needP (egM ms) frm too (-1)) ∨ (0 = 0 ∧ (mways_3 ((10 * frm) + too)) ≠ -1 ∧ needP (egM ms) frm too (mways_3 ((10 * frm) + too))))))) from by first | exact Or.inr ⟨hin, Or.inr ⟨by omega, Or.inr ⟨rfl, by omega, (hwy.2.2.1 (by omega)).2⟩⟩⟩ | exact Or.inr ⟨hin, Or.inr ⟨by omega, Or.inl ⟨rfl, (hwy.2.2.2 (by omega)).2⟩⟩⟩) hP hD hS
        · exact absurd c_61 (by decide)
      · refine zz_iconst hx hb dX11_neededRange_49 ?_
        refine lv_goto (tgt := 54) hx hb dX11_neededRange_50 (by decide) ?_
        refine va_put (D := D) (ci := 13) (v := .int (iI 3)) (ty := .int) (C := RX11) (T := TX11) (N := 20) hx hb hts iX11 tyX11 tyX11_ok nmX11 hown hK hP hD hS 0 rfl rfl 6 (by decide) f_49 (fun _ h9 => h9) rfl (by decide +kernel) rfl rfl (Nat.le_of_ble_eq_true rfl) dX11_neededRange_54 (fun H locs hP hD hS => ?_)
        have hP : va_P D vwCl (bModel tA a0 a1 a2 a3 a4 a5 a6 a7 a8 a9 a10 ms mbef msav misv mpast mpm 3 mways_3 mnds mtkp mline mlm mtxt mlen mat mwr merr mfail mcmd mcm) H := hP
        have hD : va_D A (bModel tA a0 a1 a2 a3 a4 a5 a6 a7 a8 a9 a10 ms mbef msav misv mpast mpm 3 mways_3 mnds mtkp mline mlm mtxt mlen mat mwr merr mfail mcmd mcm) := hD
        refine lv_aload_n hx hb dX11_neededRange_57 rfl (lv_at hl 1 rfl) ?_
        refine va_get (D := D) (ci := 13) (v := .int (iI 3)) (C := RX11) (T := TX11) (N := 20) hx hb hts iX11 hown hK hP 0 rfl rfl 6 (by decide) f_49 (fun _ h9 => h9) rfl dX11_neededRange_58 ?_
        refine zz_if_le (tgt := 68) hx hb dX11_neededRange_61 (by decide) (by decide) (fun c_61 => ?_) (fun c_61 => ?_)
        · exact absurd c_61 (by decide)
        · refine zz_iconst hx hb dX11_neededRange_64 ?_
          refine lv_goto (tgt := 69) hx hb dX11_neededRange_65 (by decide) ?_
          exact hret 0 (mways_3, 3) _ _ _ _ dX11_neededRange_69 (show (3 = 1 ∧ ¬ inP (ms 0) frm too) ∨ (inP (ms 0) frm too ∧ ((3 = 2 ∧ frm = too) ∨ (frm ≠ too ∧ ((3 = 3 ∧ needP (egM ms) frm too (-1)) ∨ (3 = 0 ∧ (0 : Int) ≠ -1 ∧ needP (egM ms) frm too (0 : Int)))))) from by first | exact Or.inr ⟨hin, Or.inr ⟨by omega, Or.inr ⟨rfl, by omega, (hwy.2.2.1 (by omega)).2⟩⟩⟩ | exact Or.inr ⟨hin, Or.inr ⟨by omega, Or.inl ⟨rfl, (hwy.2.2.2 (by omega)).2⟩⟩⟩) hP hD hS
    · refine lv_aload_n hx hb dX11_neededRange_20 rfl (lv_at hl 0 rfl) ?_
      refine zz_iconst hx hb dX11_neededRange_21 ?_
      refine zz_callVi (As := [.int (iI 2)]) (rest := []) (wf := fun u => bModel tA a0 a1 a2 a3 a4 a5 a6 a7 a8 a9 a10 ms mbef msav misv mpast mpm 2 mways mnds mtkp mline mlm mtxt mlen mat mwr merr mfail mcmd mcm) ⟨hx, hb, hml, hown, hts⟩ (c_X11_fails l D tA a0 a1 a2 a3 a4 a5 a6 a7 a8 a9 a10 H.size ms mbef msav misv mpast mpm mthr mways mnds mtkp mline mlm mtxt mlen mat mwr merr mfail mcmd mcm 2 (by first | assumption | omega)) (cwV 1 hts gX11_neededRange_X11_fails rfl rfl rfl (by decide +kernel) ⟨Nat.le_of_ble_eq_true rfl, Nat.le_of_ble_eq_true rfl⟩) hK hP hD hS hA [0, 1, 2, 3, 4, 5, 6, 7, 8, 9, 10] [] [0, 1, 2, 3, 4, 5, 6, 7, 8, 9, 10] rfl rfl (by decide) (by decide) (by decide) (by decide) (fun _ => rfl) (ci := 13) (q0 := 0) rfl rfl rfl rfl rfl hl.1 (Nat.le_of_ble_eq_true rfl) dX11_neededRange_22 ⟨Nat.le_of_ble_eq_true rfl, Nat.le_of_ble_eq_true rfl⟩ ?_
      intro z22_5 u H locs p22_6 hP hD hS
      have hP : va_P D vwCl (bModel tA a0 a1 a2 a3 a4 a5 a6 a7 a8 a9 a10 ms mbef msav misv mpast mpm 2 mways mnds mtkp mline mlm mtxt mlen mat mwr merr mfail mcmd mcm) H := hP
      have hD : va_D A (bModel tA a0 a1 a2 a3 a4 a5 a6 a7 a8 a9 a10 ms mbef msav misv mpast mpm 2 mways mnds mtkp mline mlm mtxt mlen mat mwr merr mfail mcmd mcm) := hD
      have q_22 : z22_5 = 0 := p22_6
      exact hret z22_5 (mways, 2) _ _ _ _ dX11_neededRange_25 (show (2 = 1 ∧ ¬ inP (ms 0) frm too) ∨ (inP (ms 0) frm too ∧ ((2 = 2 ∧ frm = too) ∨ (frm ≠ too ∧ ((2 = 3 ∧ needP (egM ms) frm too (-1)) ∨ (2 = 0 ∧ z22_5 ≠ -1 ∧ needP (egM ms) frm too z22_5))))) from by exact Or.inr ⟨hin, Or.inl ⟨rfl, by omega⟩⟩) hP hD hS
  · refine lv_aload_n hx hb dX11_neededRange_9 rfl (lv_at hl 0 rfl) ?_
    refine zz_iconst hx hb dX11_neededRange_10 ?_
    refine zz_callVi (As := [.int (iI 1)]) (rest := []) (wf := fun u => bModel tA a0 a1 a2 a3 a4 a5 a6 a7 a8 a9 a10 ms mbef msav misv mpast mpm 1 mways mnds mtkp mline mlm mtxt mlen mat mwr merr mfail mcmd mcm) ⟨hx, hb, hml, hown, hts⟩ (c_X11_fails l D tA a0 a1 a2 a3 a4 a5 a6 a7 a8 a9 a10 H.size ms mbef msav misv mpast mpm mthr mways mnds mtkp mline mlm mtxt mlen mat mwr merr mfail mcmd mcm 1 (by first | assumption | omega)) (cwV 1 hts gX11_neededRange_X11_fails rfl rfl rfl (by decide +kernel) ⟨Nat.le_of_ble_eq_true rfl, Nat.le_of_ble_eq_true rfl⟩) hK hP hD hS hA [0, 1, 2, 3, 4, 5, 6, 7, 8, 9, 10] [] [0, 1, 2, 3, 4, 5, 6, 7, 8, 9, 10] rfl rfl (by decide) (by decide) (by decide) (by decide) (fun _ => rfl) (ci := 13) (q0 := 0) rfl rfl rfl rfl rfl hl.1 (Nat.le_of_ble_eq_true rfl) dX11_neededRange_11 ⟨Nat.le_of_ble_eq_true rfl, Nat.le_of_ble_eq_true rfl⟩ ?_
    intro z11_7 u H locs p11_8 hP hD hS
    have hP : va_P D vwCl (bModel tA a0 a1 a2 a3 a4 a5 a6 a7 a8 a9 a10 ms mbef msav misv mpast mpm 1 mways mnds mtkp mline mlm mtxt mlen mat mwr merr mfail mcmd mcm) H := hP
    have hD : va_D A (bModel tA a0 a1 a2 a3 a4 a5 a6 a7 a8 a9 a10 ms mbef msav misv mpast mpm 1 mways mnds mtkp mline mlm mtxt mlen mat mwr merr mfail mcmd mcm) := hD
    have q_11 : z11_7 = 0 := p11_8
    exact hret z11_7 (mways, 1) _ _ _ _ dX11_neededRange_14 (show (1 = 1 ∧ ¬ inP (ms 0) frm too) ∨ (inP (ms 0) frm too ∧ ((1 = 2 ∧ frm = too) ∨ (frm ≠ too ∧ ((1 = 3 ∧ needP (egM ms) frm too (-1)) ∨ (1 = 0 ∧ z11_7 ≠ -1 ∧ needP (egM ms) frm too z11_7))))) from by exact Or.inl ⟨rfl, q_3.elim (fun g => absurd g.1 (by omega)) (fun g => g.2)⟩) hP hD hS

set_option maxHeartbeats 4000000 in
set_option maxRecDepth 100000 in
theorem c_X11_neededRangeByTrial (l : Launch) (D : va_G) (tA : Nat → ClassId) (a0 a1 a2 a3 a4 a5 a6 a7 a8 a9 a10 : Nat) (sz : Nat) (ms : Int → Int) (mbef : Int → Int) (msav : Int → Int) (misv : Int) (mpast : Int → Int) (mpm : Int) (mthr : Int) (mways : Int → Int) (mnds : Int → Int) (mtkp : Int → Int) (mline : Int → Int) (mlm : Int) (mtxt : Int → Int) (mlen : Int) (mat : Int) (mwr : Int) (merr : Int) (mfail : Int) (mcmd : Int → Int) (mcm : Int) (frm : Int) (too : Int) (r_frm : -2147483648 ≤ frm ∧ frm ≤ 2147483647) (r_too : -2147483648 ≤ too ∧ too ≤ 2147483647) (hm : MV ms) : zMi l yX11_neededRangeByTrial wsX11_neededRangeByTrial ({ frames := 3, cells := 0, slots := 0, locals := 69 }) D tA [.ref a0, .int (iI frm), .int (iI too)] (bModel tA a0 a1 a2 a3 a4 a5 a6 a7 a8 a9 a10 ms mbef msav misv mpast mpm mthr mways mnds mtkp mline mlm mtxt mlen mat mwr merr mfail mcmd mcm) sz (fun (z : Int) (u : (Int → Int) × (Int)) => ((u.2 = 1 ∧ ¬ inP (ms 0) frm too) ∨ (inP (ms 0) frm too ∧ ((u.2 = 2 ∧ frm = too) ∨ (frm ≠ too ∧ ((u.2 = 3 ∧ needP (egM ms) frm too (-1)) ∨ (u.2 = 0 ∧ z ≠ -1 ∧ needP (egM ms) frm too z))))))) (fun (u : (Int → Int) × (Int)) => bModel tA a0 a1 a2 a3 a4 a5 a6 a7 a8 a9 a10 ms mbef msav misv mpast mpm u.2 u.1 mnds mtkp mline mlm mtxt mlen mat mwr merr mfail mcmd mcm) 0 0 := by
  refine zMi_of (cc := cX11_neededRangeByTrial) (maxL := 3) (by decide) rfl (fun z u h => rfl) (Nat.le_of_ble_eq_true rfl) ?_
  intro p e s m args below meth c A Q ls hx hb hml hts hown hK hP hD hA hret hl
  obtain ⟨H, hHe⟩ : ∃ H : Heap, H = s.heap := ⟨_, rfl⟩
  have hS : va_S A s.heap H [] := by rw [hHe]; exact va_S.rf
  rw [← hHe] at hP ⊢
  have hl : lv_has ls 3 [(0, .ref a0), (1, .int (iI frm)), (2, .int (iI too))] := hl
  refine lv_aload_n hx hb dX11_neededRangeByTrial_0 rfl (lv_at hl 0 rfl) ?_
  refine lv_iload_n hx hb dX11_neededRangeByTrial_1 rfl (lv_at hl 1 rfl) ?_
  refine lv_iload_n hx hb dX11_neededRangeByTrial_2 rfl (lv_at hl 2 rfl) ?_
  refine zz_callVi (As := [.int (iI frm), .int (iI too)]) (rest := []) (wf := fun u => bModel tA a0 a1 a2 a3 a4 a5 a6 a7 a8 a9 a10 ms mbef msav misv mpast mpm u.2 u.1 mnds mtkp mline mlm mtxt mlen mat mwr merr mfail mcmd mcm) ⟨hx, hb, hml, hown, hts⟩ (c_X11_neededRange l D tA a0 a1 a2 a3 a4 a5 a6 a7 a8 a9 a10 H.size ms mbef msav misv mpast mpm mthr mways mnds mtkp mline mlm mtxt mlen mat mwr merr mfail mcmd mcm frm too (by first | assumption | omega) (by first | assumption | omega) (by first | assumption | omega)) (cwV 2 hts gX11_neededRangeByTrial_X11_neededRange rfl rfl rfl (by decide +kernel) ⟨Nat.le_of_ble_eq_true rfl, Nat.le_of_ble_eq_true rfl⟩) hK hP hD hS hA [0, 1, 2, 3, 4, 5, 6, 7, 8, 9, 10] [] [0, 1, 2, 3, 4, 5, 6, 7, 8, 9, 10] rfl rfl (by decide) (by decide) (by decide) (by decide) (fun _ => rfl) (ci := 13) (q0 := 0) rfl rfl rfl rfl rfl hl.1 (Nat.le_of_ble_eq_true rfl) dX11_neededRangeByTrial_3 ⟨Nat.le_of_ble_eq_true rfl, Nat.le_of_ble_eq_true rfl⟩ ?_
  intro z3_3 u H locs p3_4 hP hD hS
  obtain ⟨mways_1, mthr_2⟩ := u
  have hP : va_P D vwCl (bModel tA a0 a1 a2 a3 a4 a5 a6 a7 a8 a9 a10 ms mbef msav misv mpast mpm mthr_2 mways_1 mnds mtkp mline mlm mtxt mlen mat mwr merr mfail mcmd mcm) H := hP
  have hD : va_D A (bModel tA a0 a1 a2 a3 a4 a5 a6 a7 a8 a9 a10 ms mbef msav misv mpast mpm mthr_2 mways_1 mnds mtkp mline mlm mtxt mlen mat mwr merr mfail mcmd mcm) := hD
  have q_3 : (mthr_2 = 1 ∧ ¬ inP (ms 0) frm too) ∨ (inP (ms 0) frm too ∧ ((mthr_2 = 2 ∧ frm = too) ∨ (frm ≠ too ∧ ((mthr_2 = 3 ∧ needP (egM ms) frm too (-1)) ∨ (mthr_2 = 0 ∧ z3_3 ≠ -1 ∧ needP (egM ms) frm too z3_3))))) := p3_4
  exact hret z3_3 (mways_1, mthr_2) _ _ _ _ dX11_neededRangeByTrial_6 (show (mthr_2 = 1 ∧ ¬ inP (ms 0) frm too) ∨ (inP (ms 0) frm too ∧ ((mthr_2 = 2 ∧ frm = too) ∨ (frm ≠ too ∧ ((mthr_2 = 3 ∧ needP (egM ms) frm too (-1)) ∨ (mthr_2 = 0 ∧ z3_3 ≠ -1 ∧ needP (egM ms) frm too z3_3))))) from by assumption) hP hD hS

set_option maxHeartbeats 4000000 in
set_option maxRecDepth 100000 in
theorem c_X11_litGroups (l : Launch) (D : va_G) (tA : Nat → ClassId) (a0 a1 a2 a3 a4 a5 a6 a7 a8 a9 a10 : Nat) (sz : Nat) (ms : Int → Int) (mbef : Int → Int) (msav : Int → Int) (misv : Int) (mpast : Int → Int) (mpm : Int) (mthr : Int) (mways : Int → Int) (mnds : Int → Int) (mtkp : Int → Int) (mline : Int → Int) (mlm : Int) (mtxt : Int → Int) (mlen : Int) (mat : Int) (mwr : Int) (merr : Int) (mfail : Int) (mcmd : Int → Int) (mcm : Int) (hm : MV ms) : zMi l yX11_litGroups wsX11_litGroups ({ frames := 3, cells := 0, slots := 0, locals := 70 }) D tA [.ref a0] (bModel tA a0 a1 a2 a3 a4 a5 a6 a7 a8 a9 a10 ms mbef msav misv mpast mpm mthr mways mnds mtkp mline mlm mtxt mlen mat mwr merr mfail mcmd mcm) sz (fun (z : Int) (u : (Int → Int)) => (grpP (egM ms (rgM ms 1)) (ms 0) z)) (fun (u : (Int → Int)) => bModel tA a0 a1 a2 a3 a4 a5 a6 a7 a8 a9 a10 ms mbef msav misv mpast mpm 0 u mnds mtkp mline mlm mtxt mlen mat mwr merr mfail mcmd mcm) 0 0 := by
  refine zMi_of (cc := cX11_litGroups) (maxL := 5) (by decide) rfl (fun z u h => rfl) (Nat.le_of_ble_eq_true rfl) ?_
  intro p e s m args below meth c A Q ls hx hb hml hts hown hK hP hD hA hret hl
  obtain ⟨H, hHe⟩ : ∃ H : Heap, H = s.heap := ⟨_, rfl⟩
  have hS : va_S A s.heap H [] := by rw [hHe]; exact va_S.rf
  rw [← hHe] at hP ⊢
  have hl : lv_has ls 5 [(0, .ref a0)] := hl
  have iX11 : ∀ v ∈ wsX110, v ∈ wsX11_litGroups := by decide +kernel
  have f_9 := hts (.fieldLink RX11 9 "HarborLightsModel" "s" "[I") (by decide +kernel)
  have f_22 := hts (.fieldLink RX11 22 "HarborLightsModel" "ways" "[I") (by decide +kernel)
  have f_49 := hts (.fieldLink RX11 49 "HarborLightsModel" "thrown" "I") (by decide +kernel)
  obtain ⟨⟨mp0, mp1, mc0, mc1, mf0, mf1, mr0, mr1⟩, hlr, mL, mS⟩ := id hm
  refine lv_aload_n hx hb dX11_litGroups_0 rfl (lv_at hl 0 rfl) ?_
  refine zz_iconst hx hb dX11_litGroups_1 ?_
  refine va_put (D := D) (ci := 13) (v := .int (iI 0)) (ty := .int) (C := RX11) (T := TX11) (N := 20) hx hb hts iX11 tyX11 tyX11_ok nmX11 hown hK hP hD hS 0 rfl rfl 6 (by decide) f_49 (fun _ h9 => h9) rfl (by decide +kernel) rfl rfl (Nat.le_of_ble_eq_true rfl) dX11_litGroups_2 (fun H locs hP hD hS => ?_)
  have hP : va_P D vwCl (bModel tA a0 a1 a2 a3 a4 a5 a6 a7 a8 a9 a10 ms mbef msav misv mpast mpm 0 mways mnds mtkp mline mlm mtxt mlen mat mwr merr mfail mcmd mcm) H := hP
  have hD : va_D A (bModel tA a0 a1 a2 a3 a4 a5 a6 a7 a8 a9 a10 ms mbef msav misv mpast mpm 0 mways mnds mtkp mline mlm mtxt mlen mat mwr merr mfail mcmd mcm) := hD
  refine lv_aload_n hx hb dX11_litGroups_5 rfl (lv_at hl 0 rfl) ?_
  refine zz_iconst hx hb dX11_litGroups_6 ?_
  refine zz_callVv (As := [.int (iI 1)]) (rest := []) (wf := fun u => bModel tA a0 a1 a2 a3 a4 a5 a6 a7 a8 a9 a10 ms mbef msav misv mpast mpm 0 u mnds mtkp mline mlm mtxt mlen mat mwr merr mfail mcmd mcm) ⟨hx, hb, hml, hown, hts⟩ (c_X11_finds l D tA a0 a1 a2 a3 a4 a5 a6 a7 a8 a9 a10 H.size ms mbef msav misv mpast mpm 0 mways mnds mtkp mline mlm mtxt mlen mat mwr merr mfail mcmd mcm 1 (by first | assumption | omega) (by first | assumption | omega)) (cwV 1 hts gX11_litGroups_X11_finds rfl rfl rfl (by decide +kernel) ⟨Nat.le_of_ble_eq_true rfl, Nat.le_of_ble_eq_true rfl⟩) hK hP hD hS hA [0, 1, 2, 3, 4, 5, 6, 7, 8, 9, 10] [] [0, 1, 2, 3, 4, 5, 6, 7, 8, 9, 10] rfl rfl (by decide) (by decide) (by decide) (by decide) (fun _ => rfl) (ci := 13) (q0 := 0) rfl rfl rfl rfl rfl hl.1 (Nat.le_of_ble_eq_true rfl) dX11_litGroups_7 ⟨Nat.le_of_ble_eq_true rfl, Nat.le_of_ble_eq_true rfl⟩ ?_
  intro u H locs p7_2 hP hD hS
  obtain ⟨mways_1, rfl⟩ : ∃ q, q = u := ⟨_, rfl⟩
  have hP : va_P D vwCl (bModel tA a0 a1 a2 a3 a4 a5 a6 a7 a8 a9 a10 ms mbef msav misv mpast mpm 0 mways_1 mnds mtkp mline mlm mtxt mlen mat mwr merr mfail mcmd mcm) H := hP
  have hD : va_D A (bModel tA a0 a1 a2 a3 a4 a5 a6 a7 a8 a9 a10 ms mbef msav misv mpast mpm 0 mways_1 mnds mtkp mline mlm mtxt mlen mat mwr merr mfail mcmd mcm) := hD
  have q_7 : ∀ a b, 0 ≤ a → a < 10 → 0 ≤ b → b < 10 → wayP (egM ms (rgM ms 1)) a b (mways_1 (10 * a + b)) := p7_2
  refine zz_iconst hx hb dX11_litGroups_10 ?_
  refine lv_istore_n (lv' := [(1, .int (iI 0)), (0, .ref a0)]) hx hb dX11_litGroups_11 rfl hl (by decide) rfl (fun ls hl => ?_)
  refine zz_iconst hx hb dX11_litGroups_12 ?_
  refine lv_istore_n (lv' := [(2, .int (iI 0)), (1, .int (iI 0)), (0, .ref a0)]) hx hb dX11_litGroups_13 rfl hl (by decide) rfl (fun ls hl => ?_)
  have L14 : ∀ (n : Nat) (pl : Int) (gs : Int) (H : Heap) (locs : List Loc) (ls : Array Slot), (0 ≤ pl ∧ pl ≤ ms 0) → (isMnK (egM ms (rgM ms 1)) pl gs) → (ms 0 - pl).toNat < n → va_P D vwCl (bModel tA a0 a1 a2 a3 a4 a5 a6 a7 a8 a9 a10 ms mbef msav misv mpast mpm 0 mways_1 mnds mtkp mline mlm mtxt mlen mat mwr merr mfail mcmd mcm) H → va_D A (bModel tA a0 a1 a2 a3 a4 a5 a6 a7 a8 a9 a10 ms mbef msav misv mpast mpm 0 mways_1 mnds mtkp mline mlm mtxt mlen mat mwr merr mfail mcmd mcm) → va_S A s.heap H locs → lv_has ls 5 [(2, .int (iI pl)), (1, .int (iI gs)), (0, .ref a0)] → W p l e (headSpec wsX11_litGroups ({ frames := 3, cells := 0, slots := 0, locals := 70 })).room s m args below meth c H locs 0 0 Q (F0 m 14 ls []) := by
    intro n
    induction n with
    | zero => intro pl gs H locs ls i0 i1 hmz; exact absurd hmz (Nat.not_lt_zero _)
    | succ n ih14 =>
      intro pl gs H locs ls i0 i1 hmz hP hD hS hl
      refine lv_iload_n hx hb dX11_litGroups_14 rfl (lv_at hl 0 rfl) ?_
      refine lv_aload_n hx hb dX11_litGroups_15 rfl (lv_at hl 2 rfl) ?_
      refine va_get (D := D) (ci := 13) (v := .ref a1) (C := RX11) (T := TX11) (N := 20) hx hb hts iX11 hown hK hP 0 rfl rfl 0 (by decide) f_9 (fun _ h9 => h9) rfl dX11_litGroups_16 ?_
      refine zz_iconst hx hb dX11_litGroups_19 ?_
      refine zz_iald hx hb hK hP 1 rfl (by decide) (by omega) dX11_litGroups_20 ?_
      refine zz_icmp_ge (tgt := 86) hx hb dX11_litGroups_21 (by decide) (by omega) (by omega) (fun c_21 => ?_) (fun c_21 => ?_)
      · refine lv_iload_n hx hb dX11_litGroups_86 rfl (lv_at hl 1 rfl) ?_
        exact hret gs mways_1 _ _ _ _ dX11_litGroups_87 (show grpP (egM ms (rgM ms 1)) (ms 0) gs from by rw [show pl = ms 0 by omega] at i1; exact isMnK_grp i1) hP hD hS
      · refine zz_iconst hx hb dX11_litGroups_24 ?_
        refine lv_istore_n (lv' := [(3, .int (iI 1)), (2, .int (iI pl)), (1, .int (iI gs)), (0, .ref a0)]) hx hb dX11_litGroups_25 rfl hl (by decide) rfl (fun ls hl => ?_)
        refine zz_iconst hx hb dX11_litGroups_26 ?_
        refine lv_istore (lv' := [(4, .int (iI 0)), (3, .int (iI 1)), (2, .int (iI pl)), (1, .int (iI gs)), (0, .ref a0)]) hx hb dX11_litGroups_27 hl (by decide) rfl (fun ls hl => ?_)
        have L29 : ∀ (n : Nat) (q : Int) (fst : Int) (H : Heap) (locs : List Loc) (ls : Array Slot), (0 ≤ q ∧ q ≤ pl) → (FsP (fun x => cn (egM ms (rgM ms 1)) x pl) q fst) → (pl - q).toNat < n → va_P D vwCl (bModel tA a0 a1 a2 a3 a4 a5 a6 a7 a8 a9 a10 ms mbef msav misv mpast mpm 0 mways_1 mnds mtkp mline mlm mtxt mlen mat mwr merr mfail mcmd mcm) H → va_D A (bModel tA a0 a1 a2 a3 a4 a5 a6 a7 a8 a9 a10 ms mbef msav misv mpast mpm 0 mways_1 mnds mtkp mline mlm mtxt mlen mat mwr merr mfail mcmd mcm) → va_S A s.heap H locs → lv_has ls 5 [(4, .int (iI q)), (3, .int (iI fst)), (2, .int (iI pl)), (1, .int (iI gs)), (0, .ref a0)] → W p l e (headSpec wsX11_litGroups ({ frames := 3, cells := 0, slots := 0, locals := 70 })).room s m args below meth c H locs 0 0 Q (F0 m 29 ls []) := by
          intro n
          induction n with
          | zero => intro q fst H locs ls j0 j1 hmz; exact absurd hmz (Nat.not_lt_zero _)
          | succ n ih29 =>
            intro q fst H locs ls j0 j1 hmz hP hD hS hl
            have hf2 := FsP_01 j1
            refine lv_iload hx hb dX11_litGroups_29 (lv_at hl 0 rfl) ?_
            refine lv_iload_n hx hb dX11_litGroups_31 rfl (lv_at hl 2 rfl) ?_
            refine zz_icmp_ge (tgt := 68) hx hb dX11_litGroups_32 (by decide) (by omega) (by omega) (fun c_32 => ?_) (fun c_32 => ?_)
            · refine lv_iload_n hx hb dX11_litGroups_68 rfl (lv_at hl 3 rfl) ?_
              refine lv_iload_n hx hb dX11_litGroups_69 rfl (lv_at hl 1 rfl) ?_
              refine zz_if_eq (tgt := 77) hx hb dX11_litGroups_70 (by decide) (by omega) (fun c_70 => ?_) (fun c_70 => ?_)
              · refine zz_iconst hx hb dX11_litGroups_77 ?_
                refine zz_iadd hx hb dX11_litGroups_78 ?_
                refine lv_istore_n (lv' := [(1, .int (iI (gs + 0))), (4, .int (iI q)), (3, .int (iI fst)), (2, .int (iI pl)), (0, .ref a0)]) hx hb dX11_litGroups_79 rfl hl (by decide) rfl (fun ls hl => ?_)
                refine zz_iinc (lv' := [(2, .int (iI (pl + 1))), (1, .int (iI (gs + 0))), (4, .int (iI q)), (3, .int (iI fst)), (0, .ref a0)]) hx hb dX11_litGroups_80 hl (k := 3) rfl (by decide) rfl (fun ls hl => ?_)
                refine lv_goto (tgt := 14) hx hb dX11_litGroups_83 (by decide) ?_
                exact ih14 (pl + 1) (gs + 0) _ _ _ (by omega) (by exact isMnK_f (by omega) i1 j1 (by omega) (by omega)) (by omega) hP hD hS (lv_sub hl [0, 1, 4] rfl)
              · refine zz_iconst hx hb dX11_litGroups_73 ?_
                refine lv_goto (tgt := 78) hx hb dX11_litGroups_74 (by decide) ?_
                refine zz_iadd hx hb dX11_litGroups_78 ?_
                refine lv_istore_n (lv' := [(1, .int (iI (gs + 1))), (4, .int (iI q)), (3, .int (iI fst)), (2, .int (iI pl)), (0, .ref a0)]) hx hb dX11_litGroups_79 rfl hl (by decide) rfl (fun ls hl => ?_)
                refine zz_iinc (lv' := [(2, .int (iI (pl + 1))), (1, .int (iI (gs + 1))), (4, .int (iI q)), (3, .int (iI fst)), (0, .ref a0)]) hx hb dX11_litGroups_80 hl (k := 3) rfl (by decide) rfl (fun ls hl => ?_)
                refine lv_goto (tgt := 14) hx hb dX11_litGroups_83 (by decide) ?_
                exact ih14 (pl + 1) (gs + 1) _ _ _ (by omega) (by exact isMnK_f (by omega) i1 j1 (by omega) (by omega)) (by omega) hP hD hS (lv_sub hl [0, 1, 4] rfl)
            · refine lv_iload_n hx hb dX11_litGroups_35 rfl (lv_at hl 1 rfl) ?_
              refine zz_if_eq (tgt := 60) hx hb dX11_litGroups_36 (by decide) (by omega) (fun c_36 => ?_) (fun c_36 => ?_)
              · refine zz_iconst hx hb dX11_litGroups_60 ?_
                refine lv_istore_n (lv' := [(3, .int (iI 0)), (4, .int (iI q)), (2, .int (iI pl)), (1, .int (iI gs)), (0, .ref a0)]) hx hb dX11_litGroups_61 rfl hl (by decide) rfl (fun ls hl => ?_)
                refine zz_iinc (lv' := [(4, .int (iI (q + 1))), (3, .int (iI 0)), (2, .int (iI pl)), (1, .int (iI gs)), (0, .ref a0)]) hx hb dX11_litGroups_62 hl (k := 1) rfl (by decide) rfl (fun ls hl => ?_)
                refine lv_goto (tgt := 29) hx hb dX11_litGroups_65 (by decide) ?_
                exact ih29 (q + 1) 0 _ _ _ (by omega) (by first | exact FsP_no j1 (by omega) (fun h => (hwy.2.2.2 (by omega)).1 (cn_sym h)) | exact FsP_yes (by omega) (cn_sym (hwy.2.2.1 (by omega)).2.1) | exact FsP_was j1 (by omega)) (by omega) hP hD hS (lv_sub hl [0, 1, 2, 3, 4] rfl)
              · refine lv_aload_n hx hb dX11_litGroups_39 rfl (lv_at hl 4 rfl) ?_
                refine va_get (D := D) (ci := 13) (v := .ref a5) (C := RX11) (T := TX11) (N := 20) hx hb hts iX11 hown hK hP 0 rfl rfl 7 (by decide) f_22 (fun _ h9 => h9) rfl dX11_litGroups_40 ?_
                refine zz_bipush hx hb dX11_litGroups_43 (by decide) ?_
                refine lv_iload_n hx hb dX11_litGroups_45 rfl (lv_at hl 2 rfl) ?_
                refine zz_imul hx hb dX11_litGroups_46 ?_
                refine lv_iload hx hb dX11_litGroups_47 (lv_at hl 0 rfl) ?_
                refine zz_iadd hx hb dX11_litGroups_49 ?_
                refine zz_iald hx hb hK hP 5 rfl (by decide) (by omega) dX11_litGroups_50 ?_
                have hwy := wayP_in (q_7 pl q (by omega) (by omega) (by omega) (by omega))
                refine zz_ldc hx hb hown (hts (.constant RX11 118 (100000)) (by decide +kernel)) (n := 100000) (by decide +kernel) dX11_litGroups_51 ?_
                refine zz_icmp_lt (tgt := 60) hx hb dX11_litGroups_53 (by decide) (by omega) (by decide) (fun c_53 => ?_) (fun c_53 => ?_)
                · refine zz_iconst hx hb dX11_litGroups_60 ?_
                  refine lv_istore_n (lv' := [(3, .int (iI 0)), (4, .int (iI q)), (2, .int (iI pl)), (1, .int (iI gs)), (0, .ref a0)]) hx hb dX11_litGroups_61 rfl hl (by decide) rfl (fun ls hl => ?_)
                  refine zz_iinc (lv' := [(4, .int (iI (q + 1))), (3, .int (iI 0)), (2, .int (iI pl)), (1, .int (iI gs)), (0, .ref a0)]) hx hb dX11_litGroups_62 hl (k := 1) rfl (by decide) rfl (fun ls hl => ?_)
                  refine lv_goto (tgt := 29) hx hb dX11_litGroups_65 (by decide) ?_
                  exact ih29 (q + 1) 0 _ _ _ (by omega) (by first | exact FsP_no j1 (by omega) (fun h => (hwy.2.2.2 (by omega)).1 (cn_sym h)) | exact FsP_yes (by omega) (cn_sym (hwy.2.2.1 (by omega)).2.1) | exact FsP_was j1 (by omega)) (by omega) hP hD hS (lv_sub hl [0, 1, 2, 3, 4] rfl)
                · refine zz_iconst hx hb dX11_litGroups_56 ?_
                  refine lv_goto (tgt := 61) hx hb dX11_litGroups_57 (by decide) ?_
                  refine lv_istore_n (lv' := [(3, .int (iI 1)), (4, .int (iI q)), (2, .int (iI pl)), (1, .int (iI gs)), (0, .ref a0)]) hx hb dX11_litGroups_61 rfl hl (by decide) rfl (fun ls hl => ?_)
                  refine zz_iinc (lv' := [(4, .int (iI (q + 1))), (3, .int (iI 1)), (2, .int (iI pl)), (1, .int (iI gs)), (0, .ref a0)]) hx hb dX11_litGroups_62 hl (k := 1) rfl (by decide) rfl (fun ls hl => ?_)
                  refine lv_goto (tgt := 29) hx hb dX11_litGroups_65 (by decide) ?_
                  exact ih29 (q + 1) 1 _ _ _ (by omega) (by first | exact FsP_no j1 (by omega) (fun h => (hwy.2.2.2 (by omega)).1 (cn_sym h)) | exact FsP_yes (by omega) (cn_sym (hwy.2.2.1 (by omega)).2.1) | exact FsP_was j1 (by omega)) (by omega) hP hD hS (lv_sub hl [0, 1, 2, 3, 4] rfl)
        exact L29 _ 0 1 _ _ _ (by omega) (by exact FsP_0) (Nat.lt_succ_self _) hP hD hS (lv_sub hl [0, 1, 2, 3, 4] rfl)
  exact L14 _ 0 0 _ _ _ (by omega) (by exact isMnK_0) (Nat.lt_succ_self _) hP hD hS (lv_sub hl [0, 1, 2] rfl)
