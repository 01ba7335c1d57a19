/-! ===== p57: a text beyond sixteen characters ===== -/
set_option maxHeartbeats 4000000 in
set_option maxRecDepth 100000 in
theorem c_J6_getChars_ba4f3_N (l : Launch) (K : Nat → Nat) (D : va_G) (tA : Nat → ClassId) (a0 a1 : Nat) (sz : Nat) (lnb : Int → Int) (lml : Int) (lct : Int) (cp : Nat) (x : Int) (ix : Int) (r_x : -2147483648 ≤ x ∧ x ≤ 2147483647) (r_ix : -2147483648 ≤ ix ∧ ix ≤ 2147483647) (hx9 : 0 ≤ x ∧ x ≤ 999999999) (hcp : cp ≤ 64) (hix : 0 ≤ lct ∧ ix = lct + dgN x ∧ ix ≤ (cp : Int)) : zCi l yJ6_getChars_ba4f3 wsJ6_getChars_ba4f3 ({ frames := 0, cells := 0, slots := 0, locals := 0 }) K D tA [.int (iI x), .int (iI ix), .ref a1] (bLinN tA cp a0 a1 lnb lml lct) sz (fun (z : Int) (u : Unit) => True) (fun (u : Unit) => bLinN tA cp a0 a1 (wrL lnb lct (dgL x)) lml lct) 0 0 := by
  refine zCi_of (cc := cJ6_getChars_ba4f3) (maxL := 7) (by decide) rfl (fun z u h => rfl) (Nat.le_of_ble_eq_true rfl) ?_
  intro p e s m args below meth c A Q ls hx hb hml hts hown hK hP hD hA hCn hret hl
  obtain ⟨H, hHe⟩ : ∃ H : Heap, H = s.heap := ⟨_, rfl⟩
  have hS : va_S A s.heap H [] := by rw [hHe]; exact va_S.rf
  rw [← hHe] at hP ⊢
  have hl : lv_has ls 7 [(0, .int (iI x)), (1, .int (iI ix)), (2, .ref a1)] := hl
  have f_83 := hts (.fieldLink RJ6 83 "java/lang/Integer" "DigitOnes" "[B") (by decide +kernel)
  have f_87 := hts (.fieldLink RJ6 87 "java/lang/Integer" "DigitTens" "[B") (by decide +kernel)
  have hdn := dgN_in hx9.1 hx9.2
  refine lv_iload_n hx hb dJ6_getChars_ba4f3_0 rfl (lv_at hl 1 rfl) ?_
  refine lv_istore (lv' := [(5, .int (iI ix)), (0, .int (iI x)), (1, .int (iI ix)), (2, .ref a1)]) hx hb dJ6_getChars_ba4f3_1 hl (by decide) rfl (fun ls hl => ?_)
  refine lv_iload_n hx hb dJ6_getChars_ba4f3_3 rfl (lv_at hl 1 rfl) ?_
  refine zz_if_ge (tgt := 11) hx hb dJ6_getChars_ba4f3_4 (by decide) (by omega) (fun c_4 => ?_) (fun c_4 => ?_)
  · refine zz_iconst hx hb dJ6_getChars_ba4f3_11 ?_
    refine lv_istore (lv' := [(6, .int (iI 0)), (5, .int (iI ix)), (0, .int (iI x)), (1, .int (iI ix)), (2, .ref a1)]) hx hb dJ6_getChars_ba4f3_12 hl (by decide) rfl (fun ls hl => ?_)
    refine lv_iload hx hb dJ6_getChars_ba4f3_14 (lv_at hl 0 rfl) ?_
    refine zz_if_ne (tgt := 22) hx hb dJ6_getChars_ba4f3_16 (by decide) (by decide) (fun c_16 => ?_) (fun c_16 => ?_)
    · exact absurd c_16 (by decide)
    · refine lv_iload_n hx hb dJ6_getChars_ba4f3_19 rfl (lv_at hl 2 rfl) ?_
      refine zz_ineg hx hb dJ6_getChars_ba4f3_20 ?_
      refine lv_istore_n (lv' := [(0, .int (iI (-x))), (6, .int (iI 0)), (5, .int (iI ix)), (1, .int (iI ix)), (2, .ref a1)]) hx hb dJ6_getChars_ba4f3_21 rfl hl (by decide) rfl (fun ls hl => ?_)
      have L22 : ∀ (n : Nat) (y : Int) (at1 : Int) (g9 : Int → Int) (H : Heap) (locs : List Loc) (ls : Array Slot), (0 ≤ y ∧ y ≤ 999999999) → (gcI lnb x lct y at1 g9) → (y).toNat < n → va_P D vwCl (bLinN tA cp a0 a1 g9 lml lct) H → va_D A (bLinN tA cp a0 a1 g9 lml lct) → va_S A s.heap H locs → lv_has ls 7 [(0, .int (iI (-y))), (6, .int (iI 0)), (5, .int (iI at1)), (1, .int (iI ix)), (2, .ref a1)] → W p l e (headSpec wsJ6_getChars_ba4f3 ({ frames := 0, cells := 0, slots := 0, locals := 0 })).room s m args below meth c H locs 0 0 Q (F0 m 22 ls []) := by
        intro n
        induction n with
        | zero => intro y at1 g9 H locs ls i0 i1 hmz; exact absurd hmz (Nat.not_lt_zero _)
        | succ n ih22 =>
          intro y at1 g9 H locs ls i0 i1 hmz hP hD hS hl
          have hat := gcI_at i1
          have hdy := dgN_in i0.1 i0.2
          have hdb : y ≤ 9 ∨ 2 ≤ dgN y := if h9 : y ≤ 9 then Or.inl h9 else Or.inr (dgN_big (by omega) i0.2)
          refine lv_iload_n hx hb dJ6_getChars_ba4f3_22 rfl (lv_at hl 0 rfl) ?_
          refine zz_bipush hx hb dJ6_getChars_ba4f3_23 (by decide) ?_
          refine zz_icmp_gt (tgt := 72) hx hb dJ6_getChars_ba4f3_25 (by decide) (by omega) (by decide) (fun c_25 => ?_) (fun c_25 => ?_)
          · refine lv_aload_n hx hb dJ6_getChars_ba4f3_72 rfl (lv_at hl 4 rfl) ?_
            refine zz_iinc (lv' := [(5, .int (iI (at1 + (-1)))), (0, .int (iI (-y))), (6, .int (iI 0)), (1, .int (iI ix)), (2, .ref a1)]) hx hb dJ6_getChars_ba4f3_73 hl (k := 2) rfl (by decide) rfl (fun ls hl => ?_)
            refine lv_iload hx hb dJ6_getChars_ba4f3_76 (lv_at hl 0 rfl) ?_
            refine va_gets hx hb hCn.1.1.2.2.1.1 hS hown f_83 (fun _ h9 => h9) dJ6_getChars_ba4f3_78 ?_
            refine lv_iload_n hx hb dJ6_getChars_ba4f3_81 rfl (lv_at hl 1 rfl) ?_
            refine zz_ineg hx hb dJ6_getChars_ba4f3_82 ?_
            refine va_tb hx hb hCn.1.1.2.2.1.2 hS (zin (k := (-(-y))) (n := 100) (by omega) (by decide)) (v := .int (iI (48 + (-(-y)) % 10))) (by show Value.int (iI (48 + (((iI (-(-y))).toNatClampNeg : Nat) : Int) % 10)) = _; rw [iI_clamp (by omega), Int.toNat_of_nonneg (by omega)]) dJ6_getChars_ba4f3_83 ?_
            refine zz_bast hx hb hK hP hD hS 1 rfl (by omega) (by omega) (by omega) dJ6_getChars_ba4f3_84 (fun H locs hP hD hS => ?_)
            have hP : va_P D vwCl (bLinN tA cp a0 a1 (zU g9 (at1 + (-1)) (48 + (-(-y)) % 10)) lml lct) H := hP
            have hD : va_D A (bLinN tA cp a0 a1 (zU g9 (at1 + (-1)) (48 + (-(-y)) % 10)) lml lct) := hD
            refine lv_iload_n hx hb dJ6_getChars_ba4f3_85 rfl (lv_at hl 1 rfl) ?_
            refine zz_bipush hx hb dJ6_getChars_ba4f3_86 (by decide) ?_
            refine zz_icmp_ge (tgt := 104) hx hb dJ6_getChars_ba4f3_88 (by decide) (by omega) (by decide) (fun c_88 => ?_) (fun c_88 => ?_)
            · refine lv_iload hx hb dJ6_getChars_ba4f3_104 (lv_at hl 2 rfl) ?_
              refine zz_if_eq (tgt := 118) hx hb dJ6_getChars_ba4f3_106 (by decide) (by decide) (fun c_106 => ?_) (fun c_106 => ?_)
              · refine lv_iload hx hb dJ6_getChars_ba4f3_118 (lv_at hl 0 rfl) ?_
                have e_lnb : ((zU g9 (at1 + (-1)) (48 + (-(-y)) % 10)) : Int → Int) = (wrL lnb lct (dgL x)) := by first | exact gcI_e1 i1 (by omega) (by omega) (by omega) (by omega) | exact gcI_e2 i1 (by omega) (by omega) (by omega) (by omega) (by omega) (by omega)
                rw [e_lnb] at hP hD
                exact hret (at1 + (-1)) () _ _ _ _ dJ6_getChars_ba4f3_120 True.intro hP hD hS
              · exact absurd c_106 (by decide)
            · refine lv_aload_n hx hb dJ6_getChars_ba4f3_91 rfl (lv_at hl 4 rfl) ?_
              refine zz_iinc (lv' := [(5, .int (iI ((at1 + (-1)) + (-1)))), (0, .int (iI (-y))), (6, .int (iI 0)), (1, .int (iI ix)), (2, .ref a1)]) hx hb dJ6_getChars_ba4f3_92 hl (k := 0) rfl (by decide) rfl (fun ls hl => ?_)
              refine lv_iload hx hb dJ6_getChars_ba4f3_95 (lv_at hl 0 rfl) ?_
              refine va_gets hx hb hCn.1.1.2.2.2.1.1 hS hown f_87 (fun _ h9 => h9) dJ6_getChars_ba4f3_97 ?_
              refine lv_iload_n hx hb dJ6_getChars_ba4f3_100 rfl (lv_at hl 1 rfl) ?_
              refine zz_ineg hx hb dJ6_getChars_ba4f3_101 ?_
              refine va_tb hx hb hCn.1.1.2.2.2.1.2 hS (zin (k := (-(-y))) (n := 100) (by omega) (by decide)) (v := .int (iI (48 + (-(-y)) / 10))) (by show Value.int (iI (48 + (((iI (-(-y))).toNatClampNeg : Nat) : Int) / 10)) = _; rw [iI_clamp (by omega), Int.toNat_of_nonneg (by omega)]) dJ6_getChars_ba4f3_102 ?_
              refine zz_bast hx hb hK hP hD hS 1 rfl (by omega) (by omega) (by omega) dJ6_getChars_ba4f3_103 (fun H locs hP hD hS => ?_)
              have hP : va_P D vwCl (bLinN tA cp a0 a1 (zU (zU g9 (at1 + (-1)) (48 + (-(-y)) % 10)) ((at1 + (-1)) + (-1)) (48 + (-(-y)) / 10)) lml lct) H := hP
              have hD : va_D A (bLinN tA cp a0 a1 (zU (zU g9 (at1 + (-1)) (48 + (-(-y)) % 10)) ((at1 + (-1)) + (-1)) (48 + (-(-y)) / 10)) lml lct) := hD
              refine lv_iload hx hb dJ6_getChars_ba4f3_104 (lv_at hl 2 rfl) ?_
              refine zz_if_eq (tgt := 118) hx hb dJ6_getChars_ba4f3_106 (by decide) (by decide) (fun c_106 => ?_) (fun c_106 => ?_)
              · refine lv_iload hx hb dJ6_getChars_ba4f3_118 (lv_at hl 0 rfl) ?_
                have e_lnb : ((zU (zU g9 (at1 + (-1)) (48 + (-(-y)) % 10)) ((at1 + (-1)) + (-1)) (48 + (-(-y)) / 10)) : Int → Int) = (wrL lnb lct (dgL x)) := by first | exact gcI_e1 i1 (by omega) (by omega) (by omega) (by omega) | exact gcI_e2 i1 (by omega) (by omega) (by omega) (by omega) (by omega) (by omega)
                rw [e_lnb] at hP hD
                exact hret ((at1 + (-1)) + (-1)) () _ _ _ _ dJ6_getChars_ba4f3_120 True.intro hP hD hS
              · exact absurd c_106 (by decide)
          · refine lv_iload_n hx hb dJ6_getChars_ba4f3_28 rfl (lv_at hl 0 rfl) ?_
            refine zz_bipush hx hb dJ6_getChars_ba4f3_29 (by decide) ?_
            refine zz_idivm (x := y) hx hb dJ6_getChars_ba4f3_31 (by omega) (by omega) ?_
            refine lv_istore_n (lv' := [(3, .int (iI (-(y / 100)))), (0, .int (iI (-y))), (6, .int (iI 0)), (5, .int (iI at1)), (1, .int (iI ix)), (2, .ref a1)]) hx hb dJ6_getChars_ba4f3_32 rfl hl (by decide) rfl (fun ls hl => ?_)
            refine lv_iload_n hx hb dJ6_getChars_ba4f3_33 rfl (lv_at hl 0 rfl) ?_
            refine zz_bipush hx hb dJ6_getChars_ba4f3_34 (by decide) ?_
            refine zz_imul hx hb dJ6_getChars_ba4f3_36 ?_
            refine lv_iload_n hx hb dJ6_getChars_ba4f3_37 rfl (lv_at hl 1 rfl) ?_
            refine zz_isub hx hb dJ6_getChars_ba4f3_38 ?_
            refine lv_istore (lv' := [(4, .int (iI (((-(y / 100)) * 100) - (-y)))), (3, .int (iI (-(y / 100)))), (0, .int (iI (-y))), (6, .int (iI 0)), (5, .int (iI at1)), (1, .int (iI ix)), (2, .ref a1)]) hx hb dJ6_getChars_ba4f3_39 hl (by decide) rfl (fun ls hl => ?_)
            refine lv_iload_n hx hb dJ6_getChars_ba4f3_41 rfl (lv_at hl 1 rfl) ?_
            refine lv_istore_n (lv' := [(0, .int (iI (-(y / 100)))), (4, .int (iI (((-(y / 100)) * 100) - (-y)))), (3, .int (iI (-(y / 100)))), (6, .int (iI 0)), (5, .int (iI at1)), (1, .int (iI ix)), (2, .ref a1)]) hx hb dJ6_getChars_ba4f3_42 rfl hl (by decide) rfl (fun ls hl => ?_)
            refine lv_aload_n hx hb dJ6_getChars_ba4f3_43 rfl (lv_at hl 6 rfl) ?_
            refine zz_iinc (lv' := [(5, .int (iI (at1 + (-1)))), (0, .int (iI (-(y / 100)))), (4, .int (iI (((-(y / 100)) * 100) - (-y)))), (3, .int (iI (-(y / 100)))), (6, .int (iI 0)), (1, .int (iI ix)), (2, .ref a1)]) hx hb dJ6_getChars_ba4f3_44 hl (k := 4) rfl (by decide) rfl (fun ls hl => ?_)
            refine lv_iload hx hb dJ6_getChars_ba4f3_47 (lv_at hl 0 rfl) ?_
            refine va_gets hx hb hCn.1.1.2.2.1.1 hS hown f_83 (fun _ h9 => h9) dJ6_getChars_ba4f3_49 ?_
            refine lv_iload hx hb dJ6_getChars_ba4f3_52 (lv_at hl 2 rfl) ?_
            refine va_tb hx hb hCn.1.1.2.2.1.2 hS (zin (k := (((-(y / 100)) * 100) - (-y))) (n := 100) (by omega) (by decide)) (v := .int (iI (48 + (((-(y / 100)) * 100) - (-y)) % 10))) (by show Value.int (iI (48 + (((iI (((-(y / 100)) * 100) - (-y))).toNatClampNeg : Nat) : Int) % 10)) = _; rw [iI_clamp (by omega), Int.toNat_of_nonneg (by omega)]) dJ6_getChars_ba4f3_54 ?_
            refine zz_bast hx hb hK hP hD hS 1 rfl (by omega) (by omega) (by omega) dJ6_getChars_ba4f3_55 (fun H locs hP hD hS => ?_)
            have hP : va_P D vwCl (bLinN tA cp a0 a1 (zU g9 (at1 + (-1)) (48 + (((-(y / 100)) * 100) - (-y)) % 10)) lml lct) H := hP
            have hD : va_D A (bLinN tA cp a0 a1 (zU g9 (at1 + (-1)) (48 + (((-(y / 100)) * 100) - (-y)) % 10)) lml lct) := hD
            refine lv_aload_n hx hb dJ6_getChars_ba4f3_56 rfl (lv_at hl 6 rfl) ?_
            refine zz_iinc (lv' := [(5, .int (iI ((at1 + (-1)) + (-1)))), (0, .int (iI (-(y / 100)))), (4, .int (iI (((-(y / 100)) * 100) - (-y)))), (3, .int (iI (-(y / 100)))), (6, .int (iI 0)), (1, .int (iI ix)), (2, .ref a1)]) hx hb dJ6_getChars_ba4f3_57 hl (k := 0) rfl (by decide) rfl (fun ls hl => ?_)
            refine lv_iload hx hb dJ6_getChars_ba4f3_60 (lv_at hl 0 rfl) ?_
            refine va_gets hx hb hCn.1.1.2.2.2.1.1 hS hown f_87 (fun _ h9 => h9) dJ6_getChars_ba4f3_62 ?_
            refine lv_iload hx hb dJ6_getChars_ba4f3_65 (lv_at hl 2 rfl) ?_
            refine va_tb hx hb hCn.1.1.2.2.2.1.2 hS (zin (k := (((-(y / 100)) * 100) - (-y))) (n := 100) (by omega) (by decide)) (v := .int (iI (48 + (((-(y / 100)) * 100) - (-y)) / 10))) (by show Value.int (iI (48 + (((iI (((-(y / 100)) * 100) - (-y))).toNatClampNeg : Nat) : Int) / 10)) = _; rw [iI_clamp (by omega), Int.toNat_of_nonneg (by omega)]) dJ6_getChars_ba4f3_67 ?_
            refine zz_bast hx hb hK hP hD hS 1 rfl (by omega) (by omega) (by omega) dJ6_getChars_ba4f3_68 (fun H locs hP hD hS => ?_)
            have hP : va_P D vwCl (bLinN tA cp a0 a1 (zU (zU g9 (at1 + (-1)) (48 + (((-(y / 100)) * 100) - (-y)) % 10)) ((at1 + (-1)) + (-1)) (48 + (((-(y / 100)) * 100) - (-y)) / 10)) lml lct) H := hP
            have hD : va_D A (bLinN tA cp a0 a1 (zU (zU g9 (at1 + (-1)) (48 + (((-(y / 100)) * 100) - (-y)) % 10)) ((at1 + (-1)) + (-1)) (48 + (((-(y / 100)) * 100) - (-y)) / 10)) lml lct) := hD
            refine lv_goto (tgt := 22) hx hb dJ6_getChars_ba4f3_69 (by decide) ?_
            exact ih22 (y / 100) ((at1 + (-1)) + (-1)) (zU (zU g9 (at1 + (-1)) (48 + (((-(y / 100)) * 100) - (-y)) % 10)) ((at1 + (-1)) + (-1)) (48 + (((-(y / 100)) * 100) - (-y)) / 10)) _ _ _ (by omega) (by exact gcI_b i1 (by omega) (by omega) (by omega) (by omega) (by omega)) (by omega) hP hD hS (lv_sub hl [1, 4, 0, 5, 6] rfl)
      exact L22 _ x ix lnb _ _ _ (by omega) (by exact gcI_0 (by omega)) (Nat.lt_succ_self _) hP hD hS (lv_sub hl [0, 1, 2, 3, 4] rfl)
  · exact absurd c_4 (by omega)

set_option maxHeartbeats 4000000 in
set_option maxRecDepth 100000 in
theorem c_J8_newLength_cabcc (l : Launch) (K : Nat → Nat) (D : va_G) (tA : Nat → ClassId) (sz : Nat) (a : Int) (b : Int) (c9 : Int) (r_a : -2147483648 ≤ a ∧ a ≤ 2147483647) (r_b : -2147483648 ≤ b ∧ b ≤ 2147483647) (r_c9 : -2147483648 ≤ c9 ∧ c9 ≤ 2147483647) (ha : 0 ≤ a ∧ a ≤ 64) (hb9 : 1 ≤ b ∧ b ≤ 64) (hc9 : 0 ≤ c9 ∧ c9 ≤ 100) : zCi l yJ8_newLength_cabcc wsJ8_newLength_cabcc ({ frames := 1, cells := 0, slots := 0, locals := 19 }) K D tA [.int (iI a), .int (iI b), .int (iI c9)] ([]) sz (fun (z : Int) (u : Unit) => (z = a + max b c9)) (fun (u : Unit) => []) 0 0 := by
  refine zCi_of (cc := cJ8_newLength_cabcc) (maxL := 4) (by decide) rfl (fun z u h => rfl) (Nat.le_of_ble_eq_true rfl) ?_
  intro p e s m args below meth c A Q ls hx hb hml hts hown hK hP hD hA hCn hret hl
  obtain ⟨H, hHe⟩ : ∃ H : Heap, H = s.heap := ⟨_, rfl⟩
  have hS : va_S A s.heap H [] := by rw [hHe]; exact va_S.rf
  rw [← hHe] at hP ⊢
  have hl : lv_has ls 4 [(0, .int (iI a)), (1, .int (iI b)), (2, .int (iI c9))] := hl
  have l_194 := hts (.methodLink RJ8 194 Lib.Math.max.name) (by decide +kernel)
  have ls_194 := hts (.static Lib.Math.max.name) (by decide +kernel)
  have lc_194 := hts (.code Lib.Math.max.name Lib.Math.max.code 2 (some .int)) (by decide +kernel)
  have li_194 := hts (.initialized "java/lang/Math") (by decide +kernel)
  refine lv_iload_n hx hb dJ8_newLength_cabcc_0 rfl (lv_at hl 0 rfl) ?_
  refine lv_iload_n hx hb dJ8_newLength_cabcc_1 rfl (lv_at hl 1 rfl) ?_
  refine lv_iload_n hx hb dJ8_newLength_cabcc_2 rfl (lv_at hl 2 rfl) ?_
  refine zz_mmax hx hb (by rw [hml]; exact hl.1.symm) hown l_194 ls_194 li_194 lc_194 (Nat.le_of_ble_eq_true rfl) (Nat.le_of_ble_eq_true rfl) (Nat.le_of_ble_eq_true rfl) (Nat.le_of_ble_eq_true rfl) (by omega) (by omega) dJ8_newLength_cabcc_3 ?_
  refine zz_iadd hx hb dJ8_newLength_cabcc_6 ?_
  refine lv_istore_n (lv' := [(3, .int (iI (a + (max b c9)))), (0, .int (iI a)), (1, .int (iI b)), (2, .int (iI c9))]) hx hb dJ8_newLength_cabcc_7 rfl hl (by decide) rfl (fun ls hl => ?_)
  refine zz_iconst hx hb dJ8_newLength_cabcc_8 ?_
  refine lv_iload_n hx hb dJ8_newLength_cabcc_9 rfl (lv_at hl 0 rfl) ?_
  refine zz_icmp_ge (tgt := 21) hx hb dJ8_newLength_cabcc_10 (by decide) (by decide) (by omega) (fun c_10 => ?_) (fun c_10 => ?_)
  · exact absurd c_10 (by omega)
  · refine lv_iload_n hx hb dJ8_newLength_cabcc_13 rfl (lv_at hl 0 rfl) ?_
    refine zz_ldc hx hb hown (hts (.constant RJ8 200 (2147483639)) (by decide +kernel)) (n := 2147483639) (by decide +kernel) dJ8_newLength_cabcc_14 ?_
    refine zz_icmp_gt (tgt := 21) hx hb dJ8_newLength_cabcc_16 (by decide) (by omega) (by decide) (fun c_16 => ?_) (fun c_16 => ?_)
    · exact absurd c_16 (by omega)
    · refine lv_iload_n hx hb dJ8_newLength_cabcc_19 rfl (lv_at hl 0 rfl) ?_
      exact hret (a + (max b c9)) () _ _ _ _ dJ8_newLength_cabcc_20 (show (a + (max b c9)) = a + max b c9 from by rfl) hP hD hS

set_option maxHeartbeats 4000000 in
set_option maxRecDepth 100000 in
theorem c_J5_newCapacity_0f7a4 (l : Launch) (K : Nat → Nat) (D : va_G) (tA : Nat → ClassId) (a0 a1 : Nat) (sz : Nat) (lnb : Int → Int) (lml : Int) (lct : Int) (mn : Int) (r_mn : -2147483648 ≤ mn ∧ mn ≤ 2147483647) (hmn : mn = 17) : zCi l yJ5_newCapacity_0f7a4 wsJ5_newCapacity_0f7a4 ({ frames := 2, cells := 0, slots := 0, locals := 42 }) K D tA [.ref a0, .int (iI mn)] (bLine tA a0 a1 lnb lml lct) sz (fun (z : Int) (u : Unit) => (z = 34)) (fun (u : Unit) => bLine tA a0 a1 lnb lml lct) 0 0 := by
  refine zCi_of (cc := cJ5_newCapacity_0f7a4) (maxL := 6) (by decide) rfl (fun z u h => rfl) (Nat.le_of_ble_eq_true rfl) ?_
  intro p e s m args below meth c A Q ls hx hb hml hts hown hK hP hD hA hCn hret hl
  obtain ⟨H, hHe⟩ : ∃ H : Heap, H = s.heap := ⟨_, rfl⟩
  have hS : va_S A s.heap H [] := by rw [hHe]; exact va_S.rf
  rw [← hHe] at hP ⊢
  have hl : lv_has ls 6 [(0, .ref a0), (1, .int (iI mn))] := hl
  have iJ4 : ∀ v ∈ wsJ40, v ∈ wsJ5_newCapacity_0f7a4 := by decide +kernel
  have f_15 := hts (.fieldLink RJ5 15 "java/lang/AbstractStringBuilder" "value" "[B") (by decide +kernel)
  have f_22 := hts (.fieldLink RJ5 22 "java/lang/AbstractStringBuilder" "coder" "B") (by decide +kernel)
  refine lv_aload_n hx hb dJ5_newCapacity_0f7a4_0 rfl (lv_at hl 0 rfl) ?_
  refine va_get (D := D) (ci := 1) (v := .ref a1) (C := RJ4) (T := TJ4) (N := 4) hx hb hts iJ4 hown hK hP 0 rfl rfl 0 (by decide) f_15 (fun _ h9 => h9) rfl dJ5_newCapacity_0f7a4_1 ?_
  refine va_alen hx hb hK hP 1 3 rfl rfl (v := iI 16) rfl dJ5_newCapacity_0f7a4_4 ?_
  refine lv_istore_n (lv' := [(2, .int (iI 16)), (0, .ref a0), (1, .int (iI mn))]) hx hb dJ5_newCapacity_0f7a4_5 rfl hl (by decide) rfl (fun ls hl => ?_)
  refine lv_iload_n hx hb dJ5_newCapacity_0f7a4_6 rfl (lv_at hl 2 rfl) ?_
  refine lv_aload_n hx hb dJ5_newCapacity_0f7a4_7 rfl (lv_at hl 1 rfl) ?_
  refine va_get (D := D) (ci := 1) (v := .int (iI 0)) (C := RJ4) (T := TJ4) (N := 4) hx hb hts iJ4 hown hK hP 0 rfl rfl 1 (by decide) f_22 (fun _ h9 => h9) rfl dJ5_newCapacity_0f7a4_8 ?_
  refine zz_ishl0 hx hb dJ5_newCapacity_0f7a4_11 (by omega) ?_
  refine lv_istore_n (lv' := [(3, .int (iI mn)), (2, .int (iI 16)), (0, .ref a0), (1, .int (iI mn))]) hx hb dJ5_newCapacity_0f7a4_12 rfl hl (by decide) rfl (fun ls hl => ?_)
  refine lv_iload_n hx hb dJ5_newCapacity_0f7a4_13 rfl (lv_at hl 0 rfl) ?_
  refine lv_iload_n hx hb dJ5_newCapacity_0f7a4_14 rfl (lv_at hl 1 rfl) ?_
  refine zz_isub hx hb dJ5_newCapacity_0f7a4_15 ?_
  refine lv_istore (lv' := [(4, .int (iI (mn - 16))), (3, .int (iI mn)), (2, .int (iI 16)), (0, .ref a0), (1, .int (iI mn))]) hx hb dJ5_newCapacity_0f7a4_16 hl (by decide) rfl (fun ls hl => ?_)
  refine lv_iload_n hx hb dJ5_newCapacity_0f7a4_18 rfl (lv_at hl 2 rfl) ?_
  refine lv_iload hx hb dJ5_newCapacity_0f7a4_19 (lv_at hl 0 rfl) ?_
  refine lv_iload_n hx hb dJ5_newCapacity_0f7a4_21 rfl (lv_at hl 2 rfl) ?_
  refine zz_iconst hx hb dJ5_newCapacity_0f7a4_22 ?_
  refine lv_aload_n hx hb dJ5_newCapacity_0f7a4_23 rfl (lv_at hl 3 rfl) ?_
  refine va_get (D := D) (ci := 1) (v := .int (iI 0)) (C := RJ4) (T := TJ4) (N := 4) hx hb hts iJ4 hown hK hP 0 rfl rfl 1 (by decide) f_22 (fun _ h9 => h9) rfl dJ5_newCapacity_0f7a4_24 ?_
  refine zz_ishl0 hx hb dJ5_newCapacity_0f7a4_27 (by omega) ?_
  refine zz_iadd hx hb dJ5_newCapacity_0f7a4_28 ?_
  refine zc_callSi (As := [.int (iI 16), .int (iI (mn - 16)), .int (iI (16 + 2))]) (rest := []) (wf := fun u => bLine tA a0 a1 lnb lml lct) ⟨hx, hb, hml, hown, hts⟩ (c_J8_newLength_cabcc l K D tA  H.size 16 (mn - 16) (16 + 2) (by first | assumption | omega) (by first | assumption | omega) (by first | assumption | omega) (by first | assumption | omega) (by first | assumption | omega) (by first | assumption | omega)) (va_cwS 3 hts gJ5_newCapacity_0f7a4_J8_newLength_cabcc rfl rfl rfl (by decide +kernel) ⟨Nat.le_of_ble_eq_true rfl, Nat.le_of_ble_eq_true rfl⟩) hK hP hD hS hA hCn [] [0, 1] [0, 1] rfl rfl (by decide) (by decide) (by decide) (by decide) (fun _ => rfl) rfl rfl hl.1 (Nat.le_of_ble_eq_true rfl) dJ5_newCapacity_0f7a4_29 ⟨Nat.le_of_ble_eq_true rfl, Nat.le_of_ble_eq_true rfl⟩ ?_
  intro z29_1 u H locs p29_2 hP hD hS
  have hP : va_P D vwCl (bLine tA a0 a1 lnb lml lct) H := hP
  have hD : va_D A (bLine tA a0 a1 lnb lml lct) := hD
  have q_29 : z29_1 = 16 + max (mn - 16) (16 + 2) := p29_2
  refine lv_istore (lv' := [(5, .int (iI z29_1)), (4, .int (iI (mn - 16))), (3, .int (iI mn)), (2, .int (iI 16)), (0, .ref a0), (1, .int (iI mn))]) hx hb dJ5_newCapacity_0f7a4_32 hl (by decide) rfl (fun ls hl => ?_)
  refine lv_iload hx hb dJ5_newCapacity_0f7a4_34 (lv_at hl 0 rfl) ?_
  refine zz_ldc hx hb hown (hts (.constant RJ5 39 (2147483647)) (by decide +kernel)) (n := 2147483647) (by decide +kernel) dJ5_newCapacity_0f7a4_36 ?_
  refine zz_icmp_ne (tgt := 51) hx hb dJ5_newCapacity_0f7a4_38 (by decide) (by omega) (by decide) (fun c_38 => ?_) (fun c_38 => ?_)
  · refine lv_iload hx hb dJ5_newCapacity_0f7a4_51 (lv_at hl 0 rfl) ?_
    refine lv_aload_n hx hb dJ5_newCapacity_0f7a4_53 rfl (lv_at hl 4 rfl) ?_
    refine va_get (D := D) (ci := 1) (v := .int (iI 0)) (C := RJ4) (T := TJ4) (N := 4) hx hb hts iJ4 hown hK hP 0 rfl rfl 1 (by decide) f_22 (fun _ h9 => h9) rfl dJ5_newCapacity_0f7a4_54 ?_
    refine zz_ishr0 hx hb dJ5_newCapacity_0f7a4_57 (by omega) ?_
    exact hret z29_1 () _ _ _ _ dJ5_newCapacity_0f7a4_58 (show z29_1 = 34 from by omega) hP hD hS
  · exact absurd c_38 (by omega)

set_option maxHeartbeats 4000000 in
set_option maxRecDepth 100000 in
theorem c_J7_copyOf_9075b (l : Launch) (K : Nat → Nat) (D : va_G) (tA : Nat → ClassId) (a1 : Nat) (sz : Nat) (lnb : Int → Int) (hlb : ∀ j : Int, 0 ≤ j → j < 16 → 0 ≤ lnb j ∧ lnb j ≤ 127) : zAr l yJ7_copyOf_9075b wsJ7_copyOf_9075b ({ frames := 1, cells := 1, slots := 34, locals := 40 }) K D tA [.ref a1, .int (iI 34)] ([(a1, .inl (tA 3, 16, .inl (zA lnb)))]) sz (fun (u : Nat) => True) (fun (u : Nat) => u) (fun (u : Nat) => [(a1, .inl (tA 3, 16, .inl (zA lnb))), (u, .inl (tA 3, 34, .inl (zA (zCpy lnb z0F 0 0 16))))]) 1 34 := by
  refine zAr_of (cc := cJ7_copyOf_9075b) (maxL := 3) (by decide) rfl (Or.inr ⟨_, rfl⟩) (Nat.le_of_ble_eq_true rfl) ?_
  intro p e s m args below meth c A Q ls hx hb hml hts hown hK hP hD hA hCn hret hl
  obtain ⟨H, hHe⟩ : ∃ H : Heap, H = s.heap := ⟨_, rfl⟩
  have hS : va_S A s.heap H [] := by rw [hHe]; exact va_S.rf
  rw [← hHe] at hP ⊢
  have hl : lv_has ls 3 [(0, .ref a1), (1, .int (iI 34))] := hl
  refine lv_iload_n hx hb dJ7_copyOf_9075b_0 rfl (lv_at hl 1 rfl) ?_
  refine lv_aload_n hx hb dJ7_copyOf_9075b_1 rfl (lv_at hl 0 rfl) ?_
  refine va_alen hx hb hK hP 0 3 rfl rfl (v := iI ((16 : Nat) : Int)) (nI_iI _) dJ7_copyOf_9075b_2 ?_
  refine zz_icmp_ne (tgt := 14) hx hb dJ7_copyOf_9075b_3 (by decide) (by omega) (by omega) (fun _ => ?_) (fun c9 => absurd c9 (by omega))
  refine lv_iload_n hx hb dJ7_copyOf_9075b_14 rfl (lv_at hl 1 rfl) ?_
  refine zn_arr (atype := .byte) (ty := .byte) 3 hx hb (hts (.arrayClass .byte) (by decide +kernel)) rfl rfl hK hP hD hS hA (a0 := (34, .inl (zA z0F))) (N' := 34) (fun _ => rfl) (by decide) (by decide) (by decide) (Nat.le_of_ble_eq_true rfl) (Nat.le_of_ble_eq_true rfl) dJ7_copyOf_9075b_15 (fun q10 H hP hD hS => ?_)
  have hP : va_P D vwCl ([(a1, .inl (tA 3, 16, .inl (zA lnb))), (q10, .inl (tA 3, 34, .inl (zA z0F)))]) H := hP
  have hD : va_D A ([(a1, .inl (tA 3, 16, .inl (zA lnb))), (q10, .inl (tA 3, 34, .inl (zA z0F)))]) := hD
  refine lv_astore_n (lv' := [(2, .ref q10), (0, .ref a1), (1, .int (iI 34))]) hx hb dJ7_copyOf_9075b_17 rfl hl (by decide) rfl (fun ls hl => ?_)
  refine lv_aload_n hx hb dJ7_copyOf_9075b_18 rfl (lv_at hl 1 rfl) ?_
  refine zz_iconst hx hb dJ7_copyOf_9075b_19 ?_
  refine lv_aload_n hx hb dJ7_copyOf_9075b_20 rfl (lv_at hl 0 rfl) ?_
  refine zz_iconst hx hb dJ7_copyOf_9075b_21 ?_
  refine lv_aload_n hx hb dJ7_copyOf_9075b_22 rfl (lv_at hl 1 rfl) ?_
  refine va_alen hx hb hK hP 0 3 rfl rfl (v := iI ((16 : Nat) : Int)) (nI_iI _) dJ7_copyOf_9075b_23 ?_
  refine lv_iload_n hx hb dJ7_copyOf_9075b_24 rfl (lv_at hl 2 rfl) ?_
  have l_304 := hts (.methodLink RJ7 304 Lib.Math.min.name) (by decide +kernel)
  have ls_304 := hts (.static Lib.Math.min.name) (by decide +kernel)
  have lc_304 := hts (.code Lib.Math.min.name Lib.Math.min.code 2 (some .int)) (by decide +kernel)
  have li_304 := hts (.initialized "java/lang/Math") (by decide +kernel)
  refine zz_mmin hx hb (by rw [hml]; exact hl.1.symm) hown l_304 ls_304 li_304 lc_304 (Nat.le_of_ble_eq_true rfl) (Nat.le_of_ble_eq_true rfl) (by show _ ≤ 1; omega) (by show _ ≤ 34; omega) (by omega) (by omega) dJ7_copyOf_9075b_25 ?_
  have l_150 := hts (.methodLink RJ7 150 arraycopyName) (by decide +kernel)
  have ln_150 := hts (.native arraycopyName) (by decide +kernel)
  have ls_150 := hts (.static arraycopyName) (by decide +kernel)
  have li_150 := hts (.initialized "java/lang/System") (by decide +kernel)
  refine zz_copyb hx hb (by rw [hml]; exact hl.1.symm) hown l_150 ln_150 ls_150 li_150 (Nat.le_of_ble_eq_true rfl) (Nat.le_of_ble_eq_true rfl) hK hP hD hS 0 1 rfl rfl (by omega) (by omega) (fun j j0 j1 => hlb j j0 (by omega)) (by omega) dJ7_copyOf_9075b_28 (fun H locs hP hD hS => ?_)
  rw [show min ((16 : Nat) : Int) 34 = 16 by omega] at hP hD
  have hP : va_P D vwCl ([(a1, .inl (tA 3, 16, .inl (zA lnb))), (q10, .inl (tA 3, 34, .inl (zA (zCpy lnb z0F 0 0 16))))]) H := hP
  have hD : va_D A ([(a1, .inl (tA 3, 16, .inl (zA lnb))), (q10, .inl (tA 3, 34, .inl (zA (zCpy lnb z0F 0 0 16))))]) := hD
  refine lv_aload_n hx hb dJ7_copyOf_9075b_31 rfl (lv_at hl 0 rfl) ?_
  exact hret q10 _ _ _ _ dJ7_copyOf_9075b_32 True.intro hP hD hS
set_option maxHeartbeats 4000000 in
set_option maxRecDepth 100000 in
theorem c_J5_ensureCapacityInternal_d00df_G (l : Launch) (K : Nat → Nat) (D : va_G) (tA : Nat → ClassId) (a0 a1 : Nat) (sz : Nat) (lnb : Int → Int) (lml : Int) (hlb : ∀ j : Int, 0 ≤ j → j < 16 → 0 ≤ lnb j ∧ lnb j ≤ 127) : zCv l yJ5_ensureCapacityInternal_d00df wsJ5_ensureCapacityInternal_d00df ({ frames := 3, cells := 1, slots := 34, locals := 67 }) K D tA [.ref a0, .int (iI 17)] ([(a0, .inr (1, [.ref a1, .int (iI 0), .int (iI lml), .int (iI 16)])), (a1, .inl (tA 3, 16, .inl (zA lnb)))]) sz (fun (u : Nat) => True) (fun (u : Nat) => [(a0, .inr (1, [.ref u, .int (iI 0), .int (iI lml), .int (iI 16)])), (u, .inl (tA 3, 34, .inl (zA (zCpy lnb z0F 0 0 16))))]) 1 34 := by
  refine zCv_of (cc := cJ5_ensureCapacityInternal_d00df) (maxL := 3) (by decide) rfl (Nat.le_of_ble_eq_true rfl) ?_
  intro p e s m args below meth c A Q ls hx hb hml hts hown hK hP hD hA hCn hret hl
  obtain ⟨H, hHe⟩ : ∃ H : Heap, H = s.heap := ⟨_, rfl⟩
  have hS : va_S A s.heap H [] := by rw [hHe]; exact va_S.rf
  rw [← hHe] at hP ⊢
  have hl : lv_has ls 3 [(0, .ref a0), (1, .int (iI 17))] := hl
  have iJ4 : ∀ v ∈ wsJ40, v ∈ wsJ5_ensureCapacityInternal_d00df := by decide +kernel
  have f_15 := hts (.fieldLink RJ5 15 "java/lang/AbstractStringBuilder" "value" "[B") (by decide +kernel)
  have f_22 := hts (.fieldLink RJ5 22 "java/lang/AbstractStringBuilder" "coder" "B") (by decide +kernel)
  refine lv_aload_n hx hb dJ5_ensureCapacityInternal_d00df_0 rfl (lv_at hl 0 rfl) ?_
  refine va_get (D := D) (ci := 1) (v := .ref a1) (C := RJ4) (T := TJ4) (N := 4) hx hb hts iJ4 hown hK hP 0 rfl rfl 0 (by decide) f_15 (fun _ h9 => h9) rfl dJ5_ensureCapacityInternal_d00df_1 ?_
  refine va_alen hx hb hK hP 1 3 rfl rfl (v := iI ((16 : Nat) : Int)) (nI_iI _) dJ5_ensureCapacityInternal_d00df_4 ?_
  refine lv_aload_n hx hb dJ5_ensureCapacityInternal_d00df_5 rfl (lv_at hl 0 rfl) ?_
  refine va_get (D := D) (ci := 1) (v := .int (iI 0)) (C := RJ4) (T := TJ4) (N := 4) hx hb hts iJ4 hown hK hP 0 rfl rfl 1 (by decide) f_22 (fun _ h9 => h9) rfl dJ5_ensureCapacityInternal_d00df_6 ?_
  refine zz_ishr0 hx hb dJ5_ensureCapacityInternal_d00df_9 (by omega) ?_
  refine lv_istore_n (lv' := [(2, .int (iI ((16 : Nat) : Int))), (0, .ref a0), (1, .int (iI 17))]) hx hb dJ5_ensureCapacityInternal_d00df_10 rfl hl (by decide) rfl (fun ls hl => ?_)
  refine lv_iload_n hx hb dJ5_ensureCapacityInternal_d00df_11 rfl (lv_at hl 2 rfl) ?_
  refine lv_iload_n hx hb dJ5_ensureCapacityInternal_d00df_12 rfl (lv_at hl 0 rfl) ?_
  refine zz_isub hx hb dJ5_ensureCapacityInternal_d00df_13 ?_
  refine zz_if_le (tgt := 38) hx hb dJ5_ensureCapacityInternal_d00df_14 (by decide) (by omega) (fun c9 => absurd c9 (by decide)) (fun _ => ?_)
  refine lv_aload_n hx hb dJ5_ensureCapacityInternal_d00df_17 rfl (lv_at hl 1 rfl) ?_
  refine lv_aload_n hx hb dJ5_ensureCapacityInternal_d00df_18 rfl (lv_at hl 1 rfl) ?_
  refine va_get (D := D) (ci := 1) (v := .ref a1) (C := RJ4) (T := TJ4) (N := 4) hx hb hts iJ4 hown hK hP 0 rfl rfl 0 (by decide) f_15 (fun _ h9 => h9) rfl dJ5_ensureCapacityInternal_d00df_19 ?_
  refine lv_aload_n hx hb dJ5_ensureCapacityInternal_d00df_22 rfl (lv_at hl 1 rfl) ?_
  refine lv_iload_n hx hb dJ5_ensureCapacityInternal_d00df_23 rfl (lv_at hl 2 rfl) ?_
  refine zc_callUi (As := [.int (iI 17)]) (rest := [.ref a1, .ref a0]) (wf := fun u => [(a0, .inr (1, [.ref a1, .int (iI 0), .int (iI lml), .int (iI 16)])), (a1, .inl (tA 3, 16, .inl (zA lnb)))]) ⟨hx, hb, hml, hown, hts⟩ (c_J5_newCapacity_0f7a4 l K D tA a0 a1 H.size lnb lml 16 17 (by decide) rfl) (va_cwU 1 hts gJ5_ensureCapacityInternal_d00df_J5_newCapacity_0f7a4_u104J4 rfl rfl rfl rfl ⟨by decide, by decide, by decide +kernel⟩ ⟨Nat.le_of_ble_eq_true rfl, Nat.le_of_ble_eq_true rfl⟩) hK hP hD hS hA hCn [0, 1] [] [0, 1] rfl rfl (by decide) (by decide) (by decide) (by decide) (fun _ => rfl) (ci := 1) (q0 := 0) rfl rfl rfl rfl rfl hl.1 (Nat.le_of_ble_eq_true rfl) dJ5_ensureCapacityInternal_d00df_24 (by show _ + 0 ≤ 1 ∧ _ + 0 ≤ 34; omega) ?_
  intro z24 u H locs p24 hP hD hS
  have hP : va_P D vwCl ([(a0, .inr (1, [.ref a1, .int (iI 0), .int (iI lml), .int (iI 16)])), (a1, .inl (tA 3, 16, .inl (zA lnb)))]) H := hP
  have hD : va_D A ([(a0, .inr (1, [.ref a1, .int (iI 0), .int (iI lml), .int (iI 16)])), (a1, .inl (tA 3, 16, .inl (zA lnb)))]) := hD
  have hz24 : z24 = 34 := p24
  subst hz24
  refine lv_aload_n hx hb dJ5_ensureCapacityInternal_d00df_27 rfl (lv_at hl 1 rfl) ?_
  refine va_get (D := D) (ci := 1) (v := .int (iI 0)) (C := RJ4) (T := TJ4) (N := 4) hx hb hts iJ4 hown hK hP 0 rfl rfl 1 (by decide) f_22 (fun _ h9 => h9) rfl dJ5_ensureCapacityInternal_d00df_28 ?_
  refine zz_ishl0 hx hb dJ5_ensureCapacityInternal_d00df_31 (by omega) ?_
  refine zc_callSA (As := [.ref a1, .int (iI 34)]) (rest := [.ref a0]) (wf := fun u => [(a0, .inr (1, [.ref a1, .int (iI 0), .int (iI lml), .int (iI 16)])), (a1, .inl (tA 3, 16, .inl (zA lnb))), (u, .inl (tA 3, 34, .inl (zA (zCpy lnb z0F 0 0 16))))]) ⟨hx, hb, hml, hown, hts⟩ (c_J7_copyOf_9075b l K D tA a1 H.size lnb hlb) (va_cwS 2 hts gJ5_ensureCapacityInternal_d00df_J7_copyOf_9075b rfl rfl rfl (by decide +kernel) ⟨Nat.le_of_ble_eq_true rfl, Nat.le_of_ble_eq_true rfl⟩) hK hP hD hS hA hCn [1] [0] [0, 1, 2] rfl rfl (by decide) (by decide) (by decide) (by decide) (fun _ => rfl) rfl rfl hl.1 (Nat.le_of_ble_eq_true rfl) dJ5_ensureCapacityInternal_d00df_32 (by show _ + 1 ≤ 1 ∧ _ + 34 ≤ 34; omega) ?_
  intro u H locs p32 hP hD hS
  have hP : va_P D vwCl ([(a0, .inr (1, [.ref a1, .int (iI 0), .int (iI lml), .int (iI 16)])), (a1, .inl (tA 3, 16, .inl (zA lnb))), (u, .inl (tA 3, 34, .inl (zA (zCpy lnb z0F 0 0 16))))]) H := hP
  have hD : va_D A ([(a0, .inr (1, [.ref a1, .int (iI 0), .int (iI lml), .int (iI 16)])), (a1, .inl (tA 3, 16, .inl (zA lnb))), (u, .inl (tA 3, 34, .inl (zA (zCpy lnb z0F 0 0 16))))]) := hD
  refine va_put (D := D) (ci := 1) (v := .ref u) (ty := (.array .byte)) (C := RJ4) (T := TJ4) (N := 4) hx hb hts iJ4 tyJ4 tyJ4_ok nmJ4 hown hK hP hD hS 0 rfl rfl 0 (by decide) f_15 (fun _ h9 => h9) rfl (by decide +kernel) rfl rfl (Nat.le_of_ble_eq_true rfl) dJ5_ensureCapacityInternal_d00df_35 (fun H locs hP hD hS => ?_)
  have hP : va_P D vwCl ([(a0, .inr (1, [.ref u, .int (iI 0), .int (iI lml), .int (iI 16)])), (a1, .inl (tA 3, 16, .inl (zA lnb))), (u, .inl (tA 3, 34, .inl (zA (zCpy lnb z0F 0 0 16))))]) H := hP
  have hD : va_D A ([(a0, .inr (1, [.ref u, .int (iI 0), .int (iI lml), .int (iI 16)])), (a1, .inl (tA 3, 16, .inl (zA lnb))), (u, .inl (tA 3, 34, .inl (zA (zCpy lnb z0F 0 0 16))))]) := hD
  have hP := zP_sub (ws' := [(a0, .inr (1, [.ref u, .int (iI 0), .int (iI lml), .int (iI 16)])), (u, .inl (tA 3, 34, .inl (zA (zCpy lnb z0F 0 0 16))))]) hP [0, 2] rfl
  have hD := hD.sub (ws' := [(a0, .inr (1, [.ref u, .int (iI 0), .int (iI lml), .int (iI 16)])), (u, .inl (tA 3, 34, .inl (zA (zCpy lnb z0F 0 0 16))))]) [0, 2] (by decide) rfl
  exact hret u _ _ _ _ dJ5_ensureCapacityInternal_d00df_38 True.intro hP hD hS
set_option maxHeartbeats 4000000 in
set_option maxRecDepth 100000 in
theorem c_J5_append_c97b9_G (l : Launch) (K : Nat → Nat) (D : va_G) (tA : Nat → ClassId) (a0 a1 : Nat) (sz : Nat) (lnb : Int → Int) (lml x : Int) (hx9 : 0 ≤ x ∧ x ≤ 9) (hlb : ∀ j : Int, 0 ≤ j → j < 16 → 0 ≤ lnb j ∧ lnb j ≤ 127) : zCr l yJ5_append_c97b9 wsJ5_append_c97b9 ({ frames := 4, cells := 1, slots := 34, locals := 89 }) K D tA [.ref a0, .int (iI x)] a0 ([(a0, .inr (1, [.ref a1, .int (iI 0), .int (iI lml), .int (iI 16)])), (a1, .inl (tA 3, 16, .inl (zA lnb)))]) sz (fun (u : Nat) => True) (fun (u : Nat) => [(a0, .inr (1, [.ref u, .int (iI 0), .int (iI lml), .int (iI 17)])), (u, .inl (tA 3, 34, .inl (zA (wrL (zCpy lnb z0F 0 0 16) 16 (dgL x)))))]) 1 34 := by
  refine zCr_of (cc := cJ5_append_c97b9) (maxL := 4) (by decide) rfl (Or.inl ⟨_, rfl⟩) (Nat.le_of_ble_eq_true rfl) ?_
  intro p e s m args below meth c A Q ls hx hb hml hts hown hK hP hD hA hCn hret hl
  obtain ⟨H, hHe⟩ : ∃ H : Heap, H = s.heap := ⟨_, rfl⟩
  have hS : va_S A s.heap H [] := by rw [hHe]; exact va_S.rf
  rw [← hHe] at hP ⊢
  have hl : lv_has ls 4 [(0, .ref a0), (1, .int (iI x))] := hl
  have iJ4 : ∀ v ∈ wsJ40, v ∈ wsJ5_append_c97b9 := by decide +kernel
  have f_15 := hts (.fieldLink RJ5 15 "java/lang/AbstractStringBuilder" "value" "[B") (by decide +kernel)
  have f_79 := hts (.fieldLink RJ5 79 "java/lang/AbstractStringBuilder" "count" "I") (by decide +kernel)
  have hdn := dgN_1 hx9.1 hx9.2
  refine lv_aload_n hx hb dJ5_append_c97b9_0 rfl (lv_at hl 0 rfl) ?_
  refine va_get (D := D) (ci := 1) (v := .int (iI 16)) (C := RJ4) (T := TJ4) (N := 4) hx hb hts iJ4 hown hK hP 0 rfl rfl 3 (by decide) f_79 (fun _ h9 => h9) rfl dJ5_append_c97b9_1 ?_
  refine lv_istore_n (lv' := [(2, .int (iI 16)), (0, .ref a0), (1, .int (iI x))]) hx hb dJ5_append_c97b9_4 rfl hl (by decide) rfl (fun ls hl => ?_)
  refine lv_iload_n hx hb dJ5_append_c97b9_5 rfl (lv_at hl 0 rfl) ?_
  refine lv_iload_n hx hb dJ5_append_c97b9_6 rfl (lv_at hl 2 rfl) ?_
  refine zc_callSi (As := [.int (iI x)]) (rest := [.int (iI 16)]) (wf := fun u => [(a0, .inr (1, [.ref a1, .int (iI 0), .int (iI lml), .int (iI 16)])), (a1, .inl (tA 3, 16, .inl (zA lnb)))]) ⟨hx, hb, hml, hown, hts⟩ (c_J6_stringSize_0f7a4 l K D tA H.size x (by omega) (by omega)) (va_cwS 1 hts gJ5_append_c97b9_J6_stringSize_0f7a4 rfl rfl rfl (by decide +kernel) ⟨Nat.le_of_ble_eq_true rfl, Nat.le_of_ble_eq_true rfl⟩) hK hP hD hS hA hCn [] [0, 1] [0, 1] rfl rfl (by decide) (by decide) (by decide) (by decide) (fun _ => rfl) rfl rfl hl.1 (Nat.le_of_ble_eq_true rfl) dJ5_append_c97b9_7 (by show _ + 0 ≤ 1 ∧ _ + 0 ≤ 34; omega) ?_
  intro z7 u H locs p7 hP hD hS
  have hP : va_P D vwCl ([(a0, .inr (1, [.ref a1, .int (iI 0), .int (iI lml), .int (iI 16)])), (a1, .inl (tA 3, 16, .inl (zA lnb)))]) H := hP
  have hD : va_D A ([(a0, .inr (1, [.ref a1, .int (iI 0), .int (iI lml), .int (iI 16)])), (a1, .inl (tA 3, 16, .inl (zA lnb)))]) := hD
  have hz7 : z7 = 1 := by rw [p7.1]; omega
  subst hz7
  refine zz_iadd hx hb dJ5_append_c97b9_10 ?_
  rw [show (16 : Int) + 1 = 17 from rfl]
  refine lv_istore_n (lv' := [(3, .int (iI 17)), (2, .int (iI 16)), (0, .ref a0), (1, .int (iI x))]) hx hb dJ5_append_c97b9_11 rfl hl (by decide) rfl (fun ls hl => ?_)
  refine lv_aload_n hx hb dJ5_append_c97b9_12 rfl (lv_at hl 2 rfl) ?_
  refine lv_iload_n hx hb dJ5_append_c97b9_13 rfl (lv_at hl 0 rfl) ?_
  refine zc_callUv (As := [.int (iI 17)]) (rest := []) (wf := fun u => [(a0, .inr (1, [.ref u, .int (iI 0), .int (iI lml), .int (iI 16)])), (u, .inl (tA 3, 34, .inl (zA (zCpy lnb z0F 0 0 16))))]) ⟨hx, hb, hml, hown, hts⟩ (c_J5_ensureCapacityInternal_d00df_G l K D tA a0 a1 H.size lnb lml hlb) (va_cwU 1 hts gJ5_append_c97b9_J5_ensureCapacityInternal_d00df_u100J4 rfl rfl rfl rfl ⟨by decide, by decide, by decide +kernel⟩ ⟨Nat.le_of_ble_eq_true rfl, Nat.le_of_ble_eq_true rfl⟩) hK hP hD hS hA hCn [0, 1] [] [0, 1] rfl rfl (by decide) (by decide) (by decide) (by decide) (fun _ => rfl) (ci := 1) (q0 := 0) rfl rfl rfl rfl rfl hl.1 (Nat.le_of_ble_eq_true rfl) dJ5_append_c97b9_14 (by show _ + 1 ≤ 1 ∧ _ + 34 ≤ 34; omega) ?_
  intro q9 H locs p14 hP hD hS
  have hP : va_P D vwCl ([(a0, .inr (1, [.ref q9, .int (iI 0), .int (iI lml), .int (iI 16)])), (q9, .inl (tA 3, 34, .inl (zA (zCpy lnb z0F 0 0 16))))]) H := hP
  have hD : va_D A ([(a0, .inr (1, [.ref q9, .int (iI 0), .int (iI lml), .int (iI 16)])), (q9, .inl (tA 3, 34, .inl (zA (zCpy lnb z0F 0 0 16))))]) := hD
  refine lv_aload_n hx hb dJ5_append_c97b9_17 rfl (lv_at hl 2 rfl) ?_
  refine zc_callUi (As := []) (rest := []) (wf := fun u => [(a0, .inr (1, [.ref q9, .int (iI 0), .int (iI lml), .int (iI 16)])), (q9, .inl (tA 3, 34, .inl (zA (zCpy lnb z0F 0 0 16))))]) ⟨hx, hb, hml, hown, hts⟩ (c_J5_isLatin1_aae02_N l K D tA a0 q9 H.size (zCpy lnb z0F 0 0 16) lml 16 34) (va_cwU 0 hts gJ5_append_c97b9_J5_isLatin1_aae02_u83J4 rfl rfl rfl rfl ⟨by decide, by decide, by decide +kernel⟩ ⟨Nat.le_of_ble_eq_true rfl, Nat.le_of_ble_eq_true rfl⟩) hK hP hD hS hA hCn [0, 1] [] [0, 1] rfl rfl (by decide) (by decide) (by decide) (by decide) (fun _ => rfl) (ci := 1) (q0 := 0) rfl rfl rfl rfl rfl hl.1 (Nat.le_of_ble_eq_true rfl) dJ5_append_c97b9_18 (by show _ + 0 ≤ 1 ∧ _ + 0 ≤ 34; omega) ?_
  intro z18 u H locs p18 hP hD hS
  have hP : va_P D vwCl ([(a0, .inr (1, [.ref q9, .int (iI 0), .int (iI lml), .int (iI 16)])), (q9, .inl (tA 3, 34, .inl (zA (zCpy lnb z0F 0 0 16))))]) H := hP
  have hD : va_D A ([(a0, .inr (1, [.ref q9, .int (iI 0), .int (iI lml), .int (iI 16)])), (q9, .inl (tA 3, 34, .inl (zA (zCpy lnb z0F 0 0 16))))]) := hD
  have hz18 : z18 = 1 := p18
  subst hz18
  refine zz_if_eq (tgt := 37) hx hb dJ5_append_c97b9_21 (by decide) (by omega) (fun c9 => absurd c9 (by decide)) (fun _ => ?_)
  refine lv_iload_n hx hb dJ5_append_c97b9_24 rfl (lv_at hl 3 rfl) ?_
  refine lv_iload_n hx hb dJ5_append_c97b9_25 rfl (lv_at hl 0 rfl) ?_
  refine lv_aload_n hx hb dJ5_append_c97b9_26 rfl (lv_at hl 2 rfl) ?_
  refine va_get (D := D) (ci := 1) (v := .ref q9) (C := RJ4) (T := TJ4) (N := 4) hx hb hts iJ4 hown hK hP 0 rfl rfl 0 (by decide) f_15 (fun _ h9 => h9) rfl dJ5_append_c97b9_27 ?_
  refine zc_callSi (As := [.int (iI x), .int (iI 17), .ref q9]) (rest := []) (wf := fun u => [(a0, .inr (1, [.ref q9, .int (iI 0), .int (iI lml), .int (iI 16)])), (q9, .inl (tA 3, 34, .inl (zA (wrL (zCpy lnb z0F 0 0 16) 16 (dgL x)))))]) ⟨hx, hb, hml, hown, hts⟩ (c_J6_getChars_ba4f3_N l K D tA a0 q9 H.size (zCpy lnb z0F 0 0 16) lml 16 34 x 17 (by omega) (by decide) (by omega) (by decide) (by omega)) (va_cwS 3 hts gJ5_append_c97b9_J6_getChars_ba4f3 rfl rfl rfl (by decide +kernel) ⟨Nat.le_of_ble_eq_true rfl, Nat.le_of_ble_eq_true rfl⟩) hK hP hD hS hA hCn [0, 1] [] [0, 1] rfl rfl (by decide) (by decide) (by decide) (by decide) (fun _ => rfl) rfl rfl hl.1 (Nat.le_of_ble_eq_true rfl) dJ5_append_c97b9_30 (by show _ + 0 ≤ 1 ∧ _ + 0 ≤ 34; omega) ?_
  intro z30 u H locs p30 hP hD hS
  have hP : va_P D vwCl ([(a0, .inr (1, [.ref q9, .int (iI 0), .int (iI lml), .int (iI 16)])), (q9, .inl (tA 3, 34, .inl (zA (wrL (zCpy lnb z0F 0 0 16) 16 (dgL x)))))]) H := hP
  have hD : va_D A ([(a0, .inr (1, [.ref q9, .int (iI 0), .int (iI lml), .int (iI 16)])), (q9, .inl (tA 3, 34, .inl (zA (wrL (zCpy lnb z0F 0 0 16) 16 (dgL x)))))]) := hD
  refine lv_pop hx hb dJ5_append_c97b9_33 rfl ?_
  refine lv_goto (tgt := 48) hx hb dJ5_append_c97b9_34 (by decide) ?_
  refine lv_aload_n hx hb dJ5_append_c97b9_48 rfl (lv_at hl 2 rfl) ?_
  refine lv_iload_n hx hb dJ5_append_c97b9_49 rfl (lv_at hl 0 rfl) ?_
  refine va_put (D := D) (ci := 1) (v := .int (iI 17)) (ty := .int) (C := RJ4) (T := TJ4) (N := 4) hx hb hts iJ4 tyJ4 tyJ4_ok nmJ4 hown hK hP hD hS 0 rfl rfl 3 (by decide) f_79 (fun _ h9 => h9) rfl (by decide +kernel) rfl rfl (Nat.le_of_ble_eq_true rfl) dJ5_append_c97b9_50 (fun H locs hP hD hS => ?_)
  have hP : va_P D vwCl ([(a0, .inr (1, [.ref q9, .int (iI 0), .int (iI lml), .int (iI 17)])), (q9, .inl (tA 3, 34, .inl (zA (wrL (zCpy lnb z0F 0 0 16) 16 (dgL x)))))]) H := hP
  have hD : va_D A ([(a0, .inr (1, [.ref q9, .int (iI 0), .int (iI lml), .int (iI 17)])), (q9, .inl (tA 3, 34, .inl (zA (wrL (zCpy lnb z0F 0 0 16) 16 (dgL x)))))]) := hD
  refine lv_aload_n hx hb dJ5_append_c97b9_53 rfl (lv_at hl 2 rfl) ?_
  exact hret q9 _ _ _ _ dJ5_append_c97b9_54 True.intro hP hD hS
set_option maxHeartbeats 4000000 in
set_option maxRecDepth 100000 in
theorem c_J4_append_bf812_G (l : Launch) (K : Nat → Nat) (D : va_G) (tA : Nat → ClassId) (a0 a1 : Nat) (sz : Nat) (lnb : Int → Int) (lml x : Int) (hx9 : 0 ≤ x ∧ x ≤ 9) (hlb : ∀ j : Int, 0 ≤ j → j < 16 → 0 ≤ lnb j ∧ lnb j ≤ 127) : zCr l yJ4_append_bf812 wsJ4_append_bf812 ({ frames := 5, cells := 1, slots := 34, locals := 112 }) K D tA [.ref a0, .int (iI x)] a0 ([(a0, .inr (1, [.ref a1, .int (iI 0), .int (iI lml), .int (iI 16)])), (a1, .inl (tA 3, 16, .inl (zA lnb)))]) sz (fun (u : Nat) => True) (fun (u : Nat) => [(a0, .inr (1, [.ref u, .int (iI 0), .int (iI lml), .int (iI 17)])), (u, .inl (tA 3, 34, .inl (zA (wrL (zCpy lnb z0F 0 0 16) 16 (dgL x)))))]) 1 34 := by
  refine zCr_of (cc := cJ4_append_bf812) (maxL := 2) (by decide) rfl (Or.inl ⟨_, rfl⟩) (Nat.le_of_ble_eq_true rfl) ?_
  intro p e s m args below meth c A Q ls hx hb hml hts hown hK hP hD hA hCn hret hl
  obtain ⟨H, hHe⟩ : ∃ H : Heap, H = s.heap := ⟨_, rfl⟩
  have hS : va_S A s.heap H [] := by rw [hHe]; exact va_S.rf
  rw [← hHe] at hP ⊢
  have hl : lv_has ls 2 [(0, .ref a0), (1, .int (iI x))] := hl
  refine lv_aload_n hx hb dJ4_append_bf812_0 rfl (lv_at hl 0 rfl) ?_
  refine lv_iload_n hx hb dJ4_append_bf812_1 rfl (lv_at hl 1 rfl) ?_
  refine zc_callSUr (As := [.int (iI x)]) (rest := []) (wf := fun u => [(a0, .inr (1, [.ref u, .int (iI 0), .int (iI lml), .int (iI 17)])), (u, .inl (tA 3, 34, .inl (zA (wrL (zCpy lnb z0F 0 0 16) 16 (dgL x)))))]) ⟨hx, hb, hml, hown, hts⟩ (c_J5_append_c97b9_G l K D tA a0 a1 H.size lnb lml x hx9 hlb) (va_cwSU 1 hts gJ4_append_bf812_J5_append_c97b9_s53 rfl rfl rfl ⟨by decide, by decide +kernel⟩ ⟨Nat.le_of_ble_eq_true rfl, Nat.le_of_ble_eq_true rfl⟩) hK hP hD hS hA hCn [0, 1] [] [0, 1] rfl rfl (by decide) (by decide) (by decide) (by decide) (fun _ => rfl) (hK.1 1 (RJ4, TJ4, 4) rfl).2 (ci := 1) (q0 := 0) rfl rfl rfl rfl rfl hl.1 (Nat.le_of_ble_eq_true rfl) dJ4_append_bf812_2 (by show _ + 1 ≤ 1 ∧ _ + 34 ≤ 34; omega) ?_
  intro q9 H locs p2 hP hD hS
  have hP : va_P D vwCl ([(a0, .inr (1, [.ref q9, .int (iI 0), .int (iI lml), .int (iI 17)])), (q9, .inl (tA 3, 34, .inl (zA (wrL (zCpy lnb z0F 0 0 16) 16 (dgL x)))))]) H := hP
  have hD : va_D A ([(a0, .inr (1, [.ref q9, .int (iI 0), .int (iI lml), .int (iI 17)])), (q9, .inl (tA 3, 34, .inl (zA (wrL (zCpy lnb z0F 0 0 16) 16 (dgL x)))))]) := hD
  refine lv_pop hx hb dJ4_append_bf812_5 rfl ?_
  refine lv_aload_n hx hb dJ4_append_bf812_6 rfl (lv_at hl 0 rfl) ?_
  exact hret q9 _ _ _ _ dJ4_append_bf812_7 True.intro hP hD hS
