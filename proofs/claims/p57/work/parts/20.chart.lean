/-! ===== HarborLights.Chart ===== -/
set_option maxHeartbeats 4000000 in
set_option maxRecDepth 100000 in
theorem c_X1_hasPorts (l : Launch) (D : va_G) (tA : Nat → ClassId) (a0 a1 a2 a3 a4 a5 : Nat) (sz : Nat) (ports : Int) (legs : Int) (lower : Int → Int) (upper : Int → Int) (leng : Int → Int) (reach : Int → Int) (meter : Int → Int) (one : Int) (other : Int) (r_one : -2147483648 ≤ one ∧ one ≤ 2147483647) (r_other : -2147483648 ≤ other ∧ other ≤ 2147483647) (hp : 0 ≤ ports ∧ ports ≤ 10) : zMi l yX1_hasPorts wsX1_hasPorts ({ frames := 0, cells := 0, slots := 0, locals := 0 }) D tA [.ref a0, .int (iI one), .int (iI other)] (bChart tA a0 a1 a2 a3 a4 a5 ports legs lower upper leng reach meter) sz (fun (z : Int) (u : Unit) => ((z = 1 ∧ 0 ≤ one ∧ one < ports ∧ 0 ≤ other ∧ other < ports) ∨ (z = 0 ∧ ¬ (0 ≤ one ∧ one < ports ∧ 0 ≤ other ∧ other < ports)))) (fun (u : Unit) => bChart tA a0 a1 a2 a3 a4 a5 ports legs lower upper leng reach meter) 0 0 := by
  refine zMi_of (cc := cX1_hasPorts) (maxL := 3) (by decide) rfl (fun z u h => zbool z (by omega)) (Nat.le_of_ble_eq_true rfl) ?_
  intro p e s m args below meth c A Q ls hx hb hml hts hown hK hP hD hA hret hl
  obtain ⟨H, hHe⟩ : ∃ H : Heap, H = s.heap := ⟨_, rfl⟩
  have hS : va_S A s.heap H [] := by rw [hHe]; exact va_S.rf
  rw [← hHe] at hP ⊢
  have hl : lv_has ls 3 [(0, .ref a0), (1, .int (iI one)), (2, .int (iI other))] := hl
  have iX1 : ∀ v ∈ wsX10, v ∈ wsX1_hasPorts := by decide +kernel
  have f_27 := hts (.fieldLink RX1 27 "HarborLights$Chart" "ports" "I") (by decide +kernel)
  refine lv_iload_n hx hb dX1_hasPorts_0 rfl (lv_at hl 1 rfl) ?_
  refine zz_if_lt (tgt := 28) hx hb dX1_hasPorts_1 (by decide) (by omega) (fun c_1 => ?_) (fun c_1 => ?_)
  · refine zz_iconst hx hb dX1_hasPorts_28 ?_
    exact hret 0 () _ _ _ _ dX1_hasPorts_29 (show ((0 : Int) = 1 ∧ 0 ≤ one ∧ one < ports ∧ 0 ≤ other ∧ other < ports) ∨ ((0 : Int) = 0 ∧ ¬ (0 ≤ one ∧ one < ports ∧ 0 ≤ other ∧ other < ports)) from by omega) hP hD hS
  · refine lv_iload_n hx hb dX1_hasPorts_4 rfl (lv_at hl 1 rfl) ?_
    refine lv_aload_n hx hb dX1_hasPorts_5 rfl (lv_at hl 0 rfl) ?_
    refine va_get (D := D) (ci := 4) (v := .int (iI ports)) (C := RX1) (T := TX1) (N := 7) hx hb hts iX1 hown hK hP 0 rfl rfl 0 (by decide) f_27 (fun _ h9 => h9) rfl dX1_hasPorts_6 ?_
    refine zz_icmp_ge (tgt := 28) hx hb dX1_hasPorts_9 (by decide) (by omega) (by omega) (fun c_9 => ?_) (fun c_9 => ?_)
    · refine zz_iconst hx hb dX1_hasPorts_28 ?_
      exact hret 0 () _ _ _ _ dX1_hasPorts_29 (show ((0 : Int) = 1 ∧ 0 ≤ one ∧ one < ports ∧ 0 ≤ other ∧ other < ports) ∨ ((0 : Int) = 0 ∧ ¬ (0 ≤ one ∧ one < ports ∧ 0 ≤ other ∧ other < ports)) from by omega) hP hD hS
    · refine lv_iload_n hx hb dX1_hasPorts_12 rfl (lv_at hl 2 rfl) ?_
      refine zz_if_lt (tgt := 28) hx hb dX1_hasPorts_13 (by decide) (by omega) (fun c_13 => ?_) (fun c_13 => ?_)
      · refine zz_iconst hx hb dX1_hasPorts_28 ?_
        exact hret 0 () _ _ _ _ dX1_hasPorts_29 (show ((0 : Int) = 1 ∧ 0 ≤ one ∧ one < ports ∧ 0 ≤ other ∧ other < ports) ∨ ((0 : Int) = 0 ∧ ¬ (0 ≤ one ∧ one < ports ∧ 0 ≤ other ∧ other < ports)) from by omega) hP hD hS
      · refine lv_iload_n hx hb dX1_hasPorts_16 rfl (lv_at hl 2 rfl) ?_
        refine lv_aload_n hx hb dX1_hasPorts_17 rfl (lv_at hl 0 rfl) ?_
        refine va_get (D := D) (ci := 4) (v := .int (iI ports)) (C := RX1) (T := TX1) (N := 7) hx hb hts iX1 hown hK hP 0 rfl rfl 0 (by decide) f_27 (fun _ h9 => h9) rfl dX1_hasPorts_18 ?_
        refine zz_icmp_ge (tgt := 28) hx hb dX1_hasPorts_21 (by decide) (by omega) (by omega) (fun c_21 => ?_) (fun c_21 => ?_)
        · refine zz_iconst hx hb dX1_hasPorts_28 ?_
          exact hret 0 () _ _ _ _ dX1_hasPorts_29 (show ((0 : Int) = 1 ∧ 0 ≤ one ∧ one < ports ∧ 0 ≤ other ∧ other < ports) ∨ ((0 : Int) = 0 ∧ ¬ (0 ≤ one ∧ one < ports ∧ 0 ≤ other ∧ other < ports)) from by omega) hP hD hS
        · refine zz_iconst hx hb dX1_hasPorts_24 ?_
          refine lv_goto (tgt := 29) hx hb dX1_hasPorts_25 (by decide) ?_
          exact hret 1 () _ _ _ _ dX1_hasPorts_29 (show ((1 : Int) = 1 ∧ 0 ≤ one ∧ one < ports ∧ 0 ≤ other ∧ other < ports) ∨ ((1 : Int) = 0 ∧ ¬ (0 ≤ one ∧ one < ports ∧ 0 ≤ other ∧ other < ports)) from by omega) hP hD hS

set_option maxHeartbeats 4000000 in
set_option maxRecDepth 100000 in
theorem c_X1_find (l : Launch) (D : va_G) (tA : Nat → ClassId) (a0 a1 a2 a3 a4 a5 : Nat) (sz : Nat) (ports : Int) (legs : Int) (lower : Int → Int) (upper : Int → Int) (leng : Int → Int) (reach : Int → Int) (meter : Int → Int) (one : Int) (other : Int) (r_one : -2147483648 ≤ one ∧ one ≤ 2147483647) (r_other : -2147483648 ≤ other ∧ other ≤ 2147483647) (hl : 0 ≤ legs ∧ legs ≤ 20) (Rlow : zRn legs lower) (Rup : zRn legs upper) : zMi l yX1_find wsX1_find ({ frames := 1, cells := 0, slots := 0, locals := 19 }) D tA [.ref a0, .int (iI one), .int (iI other)] (bChart tA a0 a1 a2 a3 a4 a5 ports legs lower upper leng reach meter) sz (fun (z : Int) (u : Unit) => ((z = -1 ∧ (∀ j, 0 ≤ j → j < legs → ¬ (lower j = min one other ∧ upper j = max one other))) ∨ (0 ≤ z ∧ z < legs ∧ lower z = min one other ∧ upper z = max one other))) (fun (u : Unit) => bChart tA a0 a1 a2 a3 a4 a5 ports legs lower upper leng reach meter) 0 0 := by
  refine zMi_of (cc := cX1_find) (maxL := 6) (by decide) rfl (fun z u h => rfl) (Nat.le_of_ble_eq_true rfl) ?_
  intro p e s m args below meth c A Q ls hx hb hml hts hown hK hP hD hA hret hl
  obtain ⟨H, hHe⟩ : ∃ H : Heap, H = s.heap := ⟨_, rfl⟩
  have hS : va_S A s.heap H [] := by rw [hHe]; exact va_S.rf
  rw [← hHe] at hP ⊢
  have hl : lv_has ls 6 [(0, .ref a0), (1, .int (iI one)), (2, .int (iI other))] := hl
  have iX1 : ∀ v ∈ wsX10, v ∈ wsX1_find := by decide +kernel
  have f_9 := hts (.fieldLink RX1 9 "HarborLights$Chart" "lower" "[I") (by decide +kernel)
  have f_15 := hts (.fieldLink RX1 15 "HarborLights$Chart" "upper" "[I") (by decide +kernel)
  have f_40 := hts (.fieldLink RX1 40 "HarborLights$Chart" "legs" "I") (by decide +kernel)
  have l_31 := hts (.methodLink RX1 31 Lib.Math.min.name) (by decide +kernel)
  have ls_31 := hts (.static Lib.Math.min.name) (by decide +kernel)
  have lc_31 := hts (.code Lib.Math.min.name Lib.Math.min.code 2 (some .int)) (by decide +kernel)
  have li_31 := hts (.initialized "java/lang/Math") (by decide +kernel)
  have l_37 := hts (.methodLink RX1 37 Lib.Math.max.name) (by decide +kernel)
  have ls_37 := hts (.static Lib.Math.max.name) (by decide +kernel)
  have lc_37 := hts (.code Lib.Math.max.name Lib.Math.max.code 2 (some .int)) (by decide +kernel)
  have li_37 := hts (.initialized "java/lang/Math") (by decide +kernel)
  refine lv_iload_n hx hb dX1_find_0 rfl (lv_at hl 1 rfl) ?_
  refine lv_iload_n hx hb dX1_find_1 rfl (lv_at hl 2 rfl) ?_
  refine zz_mmin hx hb (by rw [hml]; exact hl.1.symm) hown l_31 ls_31 li_31 lc_31 (Nat.le_of_ble_eq_true rfl) (Nat.le_of_ble_eq_true rfl) (Nat.le_of_ble_eq_true rfl) (Nat.le_of_ble_eq_true rfl) (by omega) (by omega) dX1_find_2 ?_
  refine lv_istore_n (lv' := [(3, .int (iI (min one other))), (0, .ref a0), (1, .int (iI one)), (2, .int (iI other))]) hx hb dX1_find_5 rfl hl (by decide) rfl (fun ls hl => ?_)
  refine lv_iload_n hx hb dX1_find_6 rfl (lv_at hl 2 rfl) ?_
  refine lv_iload_n hx hb dX1_find_7 rfl (lv_at hl 3 rfl) ?_
  refine zz_mmax hx hb (by rw [hml]; exact hl.1.symm) hown l_37 ls_37 li_37 lc_37 (Nat.le_of_ble_eq_true rfl) (Nat.le_of_ble_eq_true rfl) (Nat.le_of_ble_eq_true rfl) (Nat.le_of_ble_eq_true rfl) (by omega) (by omega) dX1_find_8 ?_
  refine lv_istore (lv' := [(4, .int (iI (max one other))), (3, .int (iI (min one other))), (0, .ref a0), (1, .int (iI one)), (2, .int (iI other))]) hx hb dX1_find_11 hl (by decide) rfl (fun ls hl => ?_)
  refine zz_iconst hx hb dX1_find_13 ?_
  refine lv_istore (lv' := [(5, .int (iI 0)), (4, .int (iI (max one other))), (3, .int (iI (min one other))), (0, .ref a0), (1, .int (iI one)), (2, .int (iI other))]) hx hb dX1_find_14 hl (by decide) rfl (fun ls hl => ?_)
  have L16 : ∀ (n : Nat) (leg : Int) (H : Heap) (locs : List Loc) (ls : Array Slot), (0 ≤ leg ∧ leg ≤ legs) → (∀ j, 0 ≤ j → j < leg → ¬ (lower j = min one other ∧ upper j = max one other)) → (legs - leg).toNat < n → va_P D vwCl (bChart tA a0 a1 a2 a3 a4 a5 ports legs lower upper leng reach meter) H → va_D A (bChart tA a0 a1 a2 a3 a4 a5 ports legs lower upper leng reach meter) → va_S A s.heap H locs → lv_has ls 6 [(5, .int (iI leg)), (4, .int (iI (max one other))), (3, .int (iI (min one other))), (0, .ref a0), (1, .int (iI one)), (2, .int (iI other))] → W p l e (headSpec wsX1_find ({ frames := 1, cells := 0, slots := 0, locals := 19 })).room s m args below meth c H locs 0 0 Q (F0 m 16 ls []) := by
    intro n
    induction n with
    | zero => intro leg H locs ls i0 i1 hmz; exact absurd hmz (Nat.not_lt_zero _)
    | succ n ih16 =>
      intro leg H locs ls i0 i1 hmz hP hD hS hl
      refine lv_iload hx hb dX1_find_16 (lv_at hl 0 rfl) ?_
      refine lv_aload_n hx hb dX1_find_18 rfl (lv_at hl 3 rfl) ?_
      refine va_get (D := D) (ci := 4) (v := .int (iI legs)) (C := RX1) (T := TX1) (N := 7) hx hb hts iX1 hown hK hP 0 rfl rfl 1 (by decide) f_40 (fun _ h9 => h9) rfl dX1_find_19 ?_
      refine zz_icmp_ge (tgt := 57) hx hb dX1_find_22 (by decide) (by omega) (by omega) (fun c_22 => ?_) (fun c_22 => ?_)
      · refine zz_iconst hx hb dX1_find_57 ?_
        exact hret (-1) () _ _ _ _ dX1_find_58 (show (((-1) : Int) = -1 ∧ (∀ j, 0 ≤ j → j < legs → ¬ (lower j = min one other ∧ upper j = max one other))) ∨ (0 ≤ ((-1) : Int) ∧ ((-1) : Int) < legs ∧ lower ((-1) : Int) = min one other ∧ upper ((-1) : Int) = max one other) from by exact Or.inl ⟨rfl, fun j h0 h1 => i1 j h0 (by omega)⟩) hP hD hS
      · refine lv_aload_n hx hb dX1_find_25 rfl (lv_at hl 3 rfl) ?_
        refine va_get (D := D) (ci := 4) (v := .ref a1) (C := RX1) (T := TX1) (N := 7) hx hb hts iX1 hown hK hP 0 rfl rfl 2 (by decide) f_9 (fun _ h9 => h9) rfl dX1_find_26 ?_
        refine lv_iload hx hb dX1_find_29 (lv_at hl 0 rfl) ?_
        refine zz_iald hx hb hK hP 1 rfl (by decide) (by omega) dX1_find_31 ?_
        have r_31 := Rlow leg (by omega) (by omega)
        refine lv_iload_n hx hb dX1_find_32 rfl (lv_at hl 2 rfl) ?_
        refine zz_icmp_ne (tgt := 51) hx hb dX1_find_33 (by decide) (by omega) (by omega) (fun c_33 => ?_) (fun c_33 => ?_)
        · refine zz_iinc (lv' := [(5, .int (iI (leg + 1))), (4, .int (iI (max one other))), (3, .int (iI (min one other))), (0, .ref a0), (1, .int (iI one)), (2, .int (iI other))]) hx hb dX1_find_51 hl (k := 0) rfl (by decide) rfl (fun ls hl => ?_)
          refine lv_goto (tgt := 16) hx hb dX1_find_54 (by decide) ?_
          exact ih16 (leg + 1) _ _ _ (by omega) (by intro j h0 h1 hj; rcases Int.lt_or_eq_of_le (show j ≤ leg by omega) with h | h; exact i1 j h0 h hj; subst h; omega) (by omega) hP hD hS (lv_sub hl [0, 1, 2, 3, 4, 5] rfl)
        · refine lv_aload_n hx hb dX1_find_36 rfl (lv_at hl 3 rfl) ?_
          refine va_get (D := D) (ci := 4) (v := .ref a2) (C := RX1) (T := TX1) (N := 7) hx hb hts iX1 hown hK hP 0 rfl rfl 3 (by decide) f_15 (fun _ h9 => h9) rfl dX1_find_37 ?_
          refine lv_iload hx hb dX1_find_40 (lv_at hl 0 rfl) ?_
          refine zz_iald hx hb hK hP 2 rfl (by decide) (by omega) dX1_find_42 ?_
          have r_42 := Rup leg (by omega) (by omega)
          refine lv_iload hx hb dX1_find_43 (lv_at hl 1 rfl) ?_
          refine zz_icmp_ne (tgt := 51) hx hb dX1_find_45 (by decide) (by omega) (by omega) (fun c_45 => ?_) (fun c_45 => ?_)
          · refine zz_iinc (lv' := [(5, .int (iI (leg + 1))), (4, .int (iI (max one other))), (3, .int (iI (min one other))), (0, .ref a0), (1, .int (iI one)), (2, .int (iI other))]) hx hb dX1_find_51 hl (k := 0) rfl (by decide) rfl (fun ls hl => ?_)
            refine lv_goto (tgt := 16) hx hb dX1_find_54 (by decide) ?_
            exact ih16 (leg + 1) _ _ _ (by omega) (by intro j h0 h1 hj; rcases Int.lt_or_eq_of_le (show j ≤ leg by omega) with h | h; exact i1 j h0 h hj; subst h; omega) (by omega) hP hD hS (lv_sub hl [0, 1, 2, 3, 4, 5] rfl)
          · refine lv_iload hx hb dX1_find_48 (lv_at hl 0 rfl) ?_
            exact hret leg () _ _ _ _ dX1_find_50 (show (leg = -1 ∧ (∀ j, 0 ≤ j → j < legs → ¬ (lower j = min one other ∧ upper j = max one other))) ∨ (0 ≤ leg ∧ leg < legs ∧ lower leg = min one other ∧ upper leg = max one other) from by exact Or.inr ⟨by omega, by omega, c_33, c_45⟩) hP hD hS
  exact L16 _ 0 _ _ _ (by omega) (by intro j h0 h1; exact absurd h1 (by omega)) (Nat.lt_succ_self _) hP hD hS (lv_sub hl [0, 1, 2, 3, 4, 5] rfl)

set_option maxHeartbeats 4000000 in
set_option maxRecDepth 100000 in
theorem c_X1_comesBefore (l : Launch) (D : va_G) (tA : Nat → ClassId) (a0 a1 a2 a3 a4 a5 : Nat) (sz : Nat) (ports : Int) (legs : Int) (lower : Int → Int) (upper : Int → Int) (leng : Int → Int) (reach : Int → Int) (meter : Int → Int) (leg : Int) (nr : Int) (nl : Int) (low : Int) (high : Int) (r_leg : -2147483648 ≤ leg ∧ leg ≤ 2147483647) (r_nr : -2147483648 ≤ nr ∧ nr ≤ 2147483647) (r_nl : -2147483648 ≤ nl ∧ nl ≤ 2147483647) (r_low : -2147483648 ≤ low ∧ low ≤ 2147483647) (r_high : -2147483648 ≤ high ∧ high ≤ 2147483647) (hleg : 0 ≤ leg ∧ leg < 20) (Rlow : -2147483648 ≤ lower leg ∧ lower leg ≤ 2147483647) (Rup : -2147483648 ≤ upper leg ∧ upper leg ≤ 2147483647) (Rlen : -2147483648 ≤ leng leg ∧ leng leg ≤ 2147483647) (Rrea : -2147483648 ≤ reach leg ∧ reach leg ≤ 2147483647) : zMi l yX1_comesBefore wsX1_comesBefore ({ frames := 0, cells := 0, slots := 0, locals := 0 }) D tA [.ref a0, .int (iI leg), .int (iI nr), .int (iI nl), .int (iI low), .int (iI high)] (bChart tA a0 a1 a2 a3 a4 a5 ports legs lower upper leng reach meter) sz (fun (z : Int) (u : Unit) => ((z = 1 ∧ legLt (reach leg) (leng leg) (lower leg) (upper leg) nr nl low high) ∨ (z = 0 ∧ ¬ legLt (reach leg) (leng leg) (lower leg) (upper leg) nr nl low high))) (fun (u : Unit) => bChart tA a0 a1 a2 a3 a4 a5 ports legs lower upper leng reach meter) 0 0 := by
  refine zMi_of (cc := cX1_comesBefore) (maxL := 6) (by decide) rfl (fun z u h => zbool z (by omega)) (Nat.le_of_ble_eq_true rfl) ?_
  intro p e s m args below meth c A Q ls hx hb hml hts hown hK hP hD hA hret hl
  obtain ⟨H, hHe⟩ : ∃ H : Heap, H = s.heap := ⟨_, rfl⟩
  have hS : va_S A s.heap H [] := by rw [hHe]; exact va_S.rf
  rw [← hHe] at hP ⊢
  have hl : lv_has ls 6 [(0, .ref a0), (1, .int (iI leg)), (2, .int (iI nr)), (3, .int (iI nl)), (4, .int (iI low)), (5, .int (iI high))] := hl
  have iX1 : ∀ v ∈ wsX10, v ∈ wsX1_comesBefore := by decide +kernel
  have f_9 := hts (.fieldLink RX1 9 "HarborLights$Chart" "lower" "[I") (by decide +kernel)
  have f_15 := hts (.fieldLink RX1 15 "HarborLights$Chart" "upper" "[I") (by decide +kernel)
  have f_18 := hts (.fieldLink RX1 18 "HarborLights$Chart" "length" "[I") (by decide +kernel)
  have f_21 := hts (.fieldLink RX1 21 "HarborLights$Chart" "reach" "[I") (by decide +kernel)
  refine lv_aload_n hx hb dX1_comesBefore_0 rfl (lv_at hl 0 rfl) ?_
  refine va_get (D := D) (ci := 4) (v := .ref a4) (C := RX1) (T := TX1) (N := 7) hx hb hts iX1 hown hK hP 0 rfl rfl 5 (by decide) f_21 (fun _ h9 => h9) rfl dX1_comesBefore_1 ?_
  refine lv_iload_n hx hb dX1_comesBefore_4 rfl (lv_at hl 1 rfl) ?_
  refine zz_iald hx hb hK hP 4 rfl (by decide) (by omega) dX1_comesBefore_5 ?_
  refine lv_iload_n hx hb dX1_comesBefore_6 rfl (lv_at hl 2 rfl) ?_
  refine zz_icmp_eq (tgt := 26) hx hb dX1_comesBefore_7 (by decide) (by omega) (by omega) (fun c_7 => ?_) (fun c_7 => ?_)
  · refine lv_aload_n hx hb dX1_comesBefore_26 rfl (lv_at hl 0 rfl) ?_
    refine va_get (D := D) (ci := 4) (v := .ref a3) (C := RX1) (T := TX1) (N := 7) hx hb hts iX1 hown hK hP 0 rfl rfl 4 (by decide) f_18 (fun _ h9 => h9) rfl dX1_comesBefore_27 ?_
    refine lv_iload_n hx hb dX1_comesBefore_30 rfl (lv_at hl 1 rfl) ?_
    refine zz_iald hx hb hK hP 3 rfl (by decide) (by omega) dX1_comesBefore_31 ?_
    refine lv_iload_n hx hb dX1_comesBefore_32 rfl (lv_at hl 3 rfl) ?_
    refine zz_icmp_eq (tgt := 52) hx hb dX1_comesBefore_33 (by decide) (by omega) (by omega) (fun c_33 => ?_) (fun c_33 => ?_)
    · refine lv_aload_n hx hb dX1_comesBefore_52 rfl (lv_at hl 0 rfl) ?_
      refine va_get (D := D) (ci := 4) (v := .ref a1) (C := RX1) (T := TX1) (N := 7) hx hb hts iX1 hown hK hP 0 rfl rfl 2 (by decide) f_9 (fun _ h9 => h9) rfl dX1_comesBefore_53 ?_
      refine lv_iload_n hx hb dX1_comesBefore_56 rfl (lv_at hl 1 rfl) ?_
      refine zz_iald hx hb hK hP 1 rfl (by decide) (by omega) dX1_comesBefore_57 ?_
      refine lv_iload hx hb dX1_comesBefore_58 (lv_at hl 4 rfl) ?_
      refine zz_icmp_eq (tgt := 80) hx hb dX1_comesBefore_60 (by decide) (by omega) (by omega) (fun c_60 => ?_) (fun c_60 => ?_)
      · refine lv_aload_n hx hb dX1_comesBefore_80 rfl (lv_at hl 0 rfl) ?_
        refine va_get (D := D) (ci := 4) (v := .ref a2) (C := RX1) (T := TX1) (N := 7) hx hb hts iX1 hown hK hP 0 rfl rfl 3 (by decide) f_15 (fun _ h9 => h9) rfl dX1_comesBefore_81 ?_
        refine lv_iload_n hx hb dX1_comesBefore_84 rfl (lv_at hl 1 rfl) ?_
        refine zz_iald hx hb hK hP 2 rfl (by decide) (by omega) dX1_comesBefore_85 ?_
        refine lv_iload hx hb dX1_comesBefore_86 (lv_at hl 5 rfl) ?_
        refine zz_icmp_ge (tgt := 95) hx hb dX1_comesBefore_88 (by decide) (by omega) (by omega) (fun c_88 => ?_) (fun c_88 => ?_)
        · refine zz_iconst hx hb dX1_comesBefore_95 ?_
          exact hret 0 () _ _ _ _ dX1_comesBefore_96 (show ((0 : Int) = 1 ∧ legLt (reach leg) (leng leg) (lower leg) (upper leg) nr nl low high) ∨ ((0 : Int) = 0 ∧ ¬ legLt (reach leg) (leng leg) (lower leg) (upper leg) nr nl low high) from by unfold legLt; omega) hP hD hS
        · refine zz_iconst hx hb dX1_comesBefore_91 ?_
          refine lv_goto (tgt := 96) hx hb dX1_comesBefore_92 (by decide) ?_
          exact hret 1 () _ _ _ _ dX1_comesBefore_96 (show ((1 : Int) = 1 ∧ legLt (reach leg) (leng leg) (lower leg) (upper leg) nr nl low high) ∨ ((1 : Int) = 0 ∧ ¬ legLt (reach leg) (leng leg) (lower leg) (upper leg) nr nl low high) from by unfold legLt; omega) hP hD hS
      · refine lv_aload_n hx hb dX1_comesBefore_63 rfl (lv_at hl 0 rfl) ?_
        refine va_get (D := D) (ci := 4) (v := .ref a1) (C := RX1) (T := TX1) (N := 7) hx hb hts iX1 hown hK hP 0 rfl rfl 2 (by decide) f_9 (fun _ h9 => h9) rfl dX1_comesBefore_64 ?_
        refine lv_iload_n hx hb dX1_comesBefore_67 rfl (lv_at hl 1 rfl) ?_
        refine zz_iald hx hb hK hP 1 rfl (by decide) (by omega) dX1_comesBefore_68 ?_
        refine lv_iload hx hb dX1_comesBefore_69 (lv_at hl 4 rfl) ?_
        refine zz_icmp_ge (tgt := 78) hx hb dX1_comesBefore_71 (by decide) (by omega) (by omega) (fun c_71 => ?_) (fun c_71 => ?_)
        · refine zz_iconst hx hb dX1_comesBefore_78 ?_
          exact hret 0 () _ _ _ _ dX1_comesBefore_79 (show ((0 : Int) = 1 ∧ legLt (reach leg) (leng leg) (lower leg) (upper leg) nr nl low high) ∨ ((0 : Int) = 0 ∧ ¬ legLt (reach leg) (leng leg) (lower leg) (upper leg) nr nl low high) from by unfold legLt; omega) hP hD hS
        · refine zz_iconst hx hb dX1_comesBefore_74 ?_
          refine lv_goto (tgt := 79) hx hb dX1_comesBefore_75 (by decide) ?_
          exact hret 1 () _ _ _ _ dX1_comesBefore_79 (show ((1 : Int) = 1 ∧ legLt (reach leg) (leng leg) (lower leg) (upper leg) nr nl low high) ∨ ((1 : Int) = 0 ∧ ¬ legLt (reach leg) (leng leg) (lower leg) (upper leg) nr nl low high) from by unfold legLt; omega) hP hD hS
    · refine lv_aload_n hx hb dX1_comesBefore_36 rfl (lv_at hl 0 rfl) ?_
      refine va_get (D := D) (ci := 4) (v := .ref a3) (C := RX1) (T := TX1) (N := 7) hx hb hts iX1 hown hK hP 0 rfl rfl 4 (by decide) f_18 (fun _ h9 => h9) rfl dX1_comesBefore_37 ?_
      refine lv_iload_n hx hb dX1_comesBefore_40 rfl (lv_at hl 1 rfl) ?_
      refine zz_iald hx hb hK hP 3 rfl (by decide) (by omega) dX1_comesBefore_41 ?_
      refine lv_iload_n hx hb dX1_comesBefore_42 rfl (lv_at hl 3 rfl) ?_
      refine zz_icmp_ge (tgt := 50) hx hb dX1_comesBefore_43 (by decide) (by omega) (by omega) (fun c_43 => ?_) (fun c_43 => ?_)
      · refine zz_iconst hx hb dX1_comesBefore_50 ?_
        exact hret 0 () _ _ _ _ dX1_comesBefore_51 (show ((0 : Int) = 1 ∧ legLt (reach leg) (leng leg) (lower leg) (upper leg) nr nl low high) ∨ ((0 : Int) = 0 ∧ ¬ legLt (reach leg) (leng leg) (lower leg) (upper leg) nr nl low high) from by unfold legLt; omega) hP hD hS
      · refine zz_iconst hx hb dX1_comesBefore_46 ?_
        refine lv_goto (tgt := 51) hx hb dX1_comesBefore_47 (by decide) ?_
        exact hret 1 () _ _ _ _ dX1_comesBefore_51 (show ((1 : Int) = 1 ∧ legLt (reach leg) (leng leg) (lower leg) (upper leg) nr nl low high) ∨ ((1 : Int) = 0 ∧ ¬ legLt (reach leg) (leng leg) (lower leg) (upper leg) nr nl low high) from by unfold legLt; omega) hP hD hS
  · refine lv_aload_n hx hb dX1_comesBefore_10 rfl (lv_at hl 0 rfl) ?_
    refine va_get (D := D) (ci := 4) (v := .ref a4) (C := RX1) (T := TX1) (N := 7) hx hb hts iX1 hown hK hP 0 rfl rfl 5 (by decide) f_21 (fun _ h9 => h9) rfl dX1_comesBefore_11 ?_
    refine lv_iload_n hx hb dX1_comesBefore_14 rfl (lv_at hl 1 rfl) ?_
    refine zz_iald hx hb hK hP 4 rfl (by decide) (by omega) dX1_comesBefore_15 ?_
    refine lv_iload_n hx hb dX1_comesBefore_16 rfl (lv_at hl 2 rfl) ?_
    refine zz_icmp_ge (tgt := 24) hx hb dX1_comesBefore_17 (by decide) (by omega) (by omega) (fun c_17 => ?_) (fun c_17 => ?_)
    · refine zz_iconst hx hb dX1_comesBefore_24 ?_
      exact hret 0 () _ _ _ _ dX1_comesBefore_25 (show ((0 : Int) = 1 ∧ legLt (reach leg) (leng leg) (lower leg) (upper leg) nr nl low high) ∨ ((0 : Int) = 0 ∧ ¬ legLt (reach leg) (leng leg) (lower leg) (upper leg) nr nl low high) from by unfold legLt; omega) hP hD hS
    · refine zz_iconst hx hb dX1_comesBefore_20 ?_
      refine lv_goto (tgt := 25) hx hb dX1_comesBefore_21 (by decide) ?_
      exact hret 1 () _ _ _ _ dX1_comesBefore_25 (show ((1 : Int) = 1 ∧ legLt (reach leg) (leng leg) (lower leg) (upper leg) nr nl low high) ∨ ((1 : Int) = 0 ∧ ¬ legLt (reach leg) (leng leg) (lower leg) (upper leg) nr nl low high) from by unfold legLt; omega) hP hD hS

set_option maxHeartbeats 4000000 in
set_option maxRecDepth 100000 in
theorem c_X1_move (l : Launch) (D : va_G) (tA : Nat → ClassId) (a0 a1 a2 a3 a4 a5 : Nat) (sz : Nat) (ports : Int) (legs : Int) (lower : Int → Int) (upper : Int → Int) (leng : Int → Int) (reach : Int → Int) (meter : Int → Int) (src : Int) (dst : Int) (r_src : -2147483648 ≤ src ∧ src ≤ 2147483647) (r_dst : -2147483648 ≤ dst ∧ dst ≤ 2147483647) (hsrc : 0 ≤ src ∧ src < 20) (hdst : 0 ≤ dst ∧ dst < 20) : zMv l yX1_move wsX1_move ({ frames := 0, cells := 0, slots := 0, locals := 0 }) D tA [.ref a0, .int (iI src), .int (iI dst)] (bChart tA a0 a1 a2 a3 a4 a5 ports legs lower upper leng reach meter) sz (fun (u : Unit) => True) (fun (u : Unit) => bChart tA a0 a1 a2 a3 a4 a5 ports legs (zU lower dst (lower src)) (zU upper dst (upper src)) (zU leng dst (leng src)) (zU reach dst (reach src)) (zU meter dst (meter src))) 0 0 := by
  refine zMv_of (cc := cX1_move) (maxL := 3) (by decide) rfl (Nat.le_of_ble_eq_true rfl) ?_
  intro p e s m args below meth c A Q ls hx hb hml hts hown hK hP hD hA hret hl
  obtain ⟨H, hHe⟩ : ∃ H : Heap, H = s.heap := ⟨_, rfl⟩
  have hS : va_S A s.heap H [] := by rw [hHe]; exact va_S.rf
  rw [← hHe] at hP ⊢
  have hl : lv_has ls 3 [(0, .ref a0), (1, .int (iI src)), (2, .int (iI dst))] := hl
  have iX1 : ∀ v ∈ wsX10, v ∈ wsX1_move := by decide +kernel
  have f_9 := hts (.fieldLink RX1 9 "HarborLights$Chart" "lower" "[I") (by decide +kernel)
  have f_15 := hts (.fieldLink RX1 15 "HarborLights$Chart" "upper" "[I") (by decide +kernel)
  have f_18 := hts (.fieldLink RX1 18 "HarborLights$Chart" "length" "[I") (by decide +kernel)
  have f_21 := hts (.fieldLink RX1 21 "HarborLights$Chart" "reach" "[I") (by decide +kernel)
  have f_24 := hts (.fieldLink RX1 24 "HarborLights$Chart" "meter" "[I") (by decide +kernel)
  refine lv_aload_n hx hb dX1_move_0 rfl (lv_at hl 0 rfl) ?_
  refine va_get (D := D) (ci := 4) (v := .ref a1) (C := RX1) (T := TX1) (N := 7) hx hb hts iX1 hown hK hP 0 rfl rfl 2 (by decide) f_9 (fun _ h9 => h9) rfl dX1_move_1 ?_
  refine lv_iload_n hx hb dX1_move_4 rfl (lv_at hl 2 rfl) ?_
  refine lv_aload_n hx hb dX1_move_5 rfl (lv_at hl 0 rfl) ?_
  refine va_get (D := D) (ci := 4) (v := .ref a1) (C := RX1) (T := TX1) (N := 7) hx hb hts iX1 hown hK hP 0 rfl rfl 2 (by decide) f_9 (fun _ h9 => h9) rfl dX1_move_6 ?_
  refine lv_iload_n hx hb dX1_move_9 rfl (lv_at hl 1 rfl) ?_
  refine zz_iald hx hb hK hP 1 rfl (by decide) (by omega) dX1_move_10 ?_
  refine zz_iast hx hb hK hP hD hS 1 rfl (by decide) (by omega) dX1_move_11 (fun H locs hP hD hS => ?_)
  have hP : va_P D vwCl (bChart tA a0 a1 a2 a3 a4 a5 ports legs (zU lower dst (lower src)) upper leng reach meter) H := hP
  have hD : va_D A (bChart tA a0 a1 a2 a3 a4 a5 ports legs (zU lower dst (lower src)) upper leng reach meter) := hD
  refine lv_aload_n hx hb dX1_move_12 rfl (lv_at hl 0 rfl) ?_
  refine va_get (D := D) (ci := 4) (v := .ref a2) (C := RX1) (T := TX1) (N := 7) hx hb hts iX1 hown hK hP 0 rfl rfl 3 (by decide) f_15 (fun _ h9 => h9) rfl dX1_move_13 ?_
  refine lv_iload_n hx hb dX1_move_16 rfl (lv_at hl 2 rfl) ?_
  refine lv_aload_n hx hb dX1_move_17 rfl (lv_at hl 0 rfl) ?_
  refine va_get (D := D) (ci := 4) (v := .ref a2) (C := RX1) (T := TX1) (N := 7) hx hb hts iX1 hown hK hP 0 rfl rfl 3 (by decide) f_15 (fun _ h9 => h9) rfl dX1_move_18 ?_
  refine lv_iload_n hx hb dX1_move_21 rfl (lv_at hl 1 rfl) ?_
  refine zz_iald hx hb hK hP 2 rfl (by decide) (by omega) dX1_move_22 ?_
  refine zz_iast hx hb hK hP hD hS 2 rfl (by decide) (by omega) dX1_move_23 (fun H locs hP hD hS => ?_)
  have hP : va_P D vwCl (bChart tA a0 a1 a2 a3 a4 a5 ports legs (zU lower dst (lower src)) (zU upper dst (upper src)) leng reach meter) H := hP
  have hD : va_D A (bChart tA a0 a1 a2 a3 a4 a5 ports legs (zU lower dst (lower src)) (zU upper dst (upper src)) leng reach meter) := hD
  refine lv_aload_n hx hb dX1_move_24 rfl (lv_at hl 0 rfl) ?_
  refine va_get (D := D) (ci := 4) (v := .ref a3) (C := RX1) (T := TX1) (N := 7) hx hb hts iX1 hown hK hP 0 rfl rfl 4 (by decide) f_18 (fun _ h9 => h9) rfl dX1_move_25 ?_
  refine lv_iload_n hx hb dX1_move_28 rfl (lv_at hl 2 rfl) ?_
  refine lv_aload_n hx hb dX1_move_29 rfl (lv_at hl 0 rfl) ?_
  refine va_get (D := D) (ci := 4) (v := .ref a3) (C := RX1) (T := TX1) (N := 7) hx hb hts iX1 hown hK hP 0 rfl rfl 4 (by decide) f_18 (fun _ h9 => h9) rfl dX1_move_30 ?_
  refine lv_iload_n hx hb dX1_move_33 rfl (lv_at hl 1 rfl) ?_
  refine zz_iald hx hb hK hP 3 rfl (by decide) (by omega) dX1_move_34 ?_
  refine zz_iast hx hb hK hP hD hS 3 rfl (by decide) (by omega) dX1_move_35 (fun H locs hP hD hS => ?_)
  have hP : va_P D vwCl (bChart tA a0 a1 a2 a3 a4 a5 ports legs (zU lower dst (lower src)) (zU upper dst (upper src)) (zU leng dst (leng src)) reach meter) H := hP
  have hD : va_D A (bChart tA a0 a1 a2 a3 a4 a5 ports legs (zU lower dst (lower src)) (zU upper dst (upper src)) (zU leng dst (leng src)) reach meter) := hD
  refine lv_aload_n hx hb dX1_move_36 rfl (lv_at hl 0 rfl) ?_
  refine va_get (D := D) (ci := 4) (v := .ref a4) (C := RX1) (T := TX1) (N := 7) hx hb hts iX1 hown hK hP 0 rfl rfl 5 (by decide) f_21 (fun _ h9 => h9) rfl dX1_move_37 ?_
  refine lv_iload_n hx hb dX1_move_40 rfl (lv_at hl 2 rfl) ?_
  refine lv_aload_n hx hb dX1_move_41 rfl (lv_at hl 0 rfl) ?_
  refine va_get (D := D) (ci := 4) (v := .ref a4) (C := RX1) (T := TX1) (N := 7) hx hb hts iX1 hown hK hP 0 rfl rfl 5 (by decide) f_21 (fun _ h9 => h9) rfl dX1_move_42 ?_
  refine lv_iload_n hx hb dX1_move_45 rfl (lv_at hl 1 rfl) ?_
  refine zz_iald hx hb hK hP 4 rfl (by decide) (by omega) dX1_move_46 ?_
  refine zz_iast hx hb hK hP hD hS 4 rfl (by decide) (by omega) dX1_move_47 (fun H locs hP hD hS => ?_)
  have hP : va_P D vwCl (bChart tA a0 a1 a2 a3 a4 a5 ports legs (zU lower dst (lower src)) (zU upper dst (upper src)) (zU leng dst (leng src)) (zU reach dst (reach src)) meter) H := hP
  have hD : va_D A (bChart tA a0 a1 a2 a3 a4 a5 ports legs (zU lower dst (lower src)) (zU upper dst (upper src)) (zU leng dst (leng src)) (zU reach dst (reach src)) meter) := hD
  refine lv_aload_n hx hb dX1_move_48 rfl (lv_at hl 0 rfl) ?_
  refine va_get (D := D) (ci := 4) (v := .ref a5) (C := RX1) (T := TX1) (N := 7) hx hb hts iX1 hown hK hP 0 rfl rfl 6 (by decide) f_24 (fun _ h9 => h9) rfl dX1_move_49 ?_
  refine lv_iload_n hx hb dX1_move_52 rfl (lv_at hl 2 rfl) ?_
  refine lv_aload_n hx hb dX1_move_53 rfl (lv_at hl 0 rfl) ?_
  refine va_get (D := D) (ci := 4) (v := .ref a5) (C := RX1) (T := TX1) (N := 7) hx hb hts iX1 hown hK hP 0 rfl rfl 6 (by decide) f_24 (fun _ h9 => h9) rfl dX1_move_54 ?_
  refine lv_iload_n hx hb dX1_move_57 rfl (lv_at hl 1 rfl) ?_
  refine zz_iald hx hb hK hP 5 rfl (by decide) (by omega) dX1_move_58 ?_
  refine zz_iast hx hb hK hP hD hS 5 rfl (by decide) (by omega) dX1_move_59 (fun H locs hP hD hS => ?_)
  have hP : va_P D vwCl (bChart tA a0 a1 a2 a3 a4 a5 ports legs (zU lower dst (lower src)) (zU upper dst (upper src)) (zU leng dst (leng src)) (zU reach dst (reach src)) (zU meter dst (meter src))) H := hP
  have hD : va_D A (bChart tA a0 a1 a2 a3 a4 a5 ports legs (zU lower dst (lower src)) (zU upper dst (upper src)) (zU leng dst (leng src)) (zU reach dst (reach src)) (zU meter dst (meter src))) := hD
  exact hret () _ _ _ _ dX1_move_60 True.intro hP hD hS

set_option maxHeartbeats 4000000 in
set_option maxRecDepth 100000 in
theorem c_X1_countLight (l : Launch) (D : va_G) (tA : Nat → ClassId) (a0 a1 a2 a3 a4 a5 : Nat) (sz : Nat) (ports : Int) (legs : Int) (lower : Int → Int) (upper : Int → Int) (leng : Int → Int) (reach : Int → Int) (meter : Int → Int) (r : Int) (r_r : -2147483648 ≤ r ∧ r ≤ 2147483647) (hl : 0 ≤ legs ∧ legs ≤ 20) (Rrea : zRn legs reach) : zMv l yX1_countLight wsX1_countLight ({ frames := 0, cells := 0, slots := 0, locals := 0 }) D tA [.ref a0, .int (iI r)] (bChart tA a0 a1 a2 a3 a4 a5 ports legs lower upper leng reach meter) sz (fun (u : Unit) => True) (fun (u : Unit) => bChart tA a0 a1 a2 a3 a4 a5 ports legs lower upper leng reach (mtUp legs reach r meter)) 0 0 := by
  refine zMv_of (cc := cX1_countLight) (maxL := 3) (by decide) rfl (Nat.le_of_ble_eq_true rfl) ?_
  intro p e s m args below meth c A Q ls hx hb hml hts hown hK hP hD hA hret hl
  obtain ⟨H, hHe⟩ : ∃ H : Heap, H = s.heap := ⟨_, rfl⟩
  have hS : va_S A s.heap H [] := by rw [hHe]; exact va_S.rf
  rw [← hHe] at hP ⊢
  have hl : lv_has ls 3 [(0, .ref a0), (1, .int (iI r))] := hl
  have iX1 : ∀ v ∈ wsX10, v ∈ wsX1_countLight := by decide +kernel
  have f_21 := hts (.fieldLink RX1 21 "HarborLights$Chart" "reach" "[I") (by decide +kernel)
  have f_24 := hts (.fieldLink RX1 24 "HarborLights$Chart" "meter" "[I") (by decide +kernel)
  have f_40 := hts (.fieldLink RX1 40 "HarborLights$Chart" "legs" "I") (by decide +kernel)
  refine zz_iconst hx hb dX1_countLight_0 ?_
  refine lv_istore_n (lv' := [(2, .int (iI 0)), (0, .ref a0), (1, .int (iI r))]) hx hb dX1_countLight_1 rfl hl (by decide) rfl (fun ls hl => ?_)
  have L2 : ∀ (n : Nat) (leg : Int) (mt : Int → Int) (H : Heap) (locs : List Loc) (ls : Array Slot), (0 ≤ leg ∧ leg ≤ legs) → (mt = mtUp leg reach r meter) → (legs - leg).toNat < n → va_P D vwCl (bChart tA a0 a1 a2 a3 a4 a5 ports legs lower upper leng reach mt) H → va_D A (bChart tA a0 a1 a2 a3 a4 a5 ports legs lower upper leng reach mt) → va_S A s.heap H locs → lv_has ls 3 [(2, .int (iI leg)), (0, .ref a0), (1, .int (iI r))] → W p l e (headSpec wsX1_countLight ({ frames := 0, cells := 0, slots := 0, locals := 0 })).room s m args below meth c H locs 0 0 Q (F0 m 2 ls []) := by
    intro n
    induction n with
    | zero => intro leg mt H locs ls i0 i1 hmz; exact absurd hmz (Nat.not_lt_zero _)
    | succ n ih2 =>
      intro leg mt H locs ls i0 i1 hmz hP hD hS hl
      refine lv_iload_n hx hb dX1_countLight_2 rfl (lv_at hl 0 rfl) ?_
      refine lv_aload_n hx hb dX1_countLight_3 rfl (lv_at hl 1 rfl) ?_
      refine va_get (D := D) (ci := 4) (v := .int (iI legs)) (C := RX1) (T := TX1) (N := 7) hx hb hts iX1 hown hK hP 0 rfl rfl 1 (by decide) f_40 (fun _ h9 => h9) rfl dX1_countLight_4 ?_
      refine zz_icmp_ge (tgt := 36) hx hb dX1_countLight_7 (by decide) (by omega) (by omega) (fun c_7 => ?_) (fun c_7 => ?_)
      · have e_meter : mt = (mtUp legs reach r meter) := by rw [i1, show leg = legs by omega]
        rw [e_meter] at hP hD
        exact hret () _ _ _ _ dX1_countLight_36 True.intro hP hD hS
      · refine lv_aload_n hx hb dX1_countLight_10 rfl (lv_at hl 1 rfl) ?_
        refine va_get (D := D) (ci := 4) (v := .ref a4) (C := RX1) (T := TX1) (N := 7) hx hb hts iX1 hown hK hP 0 rfl rfl 5 (by decide) f_21 (fun _ h9 => h9) rfl dX1_countLight_11 ?_
        refine lv_iload_n hx hb dX1_countLight_14 rfl (lv_at hl 0 rfl) ?_
        refine zz_iald hx hb hK hP 4 rfl (by decide) (by omega) dX1_countLight_15 ?_
        have r_15 := Rrea leg (by omega) (by omega)
        refine lv_iload_n hx hb dX1_countLight_16 rfl (lv_at hl 2 rfl) ?_
        refine zz_icmp_gt (tgt := 30) hx hb dX1_countLight_17 (by decide) (by omega) (by omega) (fun c_17 => ?_) (fun c_17 => ?_)
        · refine zz_iinc (lv' := [(2, .int (iI (leg + 1))), (0, .ref a0), (1, .int (iI r))]) hx hb dX1_countLight_30 hl (k := 0) rfl (by decide) rfl (fun ls hl => ?_)
          refine lv_goto (tgt := 2) hx hb dX1_countLight_33 (by decide) ?_
          exact ih2 (leg + 1) mt _ _ _ (by omega) (by subst i1; first | exact mtUp_s1 (by omega) (by omega) | exact mtUp_s0 (by omega)) (by omega) hP hD hS (lv_sub hl [0, 1, 2] rfl)
        · refine lv_aload_n hx hb dX1_countLight_20 rfl (lv_at hl 1 rfl) ?_
          refine va_get (D := D) (ci := 4) (v := .ref a5) (C := RX1) (T := TX1) (N := 7) hx hb hts iX1 hown hK hP 0 rfl rfl 6 (by decide) f_24 (fun _ h9 => h9) rfl dX1_countLight_21 ?_
          refine lv_iload_n hx hb dX1_countLight_24 rfl (lv_at hl 0 rfl) ?_
          refine lv_dup2_11 hx hb dX1_countLight_25 rfl rfl ?_
          refine zz_iald hx hb hK hP 5 rfl (by decide) (by omega) dX1_countLight_26 ?_
          refine zz_iconst hx hb dX1_countLight_27 ?_
          refine zz_iadd hx hb dX1_countLight_28 ?_
          refine zz_iast hx hb hK hP hD hS 5 rfl (by decide) (by omega) dX1_countLight_29 (fun H locs hP hD hS => ?_)
          have hP : va_P D vwCl (bChart tA a0 a1 a2 a3 a4 a5 ports legs lower upper leng reach (zU mt leg ((mt leg) + 1))) H := hP
          have hD : va_D A (bChart tA a0 a1 a2 a3 a4 a5 ports legs lower upper leng reach (zU mt leg ((mt leg) + 1))) := hD
          refine zz_iinc (lv' := [(2, .int (iI (leg + 1))), (0, .ref a0), (1, .int (iI r))]) hx hb dX1_countLight_30 hl (k := 0) rfl (by decide) rfl (fun ls hl => ?_)
          refine lv_goto (tgt := 2) hx hb dX1_countLight_33 (by decide) ?_
          exact ih2 (leg + 1) (zU mt leg ((mt leg) + 1)) _ _ _ (by omega) (by subst i1; first | exact mtUp_s1 (by omega) (by omega) | exact mtUp_s0 (by omega)) (by omega) hP hD hS (lv_sub hl [0, 1, 2] rfl)
  exact L2 _ 0 meter _ _ _ (by omega) (by exact (mtUp_0 reach r meter).symm) (Nat.lt_succ_self _) hP hD hS (lv_sub hl [0, 1, 2] rfl)

set_option maxHeartbeats 4000000 in
set_option maxRecDepth 100000 in
theorem c_X1_insert (l : Launch) (D : va_G) (tA : Nat → ClassId) (a0 a1 a2 a3 a4 a5 : Nat) (sz : Nat) (ports : Int) (legs : Int) (lower : Int → Int) (upper : Int → Int) (leng : Int → Int) (reach : Int → Int) (meter : Int → Int) (one : Int) (other : Int) (nl : Int) (nr : Int) (r_one : -2147483648 ≤ one ∧ one ≤ 2147483647) (r_other : -2147483648 ≤ other ∧ other ≤ 2147483647) (r_nl : -2147483648 ≤ nl ∧ nl ≤ 2147483647) (r_nr : -2147483648 ≤ nr ∧ nr ≤ 2147483647) (hl : 0 ≤ legs ∧ legs < 20) (Rlow : zRn legs lower) (Rup : zRn legs upper) (Rlen : zRn legs leng) (Rrea : zRn legs reach) : zMv l yX1_insert wsX1_insert ({ frames := 1, cells := 0, slots := 0, locals := 25 }) D tA [.ref a0, .int (iI one), .int (iI other), .int (iI nl), .int (iI nr)] (bChart tA a0 a1 a2 a3 a4 a5 ports legs lower upper leng reach meter) sz (fun (u : (Int)) => (0 ≤ u ∧ u ≤ legs) ∧ (∀ j, 0 ≤ j → j < u → legLt (reach j) (leng j) (lower j) (upper j) nr nl (min one other) (max one other)) ∧ (u = legs ∨ ¬ legLt (reach u) (leng u) (lower u) (upper u) nr nl (min one other) (max one other))) (fun (u : (Int)) => bChart tA a0 a1 a2 a3 a4 a5 ports (legs + 1) (zU (shf lower u legs) u (min one other)) (zU (shf upper u legs) u (max one other)) (zU (shf leng u legs) u nl) (zU (shf reach u legs) u nr) (zU (shf meter u legs) u 0)) 0 0 := by
  refine zMv_of (cc := cX1_insert) (maxL := 9) (by decide) rfl (Nat.le_of_ble_eq_true rfl) ?_
  intro p e s m args below meth c A Q ls hx hb hml hts hown hK hP hD hA hret hl
  obtain ⟨H, hHe⟩ : ∃ H : Heap, H = s.heap := ⟨_, rfl⟩
  have hS : va_S A s.heap H [] := by rw [hHe]; exact va_S.rf
  rw [← hHe] at hP ⊢
  have hl : lv_has ls 9 [(0, .ref a0), (1, .int (iI one)), (2, .int (iI other)), (3, .int (iI nl)), (4, .int (iI nr))] := hl
  have iX1 : ∀ v ∈ wsX10, v ∈ wsX1_insert := by decide +kernel
  have f_9 := hts (.fieldLink RX1 9 "HarborLights$Chart" "lower" "[I") (by decide +kernel)
  have f_15 := hts (.fieldLink RX1 15 "HarborLights$Chart" "upper" "[I") (by decide +kernel)
  have f_18 := hts (.fieldLink RX1 18 "HarborLights$Chart" "length" "[I") (by decide +kernel)
  have f_21 := hts (.fieldLink RX1 21 "HarborLights$Chart" "reach" "[I") (by decide +kernel)
  have f_24 := hts (.fieldLink RX1 24 "HarborLights$Chart" "meter" "[I") (by decide +kernel)
  have f_40 := hts (.fieldLink RX1 40 "HarborLights$Chart" "legs" "I") (by decide +kernel)
  have l_31 := hts (.methodLink RX1 31 Lib.Math.min.name) (by decide +kernel)
  have ls_31 := hts (.static Lib.Math.min.name) (by decide +kernel)
  have lc_31 := hts (.code Lib.Math.min.name Lib.Math.min.code 2 (some .int)) (by decide +kernel)
  have li_31 := hts (.initialized "java/lang/Math") (by decide +kernel)
  have l_37 := hts (.methodLink RX1 37 Lib.Math.max.name) (by decide +kernel)
  have ls_37 := hts (.static Lib.Math.max.name) (by decide +kernel)
  have lc_37 := hts (.code Lib.Math.max.name Lib.Math.max.code 2 (some .int)) (by decide +kernel)
  have li_37 := hts (.initialized "java/lang/Math") (by decide +kernel)
  refine lv_aload_n hx hb dX1_insert_0 rfl (lv_at hl 0 rfl) ?_
  refine va_get (D := D) (ci := 4) (v := .int (iI legs)) (C := RX1) (T := TX1) (N := 7) hx hb hts iX1 hown hK hP 0 rfl rfl 1 (by decide) f_40 (fun _ h9 => h9) rfl dX1_insert_1 ?_
  refine zz_bipush hx hb dX1_insert_4 (by decide) ?_
  refine zz_icmp_lt (tgt := 10) hx hb dX1_insert_6 (by decide) (by omega) (by decide) (fun c_6 => ?_) (fun c_6 => ?_)
  · refine lv_iload_n hx hb dX1_insert_10 rfl (lv_at hl 1 rfl) ?_
    refine lv_iload_n hx hb dX1_insert_11 rfl (lv_at hl 2 rfl) ?_
    refine zz_mmin hx hb (by rw [hml]; exact hl.1.symm) hown l_31 ls_31 li_31 lc_31 (Nat.le_of_ble_eq_true rfl) (Nat.le_of_ble_eq_true rfl) (Nat.le_of_ble_eq_true rfl) (Nat.le_of_ble_eq_true rfl) (by omega) (by omega) dX1_insert_12 ?_
    refine lv_istore (lv' := [(5, .int (iI (min one other))), (0, .ref a0), (1, .int (iI one)), (2, .int (iI other)), (3, .int (iI nl)), (4, .int (iI nr))]) hx hb dX1_insert_15 hl (by decide) rfl (fun ls hl => ?_)
    refine lv_iload_n hx hb dX1_insert_17 rfl (lv_at hl 2 rfl) ?_
    refine lv_iload_n hx hb dX1_insert_18 rfl (lv_at hl 3 rfl) ?_
    refine zz_mmax hx hb (by rw [hml]; exact hl.1.symm) hown l_37 ls_37 li_37 lc_37 (Nat.le_of_ble_eq_true rfl) (Nat.le_of_ble_eq_true rfl) (Nat.le_of_ble_eq_true rfl) (Nat.le_of_ble_eq_true rfl) (by omega) (by omega) dX1_insert_19 ?_
    refine lv_istore (lv' := [(6, .int (iI (max one other))), (5, .int (iI (min one other))), (0, .ref a0), (1, .int (iI one)), (2, .int (iI other)), (3, .int (iI nl)), (4, .int (iI nr))]) hx hb dX1_insert_22 hl (by decide) rfl (fun ls hl => ?_)
    refine zz_iconst hx hb dX1_insert_24 ?_
    refine lv_istore (lv' := [(7, .int (iI 0)), (6, .int (iI (max one other))), (5, .int (iI (min one other))), (0, .ref a0), (1, .int (iI one)), (2, .int (iI other)), (3, .int (iI nl)), (4, .int (iI nr))]) hx hb dX1_insert_25 hl (by decide) rfl (fun ls hl => ?_)
    have L27 : ∀ (n : Nat) (place : Int) (H : Heap) (locs : List Loc) (ls : Array Slot), (0 ≤ place ∧ place ≤ legs) → (∀ j, 0 ≤ j → j < place → legLt (reach j) (leng j) (lower j) (upper j) nr nl (min one other) (max one other)) → (legs - place).toNat < n → va_P D vwCl (bChart tA a0 a1 a2 a3 a4 a5 ports legs lower upper leng reach meter) H → va_D A (bChart tA a0 a1 a2 a3 a4 a5 ports legs lower upper leng reach meter) → va_S A s.heap H locs → lv_has ls 9 [(7, .int (iI place)), (6, .int (iI (max one other))), (5, .int (iI (min one other))), (0, .ref a0), (1, .int (iI one)), (2, .int (iI other)), (3, .int (iI nl)), (4, .int (iI nr))] → W p l e (headSpec wsX1_insert ({ frames := 1, cells := 0, slots := 0, locals := 25 })).room s m args below meth c H locs 0 0 Q (F0 m 27 ls []) := by
      intro n
      induction n with
      | zero => intro place H locs ls i0 i1 hmz; exact absurd hmz (Nat.not_lt_zero _)
      | succ n ih27 =>
        intro place H locs ls i0 i1 hmz hP hD hS hl
        refine lv_iload hx hb dX1_insert_27 (lv_at hl 0 rfl) ?_
        refine lv_aload_n hx hb dX1_insert_29 rfl (lv_at hl 3 rfl) ?_
        refine va_get (D := D) (ci := 4) (v := .int (iI legs)) (C := RX1) (T := TX1) (N := 7) hx hb hts iX1 hown hK hP 0 rfl rfl 1 (by decide) f_40 (fun _ h9 => h9) rfl dX1_insert_30 ?_
        refine zz_icmp_ge (tgt := 58) hx hb dX1_insert_33 (by decide) (by omega) (by omega) (fun c_33 => ?_) (fun c_33 => ?_)
        · have hpl : place = legs ∨ ¬ legLt (reach place) (leng place) (lower place) (upper place) nr nl (min one other) (max one other) := by first | exact Or.inl (by omega) | exact Or.inr (q_46.elim (fun h => absurd h.1 (by omega)) (fun h => h.2))
          refine lv_aload_n hx hb dX1_insert_58 rfl (lv_at hl 3 rfl) ?_
          refine va_get (D := D) (ci := 4) (v := .int (iI legs)) (C := RX1) (T := TX1) (N := 7) hx hb hts iX1 hown hK hP 0 rfl rfl 1 (by decide) f_40 (fun _ h9 => h9) rfl dX1_insert_59 ?_
          refine lv_istore (lv' := [(8, .int (iI legs)), (7, .int (iI place)), (6, .int (iI (max one other))), (5, .int (iI (min one other))), (0, .ref a0), (1, .int (iI one)), (2, .int (iI other)), (3, .int (iI nl)), (4, .int (iI nr))]) hx hb dX1_insert_62 hl (by decide) rfl (fun ls hl => ?_)
          have L64 : ∀ (n : Nat) (i : Int) (lower9 : Int → Int) (upper9 : Int → Int) (leng9 : Int → Int) (reach9 : Int → Int) (meter9 : Int → Int) (H : Heap) (locs : List Loc) (ls : Array Slot), (place ≤ i ∧ i ≤ legs) → (lower9 = shf lower i legs) → (upper9 = shf upper i legs) → (leng9 = shf leng i legs) → (reach9 = shf reach i legs) → (meter9 = shf meter i legs) → (i - place).toNat < n → va_P D vwCl (bChart tA a0 a1 a2 a3 a4 a5 ports legs lower9 upper9 leng9 reach9 meter9) H → va_D A (bChart tA a0 a1 a2 a3 a4 a5 ports legs lower9 upper9 leng9 reach9 meter9) → va_S A s.heap H locs → lv_has ls 9 [(8, .int (iI i)), (7, .int (iI place)), (6, .int (iI (max one other))), (5, .int (iI (min one other))), (0, .ref a0), (1, .int (iI one)), (2, .int (iI other)), (3, .int (iI nl)), (4, .int (iI nr))] → W p l e (headSpec wsX1_insert ({ frames := 1, cells := 0, slots := 0, locals := 25 })).room s m args below meth c H locs 0 0 Q (F0 m 64 ls []) := by
            intro n
            induction n with
            | zero => intro i lower9 upper9 leng9 reach9 meter9 H locs ls k0 k_lower k_upper k_leng k_reach k_meter hmz; exact absurd hmz (Nat.not_lt_zero _)
            | succ n ih64 =>
              intro i lower9 upper9 leng9 reach9 meter9 H locs ls k0 k_lower k_upper k_leng k_reach k_meter hmz hP hD hS hl
              refine lv_iload hx hb dX1_insert_64 (lv_at hl 0 rfl) ?_
              refine lv_iload hx hb dX1_insert_66 (lv_at hl 1 rfl) ?_
              refine zz_icmp_le (tgt := 87) hx hb dX1_insert_68 (by decide) (by omega) (by omega) (fun c_68 => ?_) (fun c_68 => ?_)
              · refine lv_aload_n hx hb dX1_insert_87 rfl (lv_at hl 4 rfl) ?_
                refine va_get (D := D) (ci := 4) (v := .ref a1) (C := RX1) (T := TX1) (N := 7) hx hb hts iX1 hown hK hP 0 rfl rfl 2 (by decide) f_9 (fun _ h9 => h9) rfl dX1_insert_88 ?_
                refine lv_iload hx hb dX1_insert_91 (lv_at hl 1 rfl) ?_
                refine lv_iload hx hb dX1_insert_93 (lv_at hl 3 rfl) ?_
                refine zz_iast hx hb hK hP hD hS 1 rfl (by decide) (by omega) dX1_insert_95 (fun H locs hP hD hS => ?_)
                have hP : va_P D vwCl (bChart tA a0 a1 a2 a3 a4 a5 ports legs (zU lower9 place (min one other)) upper9 leng9 reach9 meter9) H := hP
                have hD : va_D A (bChart tA a0 a1 a2 a3 a4 a5 ports legs (zU lower9 place (min one other)) upper9 leng9 reach9 meter9) := hD
                refine lv_aload_n hx hb dX1_insert_96 rfl (lv_at hl 4 rfl) ?_
                refine va_get (D := D) (ci := 4) (v := .ref a2) (C := RX1) (T := TX1) (N := 7) hx hb hts iX1 hown hK hP 0 rfl rfl 3 (by decide) f_15 (fun _ h9 => h9) rfl dX1_insert_97 ?_
                refine lv_iload hx hb dX1_insert_100 (lv_at hl 1 rfl) ?_
                refine lv_iload hx hb dX1_insert_102 (lv_at hl 2 rfl) ?_
                refine zz_iast hx hb hK hP hD hS 2 rfl (by decide) (by omega) dX1_insert_104 (fun H locs hP hD hS => ?_)
                have hP : va_P D vwCl (bChart tA a0 a1 a2 a3 a4 a5 ports legs (zU lower9 place (min one other)) (zU upper9 place (max one other)) leng9 reach9 meter9) H := hP
                have hD : va_D A (bChart tA a0 a1 a2 a3 a4 a5 ports legs (zU lower9 place (min one other)) (zU upper9 place (max one other)) leng9 reach9 meter9) := hD
                refine lv_aload_n hx hb dX1_insert_105 rfl (lv_at hl 4 rfl) ?_
                refine va_get (D := D) (ci := 4) (v := .ref a3) (C := RX1) (T := TX1) (N := 7) hx hb hts iX1 hown hK hP 0 rfl rfl 4 (by decide) f_18 (fun _ h9 => h9) rfl dX1_insert_106 ?_
                refine lv_iload hx hb dX1_insert_109 (lv_at hl 1 rfl) ?_
                refine lv_iload_n hx hb dX1_insert_111 rfl (lv_at hl 7 rfl) ?_
                refine zz_iast hx hb hK hP hD hS 3 rfl (by decide) (by omega) dX1_insert_112 (fun H locs hP hD hS => ?_)
                have hP : va_P D vwCl (bChart tA a0 a1 a2 a3 a4 a5 ports legs (zU lower9 place (min one other)) (zU upper9 place (max one other)) (zU leng9 place nl) reach9 meter9) H := hP
                have hD : va_D A (bChart tA a0 a1 a2 a3 a4 a5 ports legs (zU lower9 place (min one other)) (zU upper9 place (max one other)) (zU leng9 place nl) reach9 meter9) := hD
                refine lv_aload_n hx hb dX1_insert_113 rfl (lv_at hl 4 rfl) ?_
                refine va_get (D := D) (ci := 4) (v := .ref a4) (C := RX1) (T := TX1) (N := 7) hx hb hts iX1 hown hK hP 0 rfl rfl 5 (by decide) f_21 (fun _ h9 => h9) rfl dX1_insert_114 ?_
                refine lv_iload hx hb dX1_insert_117 (lv_at hl 1 rfl) ?_
                refine lv_iload hx hb dX1_insert_119 (lv_at hl 8 rfl) ?_
                refine zz_iast hx hb hK hP hD hS 4 rfl (by decide) (by omega) dX1_insert_121 (fun H locs hP hD hS => ?_)
                have hP : va_P D vwCl (bChart tA a0 a1 a2 a3 a4 a5 ports legs (zU lower9 place (min one other)) (zU upper9 place (max one other)) (zU leng9 place nl) (zU reach9 place nr) meter9) H := hP
                have hD : va_D A (bChart tA a0 a1 a2 a3 a4 a5 ports legs (zU lower9 place (min one other)) (zU upper9 place (max one other)) (zU leng9 place nl) (zU reach9 place nr) meter9) := hD
                refine lv_aload_n hx hb dX1_insert_122 rfl (lv_at hl 4 rfl) ?_
                refine va_get (D := D) (ci := 4) (v := .ref a5) (C := RX1) (T := TX1) (N := 7) hx hb hts iX1 hown hK hP 0 rfl rfl 6 (by decide) f_24 (fun _ h9 => h9) rfl dX1_insert_123 ?_
                refine lv_iload hx hb dX1_insert_126 (lv_at hl 1 rfl) ?_
                refine zz_iconst hx hb dX1_insert_128 ?_
                refine zz_iast hx hb hK hP hD hS 5 rfl (by decide) (by omega) dX1_insert_129 (fun H locs hP hD hS => ?_)
                have hP : va_P D vwCl (bChart tA a0 a1 a2 a3 a4 a5 ports legs (zU lower9 place (min one other)) (zU upper9 place (max one other)) (zU leng9 place nl) (zU reach9 place nr) (zU meter9 place 0)) H := hP
                have hD : va_D A (bChart tA a0 a1 a2 a3 a4 a5 ports legs (zU lower9 place (min one other)) (zU upper9 place (max one other)) (zU leng9 place nl) (zU reach9 place nr) (zU meter9 place 0)) := hD
                refine lv_aload_n hx hb dX1_insert_130 rfl (lv_at hl 4 rfl) ?_
                refine lv_dup hx hb dX1_insert_131 rfl ?_
                refine va_get (D := D) (ci := 4) (v := .int (iI legs)) (C := RX1) (T := TX1) (N := 7) hx hb hts iX1 hown hK hP 0 rfl rfl 1 (by decide) f_40 (fun _ h9 => h9) rfl dX1_insert_132 ?_
                refine zz_iconst hx hb dX1_insert_135 ?_
                refine zz_iadd hx hb dX1_insert_136 ?_
                refine va_put (D := D) (ci := 4) (v := .int (iI (legs + 1))) (ty := .int) (C := RX1) (T := TX1) (N := 7) hx hb hts iX1 tyX1 tyX1_ok nmX1 hown hK hP hD hS 0 rfl rfl 1 (by decide) f_40 (fun _ h9 => h9) rfl (by decide +kernel) rfl rfl (Nat.le_of_ble_eq_true rfl) dX1_insert_137 (fun H locs hP hD hS => ?_)
                have hP : va_P D vwCl (bChart tA a0 a1 a2 a3 a4 a5 ports (legs + 1) (zU lower9 place (min one other)) (zU upper9 place (max one other)) (zU leng9 place nl) (zU reach9 place nr) (zU meter9 place 0)) H := hP
                have hD : va_D A (bChart tA a0 a1 a2 a3 a4 a5 ports (legs + 1) (zU lower9 place (min one other)) (zU upper9 place (max one other)) (zU leng9 place nl) (zU reach9 place nr) (zU meter9 place 0)) := hD
                have e_lower : (zU lower9 place (min one other)) = (zU (shf lower place legs) place (min one other)) := by rw [k_lower, show i = place by omega]
                rw [e_lower] at hP hD
                have e_upper : (zU upper9 place (max one other)) = (zU (shf upper place legs) place (max one other)) := by rw [k_upper, show i = place by omega]
                rw [e_upper] at hP hD
                have e_leng : (zU leng9 place nl) = (zU (shf leng place legs) place nl) := by rw [k_leng, show i = place by omega]
                rw [e_leng] at hP hD
                have e_reach : (zU reach9 place nr) = (zU (shf reach place legs) place nr) := by rw [k_reach, show i = place by omega]
                rw [e_reach] at hP hD
                have e_meter : (zU meter9 place 0) = (zU (shf meter place legs) place 0) := by rw [k_meter, show i = place by omega]
                rw [e_meter] at hP hD
                exact hret place _ _ _ _ dX1_insert_140 ⟨(show 0 ≤ place ∧ place ≤ legs from by omega), (show ∀ j, 0 ≤ j → j < place → legLt (reach j) (leng j) (lower j) (upper j) nr nl (min one other) (max one other) from by exact i1), (show place = legs ∨ ¬ legLt (reach place) (leng place) (lower place) (upper place) nr nl (min one other) (max one other) from by exact hpl)⟩ hP hD hS
              · refine lv_aload_n hx hb dX1_insert_71 rfl (lv_at hl 4 rfl) ?_
                refine lv_iload hx hb dX1_insert_72 (lv_at hl 0 rfl) ?_
                refine zz_iconst hx hb dX1_insert_74 ?_
                refine zz_isub hx hb dX1_insert_75 ?_
                refine lv_iload hx hb dX1_insert_76 (lv_at hl 0 rfl) ?_
                refine zz_callVv (As := [.int (iI (i - 1)), .int (iI i)]) (rest := []) (wf := fun u => bChart tA a0 a1 a2 a3 a4 a5 ports legs (zU lower9 i (lower9 (i - 1))) (zU upper9 i (upper9 (i - 1))) (zU leng9 i (leng9 (i - 1))) (zU reach9 i (reach9 (i - 1))) (zU meter9 i (meter9 (i - 1)))) ⟨hx, hb, hml, hown, hts⟩ (c_X1_move l D tA a0 a1 a2 a3 a4 a5 H.size ports legs lower9 upper9 leng9 reach9 meter9 (i - 1) i (by first | assumption | omega) (by first | assumption | omega) (by first | assumption | omega) (by first | assumption | omega)) (cwV 2 hts gX1_insert_X1_move rfl rfl rfl (by decide +kernel) ⟨Nat.le_of_ble_eq_true rfl, Nat.le_of_ble_eq_true rfl⟩) hK hP hD hS hA [0, 1, 2, 3, 4, 5] [] [0, 1, 2, 3, 4, 5] rfl rfl (by decide) (by decide) (by decide) (by decide) (fun _ => rfl) (ci := 4) (q0 := 0) rfl rfl rfl rfl rfl hl.1 (Nat.le_of_ble_eq_true rfl) dX1_insert_78 ⟨Nat.le_of_ble_eq_true rfl, Nat.le_of_ble_eq_true rfl⟩ ?_
                intro u H locs p78_1 hP hD hS
                have hP : va_P D vwCl (bChart tA a0 a1 a2 a3 a4 a5 ports legs (zU lower9 i (lower9 (i - 1))) (zU upper9 i (upper9 (i - 1))) (zU leng9 i (leng9 (i - 1))) (zU reach9 i (reach9 (i - 1))) (zU meter9 i (meter9 (i - 1)))) H := hP
                have hD : va_D A (bChart tA a0 a1 a2 a3 a4 a5 ports legs (zU lower9 i (lower9 (i - 1))) (zU upper9 i (upper9 (i - 1))) (zU leng9 i (leng9 (i - 1))) (zU reach9 i (reach9 (i - 1))) (zU meter9 i (meter9 (i - 1)))) := hD
                refine zz_iinc (lv' := [(8, .int (iI (i + (-1)))), (7, .int (iI place)), (6, .int (iI (max one other))), (5, .int (iI (min one other))), (0, .ref a0), (1, .int (iI one)), (2, .int (iI other)), (3, .int (iI nl)), (4, .int (iI nr))]) hx hb dX1_insert_81 hl (k := 0) rfl (by decide) rfl (fun ls hl => ?_)
                refine lv_goto (tgt := 64) hx hb dX1_insert_84 (by decide) ?_
                exact ih64 (i + (-1)) (zU lower9 i (lower9 (i - 1))) (zU upper9 i (upper9 (i - 1))) (zU leng9 i (leng9 (i - 1))) (zU reach9 i (reach9 (i - 1))) (zU meter9 i (meter9 (i - 1))) _ _ _ (by omega) (by subst k_lower; exact shf_s lower (by omega)) (by subst k_upper; exact shf_s upper (by omega)) (by subst k_leng; exact shf_s leng (by omega)) (by subst k_reach; exact shf_s reach (by omega)) (by subst k_meter; exact shf_s meter (by omega)) (by omega) hP hD hS (lv_sub hl [0, 1, 2, 3, 4, 5, 6, 7, 8] rfl)
          exact L64 _ legs lower upper leng reach meter _ _ _ (by omega) (by exact (shf_0 lower legs).symm) (by exact (shf_0 upper legs).symm) (by exact (shf_0 leng legs).symm) (by exact (shf_0 reach legs).symm) (by exact (shf_0 meter legs).symm) (Nat.lt_succ_self _) hP hD hS (lv_sub hl [0, 1, 2, 3, 4, 5, 6, 7, 8] rfl)
        · refine lv_aload_n hx hb dX1_insert_36 rfl (lv_at hl 3 rfl) ?_
          refine lv_iload hx hb dX1_insert_37 (lv_at hl 0 rfl) ?_
          refine lv_iload hx hb dX1_insert_39 (lv_at hl 7 rfl) ?_
          refine lv_iload_n hx hb dX1_insert_41 rfl (lv_at hl 6 rfl) ?_
          refine lv_iload hx hb dX1_insert_42 (lv_at hl 2 rfl) ?_
          refine lv_iload hx hb dX1_insert_44 (lv_at hl 1 rfl) ?_
          refine zz_callVi (As := [.int (iI place), .int (iI nr), .int (iI nl), .int (iI (min one other)), .int (iI (max one other))]) (rest := []) (wf := fun u => bChart tA a0 a1 a2 a3 a4 a5 ports legs lower upper leng reach meter) ⟨hx, hb, hml, hown, hts⟩ (c_X1_comesBefore l D tA a0 a1 a2 a3 a4 a5 H.size ports legs lower upper leng reach meter place nr nl (min one other) (max one other) (by first | assumption | omega) (by first | assumption | omega) (by first | assumption | omega) (by first | assumption | omega) (by first | assumption | omega) (by first | assumption | omega) (Rlow place (by omega) (by omega)) (Rup place (by omega) (by omega)) (Rlen place (by omega) (by omega)) (Rrea place (by omega) (by omega))) (cwV 5 hts gX1_insert_X1_comesBefore rfl rfl rfl (by decide +kernel) ⟨Nat.le_of_ble_eq_true rfl, Nat.le_of_ble_eq_true rfl⟩) hK hP hD hS hA [0, 1, 2, 3, 4, 5] [] [0, 1, 2, 3, 4, 5] rfl rfl (by decide) (by decide) (by decide) (by decide) (fun _ => rfl) (ci := 4) (q0 := 0) rfl rfl rfl rfl rfl hl.1 (Nat.le_of_ble_eq_true rfl) dX1_insert_46 ⟨Nat.le_of_ble_eq_true rfl, Nat.le_of_ble_eq_true rfl⟩ ?_
          intro z46_2 u H locs p46_3 hP hD hS
          have hP : va_P D vwCl (bChart tA a0 a1 a2 a3 a4 a5 ports legs lower upper leng reach meter) H := hP
          have hD : va_D A (bChart tA a0 a1 a2 a3 a4 a5 ports legs lower upper leng reach meter) := hD
          have q_46 : (z46_2 = 1 ∧ legLt (reach place) (leng place) (lower place) (upper place) nr nl (min one other) (max one other)) ∨ (z46_2 = 0 ∧ ¬ legLt (reach place) (leng place) (lower place) (upper place) nr nl (min one other) (max one other)) := p46_3
          refine zz_if_eq (tgt := 58) hx hb dX1_insert_49 (by decide) (by omega) (fun c_49 => ?_) (fun c_49 => ?_)
          · have hpl : place = legs ∨ ¬ legLt (reach place) (leng place) (lower place) (upper place) nr nl (min one other) (max one other) := by first | exact Or.inl (by omega) | exact Or.inr (q_46.elim (fun h => absurd h.1 (by omega)) (fun h => h.2))
            refine lv_aload_n hx hb dX1_insert_58 rfl (lv_at hl 3 rfl) ?_
            refine va_get (D := D) (ci := 4) (v := .int (iI legs)) (C := RX1) (T := TX1) (N := 7) hx hb hts iX1 hown hK hP 0 rfl rfl 1 (by decide) f_40 (fun _ h9 => h9) rfl dX1_insert_59 ?_
            refine lv_istore (lv' := [(8, .int (iI legs)), (7, .int (iI place)), (6, .int (iI (max one other))), (5, .int (iI (min one other))), (0, .ref a0), (1, .int (iI one)), (2, .int (iI other)), (3, .int (iI nl)), (4, .int (iI nr))]) hx hb dX1_insert_62 hl (by decide) rfl (fun ls hl => ?_)
            have L64 : ∀ (n : Nat) (i : Int) (lower9 : Int → Int) (upper9 : Int → Int) (leng9 : Int → Int) (reach9 : Int → Int) (meter9 : Int → Int) (H : Heap) (locs : List Loc) (ls : Array Slot), (place ≤ i ∧ i ≤ legs) → (lower9 = shf lower i legs) → (upper9 = shf upper i legs) → (leng9 = shf leng i legs) → (reach9 = shf reach i legs) → (meter9 = shf meter i legs) → (i - place).toNat < n → va_P D vwCl (bChart tA a0 a1 a2 a3 a4 a5 ports legs lower9 upper9 leng9 reach9 meter9) H → va_D A (bChart tA a0 a1 a2 a3 a4 a5 ports legs lower9 upper9 leng9 reach9 meter9) → va_S A s.heap H locs → lv_has ls 9 [(8, .int (iI i)), (7, .int (iI place)), (6, .int (iI (max one other))), (5, .int (iI (min one other))), (0, .ref a0), (1, .int (iI one)), (2, .int (iI other)), (3, .int (iI nl)), (4, .int (iI nr))] → W p l e (headSpec wsX1_insert ({ frames := 1, cells := 0, slots := 0, locals := 25 })).room s m args below meth c H locs 0 0 Q (F0 m 64 ls []) := by
              intro n
              induction n with
              | zero => intro i lower9 upper9 leng9 reach9 meter9 H locs ls k0 k_lower k_upper k_leng k_reach k_meter hmz; exact absurd hmz (Nat.not_lt_zero _)
              | succ n ih64 =>
                intro i lower9 upper9 leng9 reach9 meter9 H locs ls k0 k_lower k_upper k_leng k_reach k_meter hmz hP hD hS hl
                refine lv_iload hx hb dX1_insert_64 (lv_at hl 0 rfl) ?_
                refine lv_iload hx hb dX1_insert_66 (lv_at hl 1 rfl) ?_
                refine zz_icmp_le (tgt := 87) hx hb dX1_insert_68 (by decide) (by omega) (by omega) (fun c_68 => ?_) (fun c_68 => ?_)
                · refine lv_aload_n hx hb dX1_insert_87 rfl (lv_at hl 4 rfl) ?_
                  refine va_get (D := D) (ci := 4) (v := .ref a1) (C := RX1) (T := TX1) (N := 7) hx hb hts iX1 hown hK hP 0 rfl rfl 2 (by decide) f_9 (fun _ h9 => h9) rfl dX1_insert_88 ?_
                  refine lv_iload hx hb dX1_insert_91 (lv_at hl 1 rfl) ?_
                  refine lv_iload hx hb dX1_insert_93 (lv_at hl 3 rfl) ?_
                  refine zz_iast hx hb hK hP hD hS 1 rfl (by decide) (by omega) dX1_insert_95 (fun H locs hP hD hS => ?_)
                  have hP : va_P D vwCl (bChart tA a0 a1 a2 a3 a4 a5 ports legs (zU lower9 place (min one other)) upper9 leng9 reach9 meter9) H := hP
                  have hD : va_D A (bChart tA a0 a1 a2 a3 a4 a5 ports legs (zU lower9 place (min one other)) upper9 leng9 reach9 meter9) := hD
                  refine lv_aload_n hx hb dX1_insert_96 rfl (lv_at hl 4 rfl) ?_
                  refine va_get (D := D) (ci := 4) (v := .ref a2) (C := RX1) (T := TX1) (N := 7) hx hb hts iX1 hown hK hP 0 rfl rfl 3 (by decide) f_15 (fun _ h9 => h9) rfl dX1_insert_97 ?_
                  refine lv_iload hx hb dX1_insert_100 (lv_at hl 1 rfl) ?_
                  refine lv_iload hx hb dX1_insert_102 (lv_at hl 2 rfl) ?_
                  refine zz_iast hx hb hK hP hD hS 2 rfl (by decide) (by omega) dX1_insert_104 (fun H locs hP hD hS => ?_)
                  have hP : va_P D vwCl (bChart tA a0 a1 a2 a3 a4 a5 ports legs (zU lower9 place (min one other)) (zU upper9 place (max one other)) leng9 reach9 meter9) H := hP
                  have hD : va_D A (bChart tA a0 a1 a2 a3 a4 a5 ports legs (zU lower9 place (min one other)) (zU upper9 place (max one other)) leng9 reach9 meter9) := hD
                  refine lv_aload_n hx hb dX1_insert_105 rfl (lv_at hl 4 rfl) ?_
                  refine va_get (D := D) (ci := 4) (v := .ref a3) (C := RX1) (T := TX1) (N := 7) hx hb hts iX1 hown hK hP 0 rfl rfl 4 (by decide) f_18 (fun _ h9 => h9) rfl dX1_insert_106 ?_
                  refine lv_iload hx hb dX1_insert_109 (lv_at hl 1 rfl) ?_
                  refine lv_iload_n hx hb dX1_insert_111 rfl (lv_at hl 7 rfl) ?_
                  refine zz_iast hx hb hK hP hD hS 3 rfl (by decide) (by omega) dX1_insert_112 (fun H locs hP hD hS => ?_)
                  have hP : va_P D vwCl (bChart tA a0 a1 a2 a3 a4 a5 ports legs (zU lower9 place (min one other)) (zU upper9 place (max one other)) (zU leng9 place nl) reach9 meter9) H := hP
                  have hD : va_D A (bChart tA a0 a1 a2 a3 a4 a5 ports legs (zU lower9 place (min one other)) (zU upper9 place (max one other)) (zU leng9 place nl) reach9 meter9) := hD
                  refine lv_aload_n hx hb dX1_insert_113 rfl (lv_at hl 4 rfl) ?_
                  refine va_get (D := D) (ci := 4) (v := .ref a4) (C := RX1) (T := TX1) (N := 7) hx hb hts iX1 hown hK hP 0 rfl rfl 5 (by decide) f_21 (fun _ h9 => h9) rfl dX1_insert_114 ?_
                  refine lv_iload hx hb dX1_insert_117 (lv_at hl 1 rfl) ?_
                  refine lv_iload hx hb dX1_insert_119 (lv_at hl 8 rfl) ?_
                  refine zz_iast hx hb hK hP hD hS 4 rfl (by decide) (by omega) dX1_insert_121 (fun H locs hP hD hS => ?_)
                  have hP : va_P D vwCl (bChart tA a0 a1 a2 a3 a4 a5 ports legs (zU lower9 place (min one other)) (zU upper9 place (max one other)) (zU leng9 place nl) (zU reach9 place nr) meter9) H := hP
                  have hD : va_D A (bChart tA a0 a1 a2 a3 a4 a5 ports legs (zU lower9 place (min one other)) (zU upper9 place (max one other)) (zU leng9 place nl) (zU reach9 place nr) meter9) := hD
                  refine lv_aload_n hx hb dX1_insert_122 rfl (lv_at hl 4 rfl) ?_
                  refine va_get (D := D) (ci := 4) (v := .ref a5) (C := RX1) (T := TX1) (N := 7) hx hb hts iX1 hown hK hP 0 rfl rfl 6 (by decide) f_24 (fun _ h9 => h9) rfl dX1_insert_123 ?_
                  refine lv_iload hx hb dX1_insert_126 (lv_at hl 1 rfl) ?_
                  refine zz_iconst hx hb dX1_insert_128 ?_
                  refine zz_iast hx hb hK hP hD hS 5 rfl (by decide) (by omega) dX1_insert_129 (fun H locs hP hD hS => ?_)
                  have hP : va_P D vwCl (bChart tA a0 a1 a2 a3 a4 a5 ports legs (zU lower9 place (min one other)) (zU upper9 place (max one other)) (zU leng9 place nl) (zU reach9 place nr) (zU meter9 place 0)) H := hP
                  have hD : va_D A (bChart tA a0 a1 a2 a3 a4 a5 ports legs (zU lower9 place (min one other)) (zU upper9 place (max one other)) (zU leng9 place nl) (zU reach9 place nr) (zU meter9 place 0)) := hD
                  refine lv_aload_n hx hb dX1_insert_130 rfl (lv_at hl 4 rfl) ?_
                  refine lv_dup hx hb dX1_insert_131 rfl ?_
                  refine va_get (D := D) (ci := 4) (v := .int (iI legs)) (C := RX1) (T := TX1) (N := 7) hx hb hts iX1 hown hK hP 0 rfl rfl 1 (by decide) f_40 (fun _ h9 => h9) rfl dX1_insert_132 ?_
                  refine zz_iconst hx hb dX1_insert_135 ?_
                  refine zz_iadd hx hb dX1_insert_136 ?_
                  refine va_put (D := D) (ci := 4) (v := .int (iI (legs + 1))) (ty := .int) (C := RX1) (T := TX1) (N := 7) hx hb hts iX1 tyX1 tyX1_ok nmX1 hown hK hP hD hS 0 rfl rfl 1 (by decide) f_40 (fun _ h9 => h9) rfl (by decide +kernel) rfl rfl (Nat.le_of_ble_eq_true rfl) dX1_insert_137 (fun H locs hP hD hS => ?_)
                  have hP : va_P D vwCl (bChart tA a0 a1 a2 a3 a4 a5 ports (legs + 1) (zU lower9 place (min one other)) (zU upper9 place (max one other)) (zU leng9 place nl) (zU reach9 place nr) (zU meter9 place 0)) H := hP
                  have hD : va_D A (bChart tA a0 a1 a2 a3 a4 a5 ports (legs + 1) (zU lower9 place (min one other)) (zU upper9 place (max one other)) (zU leng9 place nl) (zU reach9 place nr) (zU meter9 place 0)) := hD
                  have e_lower : (zU lower9 place (min one other)) = (zU (shf lower place legs) place (min one other)) := by rw [k_lower, show i = place by omega]
                  rw [e_lower] at hP hD
                  have e_upper : (zU upper9 place (max one other)) = (zU (shf upper place legs) place (max one other)) := by rw [k_upper, show i = place by omega]
                  rw [e_upper] at hP hD
                  have e_leng : (zU leng9 place nl) = (zU (shf leng place legs) place nl) := by rw [k_leng, show i = place by omega]
                  rw [e_leng] at hP hD
                  have e_reach : (zU reach9 place nr) = (zU (shf reach place legs) place nr) := by rw [k_reach, show i = place by omega]
                  rw [e_reach] at hP hD
                  have e_meter : (zU meter9 place 0) = (zU (shf meter place legs) place 0) := by rw [k_meter, show i = place by omega]
                  rw [e_meter] at hP hD
                  exact hret place _ _ _ _ dX1_insert_140 ⟨(show 0 ≤ place ∧ place ≤ legs from by omega), (show ∀ j, 0 ≤ j → j < place → legLt (reach j) (leng j) (lower j) (upper j) nr nl (min one other) (max one other) from by exact i1), (show place = legs ∨ ¬ legLt (reach place) (leng place) (lower place) (upper place) nr nl (min one other) (max one other) from by exact hpl)⟩ hP hD hS
                · refine lv_aload_n hx hb dX1_insert_71 rfl (lv_at hl 4 rfl) ?_
                  refine lv_iload hx hb dX1_insert_72 (lv_at hl 0 rfl) ?_
                  refine zz_iconst hx hb dX1_insert_74 ?_
                  refine zz_isub hx hb dX1_insert_75 ?_
                  refine lv_iload hx hb dX1_insert_76 (lv_at hl 0 rfl) ?_
                  refine zz_callVv (As := [.int (iI (i - 1)), .int (iI i)]) (rest := []) (wf := fun u => bChart tA a0 a1 a2 a3 a4 a5 ports legs (zU lower9 i (lower9 (i - 1))) (zU upper9 i (upper9 (i - 1))) (zU leng9 i (leng9 (i - 1))) (zU reach9 i (reach9 (i - 1))) (zU meter9 i (meter9 (i - 1)))) ⟨hx, hb, hml, hown, hts⟩ (c_X1_move l D tA a0 a1 a2 a3 a4 a5 H.size ports legs lower9 upper9 leng9 reach9 meter9 (i - 1) i (by first | assumption | omega) (by first | assumption | omega) (by first | assumption | omega) (by first | assumption | omega)) (cwV 2 hts gX1_insert_X1_move rfl rfl rfl (by decide +kernel) ⟨Nat.le_of_ble_eq_true rfl, Nat.le_of_ble_eq_true rfl⟩) hK hP hD hS hA [0, 1, 2, 3, 4, 5] [] [0, 1, 2, 3, 4, 5] rfl rfl (by decide) (by decide) (by decide) (by decide) (fun _ => rfl) (ci := 4) (q0 := 0) rfl rfl rfl rfl rfl hl.1 (Nat.le_of_ble_eq_true rfl) dX1_insert_78 ⟨Nat.le_of_ble_eq_true rfl, Nat.le_of_ble_eq_true rfl⟩ ?_
                  intro u H locs p78_4 hP hD hS
                  have hP : va_P D vwCl (bChart tA a0 a1 a2 a3 a4 a5 ports legs (zU lower9 i (lower9 (i - 1))) (zU upper9 i (upper9 (i - 1))) (zU leng9 i (leng9 (i - 1))) (zU reach9 i (reach9 (i - 1))) (zU meter9 i (meter9 (i - 1)))) H := hP
                  have hD : va_D A (bChart tA a0 a1 a2 a3 a4 a5 ports legs (zU lower9 i (lower9 (i - 1))) (zU upper9 i (upper9 (i - 1))) (zU leng9 i (leng9 (i - 1))) (zU reach9 i (reach9 (i - 1))) (zU meter9 i (meter9 (i - 1)))) := hD
                  refine zz_iinc (lv' := [(8, .int (iI (i + (-1)))), (7, .int (iI place)), (6, .int (iI (max one other))), (5, .int (iI (min one other))), (0, .ref a0), (1, .int (iI one)), (2, .int (iI other)), (3, .int (iI nl)), (4, .int (iI nr))]) hx hb dX1_insert_81 hl (k := 0) rfl (by decide) rfl (fun ls hl => ?_)
                  refine lv_goto (tgt := 64) hx hb dX1_insert_84 (by decide) ?_
                  exact ih64 (i + (-1)) (zU lower9 i (lower9 (i - 1))) (zU upper9 i (upper9 (i - 1))) (zU leng9 i (leng9 (i - 1))) (zU reach9 i (reach9 (i - 1))) (zU meter9 i (meter9 (i - 1))) _ _ _ (by omega) (by subst k_lower; exact shf_s lower (by omega)) (by subst k_upper; exact shf_s upper (by omega)) (by subst k_leng; exact shf_s leng (by omega)) (by subst k_reach; exact shf_s reach (by omega)) (by subst k_meter; exact shf_s meter (by omega)) (by omega) hP hD hS (lv_sub hl [0, 1, 2, 3, 4, 5, 6, 7, 8] rfl)
            exact L64 _ legs lower upper leng reach meter _ _ _ (by omega) (by exact (shf_0 lower legs).symm) (by exact (shf_0 upper legs).symm) (by exact (shf_0 leng legs).symm) (by exact (shf_0 reach legs).symm) (by exact (shf_0 meter legs).symm) (Nat.lt_succ_self _) hP hD hS (lv_sub hl [0, 1, 2, 3, 4, 5, 6, 7, 8] rfl)
          · refine zz_iinc (lv' := [(7, .int (iI (place + 1))), (6, .int (iI (max one other))), (5, .int (iI (min one other))), (0, .ref a0), (1, .int (iI one)), (2, .int (iI other)), (3, .int (iI nl)), (4, .int (iI nr))]) hx hb dX1_insert_52 hl (k := 0) rfl (by decide) rfl (fun ls hl => ?_)
            refine lv_goto (tgt := 27) hx hb dX1_insert_55 (by decide) ?_
            exact ih27 (place + 1) _ _ _ (by omega) (by intro j h0 h1; rcases Int.lt_or_eq_of_le (show j ≤ place by omega) with h | h; exact i1 j h0 h; subst h; exact q_46.elim (fun h => h.2) (fun h => absurd h.1 (by omega))) (by omega) hP hD hS (lv_sub hl [0, 1, 2, 3, 4, 5, 6, 7] rfl)
    exact L27 _ 0 _ _ _ (by omega) (by intro j h0 h1; exact absurd h1 (by omega)) (Nat.lt_succ_self _) hP hD hS (lv_sub hl [0, 1, 2, 3, 4, 5, 6, 7] rfl)
  · exact absurd c_6 (by omega)

set_option maxHeartbeats 4000000 in
set_option maxRecDepth 100000 in
theorem c_X1_delete (l : Launch) (D : va_G) (tA : Nat → ClassId) (a0 a1 a2 a3 a4 a5 : Nat) (sz : Nat) (ports : Int) (legs : Int) (lower : Int → Int) (upper : Int → Int) (leng : Int → Int) (reach : Int → Int) (meter : Int → Int) (place : Int) (r_place : -2147483648 ≤ place ∧ place ≤ 2147483647) (hl : 0 ≤ legs ∧ legs ≤ 20) (hpl : 0 ≤ place ∧ place < legs) : zMv l yX1_delete wsX1_delete ({ frames := 1, cells := 0, slots := 0, locals := 22 }) D tA [.ref a0, .int (iI place)] (bChart tA a0 a1 a2 a3 a4 a5 ports legs lower upper leng reach meter) sz (fun (u : Unit) => True) (fun (u : Unit) => bChart tA a0 a1 a2 a3 a4 a5 ports (legs - 1) (dlf lower place legs) (dlf upper place legs) (dlf leng place legs) (dlf reach place legs) (dlf meter place legs)) 0 0 := by
  refine zMv_of (cc := cX1_delete) (maxL := 3) (by decide) rfl (Nat.le_of_ble_eq_true rfl) ?_
  intro p e s m args below meth c A Q ls hx hb hml hts hown hK hP hD hA hret hl
  obtain ⟨H, hHe⟩ : ∃ H : Heap, H = s.heap := ⟨_, rfl⟩
  have hS : va_S A s.heap H [] := by rw [hHe]; exact va_S.rf
  rw [← hHe] at hP ⊢
  have hl : lv_has ls 3 [(0, .ref a0), (1, .int (iI place))] := hl
  have iX1 : ∀ v ∈ wsX10, v ∈ wsX1_delete := by decide +kernel
  have f_40 := hts (.fieldLink RX1 40 "HarborLights$Chart" "legs" "I") (by decide +kernel)
  refine lv_iload_n hx hb dX1_delete_0 rfl (lv_at hl 1 rfl) ?_
  refine zz_if_lt (tgt := 12) hx hb dX1_delete_1 (by decide) (by omega) (fun c_1 => ?_) (fun c_1 => ?_)
  · exact absurd c_1 (by omega)
  · refine lv_iload_n hx hb dX1_delete_4 rfl (lv_at hl 1 rfl) ?_
    refine lv_aload_n hx hb dX1_delete_5 rfl (lv_at hl 0 rfl) ?_
    refine va_get (D := D) (ci := 4) (v := .int (iI legs)) (C := RX1) (T := TX1) (N := 7) hx hb hts iX1 hown hK hP 0 rfl rfl 1 (by decide) f_40 (fun _ h9 => h9) rfl dX1_delete_6 ?_
    refine zz_icmp_lt (tgt := 13) hx hb dX1_delete_9 (by decide) (by omega) (by omega) (fun c_9 => ?_) (fun c_9 => ?_)
    · refine lv_iload_n hx hb dX1_delete_13 rfl (lv_at hl 1 rfl) ?_
      refine zz_iconst hx hb dX1_delete_14 ?_
      refine zz_iadd hx hb dX1_delete_15 ?_
      refine lv_istore_n (lv' := [(2, .int (iI (place + 1))), (0, .ref a0), (1, .int (iI place))]) hx hb dX1_delete_16 rfl hl (by decide) rfl (fun ls hl => ?_)
      have L17 : ∀ (n : Nat) (leg : Int) (lower9 : Int → Int) (upper9 : Int → Int) (leng9 : Int → Int) (reach9 : Int → Int) (meter9 : Int → Int) (H : Heap) (locs : List Loc) (ls : Array Slot), (place + 1 ≤ leg ∧ leg ≤ legs) → (lower9 = dlf lower place leg) → (upper9 = dlf upper place leg) → (leng9 = dlf leng place leg) → (reach9 = dlf reach place leg) → (meter9 = dlf meter place leg) → (legs - leg).toNat < n → va_P D vwCl (bChart tA a0 a1 a2 a3 a4 a5 ports legs lower9 upper9 leng9 reach9 meter9) H → va_D A (bChart tA a0 a1 a2 a3 a4 a5 ports legs lower9 upper9 leng9 reach9 meter9) → va_S A s.heap H locs → lv_has ls 3 [(2, .int (iI leg)), (0, .ref a0), (1, .int (iI place))] → W p l e (headSpec wsX1_delete ({ frames := 1, cells := 0, slots := 0, locals := 22 })).room s m args below meth c H locs 0 0 Q (F0 m 17 ls []) := by
        intro n
        induction n with
        | zero => intro leg lower9 upper9 leng9 reach9 meter9 H locs ls k0 k_lower k_upper k_leng k_reach k_meter hmz; exact absurd hmz (Nat.not_lt_zero _)
        | succ n ih17 =>
          intro leg lower9 upper9 leng9 reach9 meter9 H locs ls k0 k_lower k_upper k_leng k_reach k_meter hmz hP hD hS hl
          refine lv_iload_n hx hb dX1_delete_17 rfl (lv_at hl 0 rfl) ?_
          refine lv_aload_n hx hb dX1_delete_18 rfl (lv_at hl 1 rfl) ?_
          refine va_get (D := D) (ci := 4) (v := .int (iI legs)) (C := RX1) (T := TX1) (N := 7) hx hb hts iX1 hown hK hP 0 rfl rfl 1 (by decide) f_40 (fun _ h9 => h9) rfl dX1_delete_19 ?_
          refine zz_icmp_ge (tgt := 39) hx hb dX1_delete_22 (by decide) (by omega) (by omega) (fun c_22 => ?_) (fun c_22 => ?_)
          · refine lv_aload_n hx hb dX1_delete_39 rfl (lv_at hl 1 rfl) ?_
            refine lv_dup hx hb dX1_delete_40 rfl ?_
            refine va_get (D := D) (ci := 4) (v := .int (iI legs)) (C := RX1) (T := TX1) (N := 7) hx hb hts iX1 hown hK hP 0 rfl rfl 1 (by decide) f_40 (fun _ h9 => h9) rfl dX1_delete_41 ?_
            refine zz_iconst hx hb dX1_delete_44 ?_
            refine zz_isub hx hb dX1_delete_45 ?_
            refine va_put (D := D) (ci := 4) (v := .int (iI (legs - 1))) (ty := .int) (C := RX1) (T := TX1) (N := 7) hx hb hts iX1 tyX1 tyX1_ok nmX1 hown hK hP hD hS 0 rfl rfl 1 (by decide) f_40 (fun _ h9 => h9) rfl (by decide +kernel) rfl rfl (Nat.le_of_ble_eq_true rfl) dX1_delete_46 (fun H locs hP hD hS => ?_)
            have hP : va_P D vwCl (bChart tA a0 a1 a2 a3 a4 a5 ports (legs - 1) lower9 upper9 leng9 reach9 meter9) H := hP
            have hD : va_D A (bChart tA a0 a1 a2 a3 a4 a5 ports (legs - 1) lower9 upper9 leng9 reach9 meter9) := hD
            have e_lower : lower9 = (dlf lower place legs) := by rw [k_lower, show leg = legs by omega]
            rw [e_lower] at hP hD
            have e_upper : upper9 = (dlf upper place legs) := by rw [k_upper, show leg = legs by omega]
            rw [e_upper] at hP hD
            have e_leng : leng9 = (dlf leng place legs) := by rw [k_leng, show leg = legs by omega]
            rw [e_leng] at hP hD
            have e_reach : reach9 = (dlf reach place legs) := by rw [k_reach, show leg = legs by omega]
            rw [e_reach] at hP hD
            have e_meter : meter9 = (dlf meter place legs) := by rw [k_meter, show leg = legs by omega]
            rw [e_meter] at hP hD
            exact hret () _ _ _ _ dX1_delete_49 True.intro hP hD hS
          · refine lv_aload_n hx hb dX1_delete_25 rfl (lv_at hl 1 rfl) ?_
            refine lv_iload_n hx hb dX1_delete_26 rfl (lv_at hl 0 rfl) ?_
            refine lv_iload_n hx hb dX1_delete_27 rfl (lv_at hl 0 rfl) ?_
            refine zz_iconst hx hb dX1_delete_28 ?_
            refine zz_isub hx hb dX1_delete_29 ?_
            refine zz_callVv (As := [.int (iI leg), .int (iI (leg - 1))]) (rest := []) (wf := fun u => bChart tA a0 a1 a2 a3 a4 a5 ports legs (zU lower9 (leg - 1) (lower9 leg)) (zU upper9 (leg - 1) (upper9 leg)) (zU leng9 (leg - 1) (leng9 leg)) (zU reach9 (leg - 1) (reach9 leg)) (zU meter9 (leg - 1) (meter9 leg))) ⟨hx, hb, hml, hown, hts⟩ (c_X1_move l D tA a0 a1 a2 a3 a4 a5 H.size ports legs lower9 upper9 leng9 reach9 meter9 leg (leg - 1) (by first | assumption | omega) (by first | assumption | omega) (by first | assumption | omega) (by first | assumption | omega)) (cwV 2 hts gX1_delete_X1_move rfl rfl rfl (by decide +kernel) ⟨Nat.le_of_ble_eq_true rfl, Nat.le_of_ble_eq_true rfl⟩) hK hP hD hS hA [0, 1, 2, 3, 4, 5] [] [0, 1, 2, 3, 4, 5] rfl rfl (by decide) (by decide) (by decide) (by decide) (fun _ => rfl) (ci := 4) (q0 := 0) rfl rfl rfl rfl rfl hl.1 (Nat.le_of_ble_eq_true rfl) dX1_delete_30 ⟨Nat.le_of_ble_eq_true rfl, Nat.le_of_ble_eq_true rfl⟩ ?_
            intro u H locs p30_1 hP hD hS
            have hP : va_P D vwCl (bChart tA a0 a1 a2 a3 a4 a5 ports legs (zU lower9 (leg - 1) (lower9 leg)) (zU upper9 (leg - 1) (upper9 leg)) (zU leng9 (leg - 1) (leng9 leg)) (zU reach9 (leg - 1) (reach9 leg)) (zU meter9 (leg - 1) (meter9 leg))) H := hP
            have hD : va_D A (bChart tA a0 a1 a2 a3 a4 a5 ports legs (zU lower9 (leg - 1) (lower9 leg)) (zU upper9 (leg - 1) (upper9 leg)) (zU leng9 (leg - 1) (leng9 leg)) (zU reach9 (leg - 1) (reach9 leg)) (zU meter9 (leg - 1) (meter9 leg))) := hD
            refine zz_iinc (lv' := [(2, .int (iI (leg + 1))), (0, .ref a0), (1, .int (iI place))]) hx hb dX1_delete_33 hl (k := 0) rfl (by decide) rfl (fun ls hl => ?_)
            refine lv_goto (tgt := 17) hx hb dX1_delete_36 (by decide) ?_
            exact ih17 (leg + 1) (zU lower9 (leg - 1) (lower9 leg)) (zU upper9 (leg - 1) (upper9 leg)) (zU leng9 (leg - 1) (leng9 leg)) (zU reach9 (leg - 1) (reach9 leg)) (zU meter9 (leg - 1) (meter9 leg)) _ _ _ (by omega) (by subst k_lower; exact dlf_s lower (by omega)) (by subst k_upper; exact dlf_s upper (by omega)) (by subst k_leng; exact dlf_s leng (by omega)) (by subst k_reach; exact dlf_s reach (by omega)) (by subst k_meter; exact dlf_s meter (by omega)) (by omega) hP hD hS (lv_sub hl [0, 1, 2] rfl)
      exact L17 _ (place + 1) lower upper leng reach meter _ _ _ (by omega) (by exact (dlf_0 lower place).symm) (by exact (dlf_0 upper place).symm) (by exact (dlf_0 leng place).symm) (by exact (dlf_0 reach place).symm) (by exact (dlf_0 meter place).symm) (Nat.lt_succ_self _) hP hD hS (lv_sub hl [0, 1, 2] rfl)
    · exact absurd c_9 (by omega)

set_option maxHeartbeats 4000000 in
set_option maxRecDepth 100000 in
theorem c_X1_copyFrom (l : Launch) (D : va_G) (tA : Nat → ClassId) (a0 a1 a2 a3 a4 a5 b0 b1 b2 b3 b4 b5 : Nat) (sz : Nat) (ports : Int) (legs : Int) (lower : Int → Int) (upper : Int → Int) (leng : Int → Int) (reach : Int → Int) (meter : Int → Int) (o_ports : Int) (o_legs : Int) (o_lower : Int → Int) (o_upper : Int → Int) (o_leng : Int → Int) (o_reach : Int → Int) (o_meter : Int → Int) : zMv l yX1_copyFrom wsX1_copyFrom ({ frames := 1, cells := 0, slots := 0, locals := 40 }) D tA [.ref a0, .ref b0] (bChart tA a0 a1 a2 a3 a4 a5 ports legs lower upper leng reach meter ++ bChart tA b0 b1 b2 b3 b4 b5 o_ports o_legs o_lower o_upper o_leng o_reach o_meter) sz (fun (u : Unit) => True) (fun (u : Unit) => bChart tA a0 a1 a2 a3 a4 a5 o_ports o_legs o_lower o_upper o_leng o_reach o_meter ++ bChart tA b0 b1 b2 b3 b4 b5 o_ports o_legs o_lower o_upper o_leng o_reach o_meter) 0 0 := by
  refine zMv_of (cc := cX1_copyFrom) (maxL := 2) (by decide) rfl (Nat.le_of_ble_eq_true rfl) ?_
  intro p e s m args below meth c A Q ls hx hb hml hts hown hK hP hD hA hret hl
  obtain ⟨H, hHe⟩ : ∃ H : Heap, H = s.heap := ⟨_, rfl⟩
  have hS : va_S A s.heap H [] := by rw [hHe]; exact va_S.rf
  rw [← hHe] at hP ⊢
  have hl : lv_has ls 2 [(0, .ref a0), (1, .ref b0)] := hl
  have iX1 : ∀ v ∈ wsX10, v ∈ wsX1_copyFrom := by decide +kernel
  have f_9 := hts (.fieldLink RX1 9 "HarborLights$Chart" "lower" "[I") (by decide +kernel)
  have f_15 := hts (.fieldLink RX1 15 "HarborLights$Chart" "upper" "[I") (by decide +kernel)
  have f_18 := hts (.fieldLink RX1 18 "HarborLights$Chart" "length" "[I") (by decide +kernel)
  have f_21 := hts (.fieldLink RX1 21 "HarborLights$Chart" "reach" "[I") (by decide +kernel)
  have f_24 := hts (.fieldLink RX1 24 "HarborLights$Chart" "meter" "[I") (by decide +kernel)
  have f_27 := hts (.fieldLink RX1 27 "HarborLights$Chart" "ports" "I") (by decide +kernel)
  have f_40 := hts (.fieldLink RX1 40 "HarborLights$Chart" "legs" "I") (by decide +kernel)
  have l_51 := hts (.methodLink RX1 51 arraycopyName) (by decide +kernel)
  have ln_51 := hts (.native arraycopyName) (by decide +kernel)
  have ls_51 := hts (.static arraycopyName) (by decide +kernel)
  have li_51 := hts (.initialized "java/lang/System") (by decide +kernel)
  refine lv_aload_n hx hb dX1_copyFrom_0 rfl (lv_at hl 0 rfl) ?_
  refine lv_aload_n hx hb dX1_copyFrom_1 rfl (lv_at hl 1 rfl) ?_
  refine va_get (D := D) (ci := 4) (v := .int (iI o_ports)) (C := RX1) (T := TX1) (N := 7) hx hb hts iX1 hown hK hP 6 rfl rfl 0 (by decide) f_27 (fun _ h9 => h9) rfl dX1_copyFrom_2 ?_
  refine va_put (D := D) (ci := 4) (v := .int (iI o_ports)) (ty := .int) (C := RX1) (T := TX1) (N := 7) hx hb hts iX1 tyX1 tyX1_ok nmX1 hown hK hP hD hS 0 rfl rfl 0 (by decide) f_27 (fun _ h9 => h9) rfl (by decide +kernel) rfl rfl (Nat.le_of_ble_eq_true rfl) dX1_copyFrom_5 (fun H locs hP hD hS => ?_)
  have hP : va_P D vwCl (bChart tA a0 a1 a2 a3 a4 a5 o_ports legs lower upper leng reach meter ++ bChart tA b0 b1 b2 b3 b4 b5 o_ports o_legs o_lower o_upper o_leng o_reach o_meter) H := hP
  have hD : va_D A (bChart tA a0 a1 a2 a3 a4 a5 o_ports legs lower upper leng reach meter ++ bChart tA b0 b1 b2 b3 b4 b5 o_ports o_legs o_lower o_upper o_leng o_reach o_meter) := hD
  refine lv_aload_n hx hb dX1_copyFrom_8 rfl (lv_at hl 0 rfl) ?_
  refine lv_aload_n hx hb dX1_copyFrom_9 rfl (lv_at hl 1 rfl) ?_
  refine va_get (D := D) (ci := 4) (v := .int (iI o_legs)) (C := RX1) (T := TX1) (N := 7) hx hb hts iX1 hown hK hP 6 rfl rfl 1 (by decide) f_40 (fun _ h9 => h9) rfl dX1_copyFrom_10 ?_
  refine va_put (D := D) (ci := 4) (v := .int (iI o_legs)) (ty := .int) (C := RX1) (T := TX1) (N := 7) hx hb hts iX1 tyX1 tyX1_ok nmX1 hown hK hP hD hS 0 rfl rfl 1 (by decide) f_40 (fun _ h9 => h9) rfl (by decide +kernel) rfl rfl (Nat.le_of_ble_eq_true rfl) dX1_copyFrom_13 (fun H locs hP hD hS => ?_)
  have hP : va_P D vwCl (bChart tA a0 a1 a2 a3 a4 a5 o_ports o_legs lower upper leng reach meter ++ bChart tA b0 b1 b2 b3 b4 b5 o_ports o_legs o_lower o_upper o_leng o_reach o_meter) H := hP
  have hD : va_D A (bChart tA a0 a1 a2 a3 a4 a5 o_ports o_legs lower upper leng reach meter ++ bChart tA b0 b1 b2 b3 b4 b5 o_ports o_legs o_lower o_upper o_leng o_reach o_meter) := hD
  refine lv_aload_n hx hb dX1_copyFrom_16 rfl (lv_at hl 1 rfl) ?_
  refine va_get (D := D) (ci := 4) (v := .ref b1) (C := RX1) (T := TX1) (N := 7) hx hb hts iX1 hown hK hP 6 rfl rfl 2 (by decide) f_9 (fun _ h9 => h9) rfl dX1_copyFrom_17 ?_
  refine zz_iconst hx hb dX1_copyFrom_20 ?_
  refine lv_aload_n hx hb dX1_copyFrom_21 rfl (lv_at hl 0 rfl) ?_
  refine va_get (D := D) (ci := 4) (v := .ref a1) (C := RX1) (T := TX1) (N := 7) hx hb hts iX1 hown hK hP 0 rfl rfl 2 (by decide) f_9 (fun _ h9 => h9) rfl dX1_copyFrom_22 ?_
  refine zz_iconst hx hb dX1_copyFrom_25 ?_
  refine zz_bipush hx hb dX1_copyFrom_26 (by decide) ?_
  refine zz_copyAll hx hb (by rw [hml]; exact hl.1.symm) hown l_51 ln_51 ls_51 li_51 (Nat.le_of_ble_eq_true rfl) (Nat.le_of_ble_eq_true rfl) hK hP hD hS 7 1 rfl rfl (by decide) rfl dX1_copyFrom_28 (fun H locs hP hD hS => ?_)
  have hP : va_P D vwCl (bChart tA a0 a1 a2 a3 a4 a5 o_ports o_legs o_lower upper leng reach meter ++ bChart tA b0 b1 b2 b3 b4 b5 o_ports o_legs o_lower o_upper o_leng o_reach o_meter) H := hP
  have hD : va_D A (bChart tA a0 a1 a2 a3 a4 a5 o_ports o_legs o_lower upper leng reach meter ++ bChart tA b0 b1 b2 b3 b4 b5 o_ports o_legs o_lower o_upper o_leng o_reach o_meter) := hD
  refine lv_aload_n hx hb dX1_copyFrom_31 rfl (lv_at hl 1 rfl) ?_
  refine va_get (D := D) (ci := 4) (v := .ref b2) (C := RX1) (T := TX1) (N := 7) hx hb hts iX1 hown hK hP 6 rfl rfl 3 (by decide) f_15 (fun _ h9 => h9) rfl dX1_copyFrom_32 ?_
  refine zz_iconst hx hb dX1_copyFrom_35 ?_
  refine lv_aload_n hx hb dX1_copyFrom_36 rfl (lv_at hl 0 rfl) ?_
  refine va_get (D := D) (ci := 4) (v := .ref a2) (C := RX1) (T := TX1) (N := 7) hx hb hts iX1 hown hK hP 0 rfl rfl 3 (by decide) f_15 (fun _ h9 => h9) rfl dX1_copyFrom_37 ?_
  refine zz_iconst hx hb dX1_copyFrom_40 ?_
  refine zz_bipush hx hb dX1_copyFrom_41 (by decide) ?_
  refine zz_copyAll hx hb (by rw [hml]; exact hl.1.symm) hown l_51 ln_51 ls_51 li_51 (Nat.le_of_ble_eq_true rfl) (Nat.le_of_ble_eq_true rfl) hK hP hD hS 8 2 rfl rfl (by decide) rfl dX1_copyFrom_43 (fun H locs hP hD hS => ?_)
  have hP : va_P D vwCl (bChart tA a0 a1 a2 a3 a4 a5 o_ports o_legs o_lower o_upper leng reach meter ++ bChart tA b0 b1 b2 b3 b4 b5 o_ports o_legs o_lower o_upper o_leng o_reach o_meter) H := hP
  have hD : va_D A (bChart tA a0 a1 a2 a3 a4 a5 o_ports o_legs o_lower o_upper leng reach meter ++ bChart tA b0 b1 b2 b3 b4 b5 o_ports o_legs o_lower o_upper o_leng o_reach o_meter) := hD
  refine lv_aload_n hx hb dX1_copyFrom_46 rfl (lv_at hl 1 rfl) ?_
  refine va_get (D := D) (ci := 4) (v := .ref b3) (C := RX1) (T := TX1) (N := 7) hx hb hts iX1 hown hK hP 6 rfl rfl 4 (by decide) f_18 (fun _ h9 => h9) rfl dX1_copyFrom_47 ?_
  refine zz_iconst hx hb dX1_copyFrom_50 ?_
  refine lv_aload_n hx hb dX1_copyFrom_51 rfl (lv_at hl 0 rfl) ?_
  refine va_get (D := D) (ci := 4) (v := .ref a3) (C := RX1) (T := TX1) (N := 7) hx hb hts iX1 hown hK hP 0 rfl rfl 4 (by decide) f_18 (fun _ h9 => h9) rfl dX1_copyFrom_52 ?_
  refine zz_iconst hx hb dX1_copyFrom_55 ?_
  refine zz_bipush hx hb dX1_copyFrom_56 (by decide) ?_
  refine zz_copyAll hx hb (by rw [hml]; exact hl.1.symm) hown l_51 ln_51 ls_51 li_51 (Nat.le_of_ble_eq_true rfl) (Nat.le_of_ble_eq_true rfl) hK hP hD hS 9 3 rfl rfl (by decide) rfl dX1_copyFrom_58 (fun H locs hP hD hS => ?_)
  have hP : va_P D vwCl (bChart tA a0 a1 a2 a3 a4 a5 o_ports o_legs o_lower o_upper o_leng reach meter ++ bChart tA b0 b1 b2 b3 b4 b5 o_ports o_legs o_lower o_upper o_leng o_reach o_meter) H := hP
  have hD : va_D A (bChart tA a0 a1 a2 a3 a4 a5 o_ports o_legs o_lower o_upper o_leng reach meter ++ bChart tA b0 b1 b2 b3 b4 b5 o_ports o_legs o_lower o_upper o_leng o_reach o_meter) := hD
  refine lv_aload_n hx hb dX1_copyFrom_61 rfl (lv_at hl 1 rfl) ?_
  refine va_get (D := D) (ci := 4) (v := .ref b4) (C := RX1) (T := TX1) (N := 7) hx hb hts iX1 hown hK hP 6 rfl rfl 5 (by decide) f_21 (fun _ h9 => h9) rfl dX1_copyFrom_62 ?_
  refine zz_iconst hx hb dX1_copyFrom_65 ?_
  refine lv_aload_n hx hb dX1_copyFrom_66 rfl (lv_at hl 0 rfl) ?_
  refine va_get (D := D) (ci := 4) (v := .ref a4) (C := RX1) (T := TX1) (N := 7) hx hb hts iX1 hown hK hP 0 rfl rfl 5 (by decide) f_21 (fun _ h9 => h9) rfl dX1_copyFrom_67 ?_
  refine zz_iconst hx hb dX1_copyFrom_70 ?_
  refine zz_bipush hx hb dX1_copyFrom_71 (by decide) ?_
  refine zz_copyAll hx hb (by rw [hml]; exact hl.1.symm) hown l_51 ln_51 ls_51 li_51 (Nat.le_of_ble_eq_true rfl) (Nat.le_of_ble_eq_true rfl) hK hP hD hS 10 4 rfl rfl (by decide) rfl dX1_copyFrom_73 (fun H locs hP hD hS => ?_)
  have hP : va_P D vwCl (bChart tA a0 a1 a2 a3 a4 a5 o_ports o_legs o_lower o_upper o_leng o_reach meter ++ bChart tA b0 b1 b2 b3 b4 b5 o_ports o_legs o_lower o_upper o_leng o_reach o_meter) H := hP
  have hD : va_D A (bChart tA a0 a1 a2 a3 a4 a5 o_ports o_legs o_lower o_upper o_leng o_reach meter ++ bChart tA b0 b1 b2 b3 b4 b5 o_ports o_legs o_lower o_upper o_leng o_reach o_meter) := hD
  refine lv_aload_n hx hb dX1_copyFrom_76 rfl (lv_at hl 1 rfl) ?_
  refine va_get (D := D) (ci := 4) (v := .ref b5) (C := RX1) (T := TX1) (N := 7) hx hb hts iX1 hown hK hP 6 rfl rfl 6 (by decide) f_24 (fun _ h9 => h9) rfl dX1_copyFrom_77 ?_
  refine zz_iconst hx hb dX1_copyFrom_80 ?_
  refine lv_aload_n hx hb dX1_copyFrom_81 rfl (lv_at hl 0 rfl) ?_
  refine va_get (D := D) (ci := 4) (v := .ref a5) (C := RX1) (T := TX1) (N := 7) hx hb hts iX1 hown hK hP 0 rfl rfl 6 (by decide) f_24 (fun _ h9 => h9) rfl dX1_copyFrom_82 ?_
  refine zz_iconst hx hb dX1_copyFrom_85 ?_
  refine zz_bipush hx hb dX1_copyFrom_86 (by decide) ?_
  refine zz_copyAll hx hb (by rw [hml]; exact hl.1.symm) hown l_51 ln_51 ls_51 li_51 (Nat.le_of_ble_eq_true rfl) (Nat.le_of_ble_eq_true rfl) hK hP hD hS 11 5 rfl rfl (by decide) rfl dX1_copyFrom_88 (fun H locs hP hD hS => ?_)
  have hP : va_P D vwCl (bChart tA a0 a1 a2 a3 a4 a5 o_ports o_legs o_lower o_upper o_leng o_reach o_meter ++ bChart tA b0 b1 b2 b3 b4 b5 o_ports o_legs o_lower o_upper o_leng o_reach o_meter) H := hP
  have hD : va_D A (bChart tA a0 a1 a2 a3 a4 a5 o_ports o_legs o_lower o_upper o_leng o_reach o_meter ++ bChart tA b0 b1 b2 b3 b4 b5 o_ports o_legs o_lower o_upper o_leng o_reach o_meter) := hD
  exact hret () _ _ _ _ dX1_copyFrom_91 True.intro hP hD hS
