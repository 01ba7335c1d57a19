/-! ===== HarborLights.Ships, HarborLights.State ===== -/
set_option maxHeartbeats 4000000 in
set_option maxRecDepth 100000 in
theorem c_X8_has (l : Launch) (D : va_G) (tA : Nat → ClassId) (a0 a1 a2 a3 a4 a5 : Nat) (sz : Nat) (cnt : Int) (strt : Int → Int) (goal : Int → Int) (money : Int → Int) (litN : Int → Int) (darkN : Int → Int) (ship : Int) (r_ship : -2147483648 ≤ ship ∧ ship ≤ 2147483647) (hc : 0 ≤ cnt ∧ cnt ≤ 6) : zMi l yX8_has wsX8_has ({ frames := 0, cells := 0, slots := 0, locals := 0 }) D tA [.ref a0, .int (iI ship)] (bShips tA a0 a1 a2 a3 a4 a5 cnt strt goal money litN darkN) sz (fun (z : Int) (u : Unit) => ((z = 1 ∧ 0 ≤ ship ∧ ship < cnt) ∨ (z = 0 ∧ ¬ (0 ≤ ship ∧ ship < cnt)))) (fun (u : Unit) => bShips tA a0 a1 a2 a3 a4 a5 cnt strt goal money litN darkN) 0 0 := by
  refine zMi_of (cc := cX8_has) (maxL := 2) (by decide) rfl (fun z u h => zbool z (by omega)) (Nat.le_of_ble_eq_true rfl) ?_
  intro p e s m args below meth c A Q ls hx hb hml hts hown hK hP hD hA hret hl
  obtain ⟨H, hHe⟩ : ∃ H : Heap, H = s.heap := ⟨_, rfl⟩
  have hS : va_S A s.heap H [] := by rw [hHe]; exact va_S.rf
  rw [← hHe] at hP ⊢
  have hl : lv_has ls 2 [(0, .ref a0), (1, .int (iI ship))] := hl
  have iX8 : ∀ v ∈ wsX80, v ∈ wsX8_has := by decide +kernel
  have f_27 := hts (.fieldLink RX8 27 "HarborLights$Ships" "count" "I") (by decide +kernel)
  refine lv_iload_n hx hb dX8_has_0 rfl (lv_at hl 1 rfl) ?_
  refine zz_if_lt (tgt := 16) hx hb dX8_has_1 (by decide) (by omega) (fun c_1 => ?_) (fun c_1 => ?_)
  · refine zz_iconst hx hb dX8_has_16 ?_
    exact hret 0 () _ _ _ _ dX8_has_17 (show ((0 : Int) = 1 ∧ 0 ≤ ship ∧ ship < cnt) ∨ ((0 : Int) = 0 ∧ ¬ (0 ≤ ship ∧ ship < cnt)) from by omega) hP hD hS
  · refine lv_iload_n hx hb dX8_has_4 rfl (lv_at hl 1 rfl) ?_
    refine lv_aload_n hx hb dX8_has_5 rfl (lv_at hl 0 rfl) ?_
    refine va_get (D := D) (ci := 10) (v := .int (iI cnt)) (C := RX8) (T := TX8) (N := 6) hx hb hts iX8 hown hK hP 0 rfl rfl 0 (by decide) f_27 (fun _ h9 => h9) rfl dX8_has_6 ?_
    refine zz_icmp_ge (tgt := 16) hx hb dX8_has_9 (by decide) (by omega) (by omega) (fun c_9 => ?_) (fun c_9 => ?_)
    · refine zz_iconst hx hb dX8_has_16 ?_
      exact hret 0 () _ _ _ _ dX8_has_17 (show ((0 : Int) = 1 ∧ 0 ≤ ship ∧ ship < cnt) ∨ ((0 : Int) = 0 ∧ ¬ (0 ≤ ship ∧ ship < cnt)) from by omega) hP hD hS
    · refine zz_iconst hx hb dX8_has_12 ?_
      refine lv_goto (tgt := 17) hx hb dX8_has_13 (by decide) ?_
      exact hret 1 () _ _ _ _ dX8_has_17 (show ((1 : Int) = 1 ∧ 0 ≤ ship ∧ ship < cnt) ∨ ((1 : Int) = 0 ∧ ¬ (0 ≤ ship ∧ ship < cnt)) from by omega) hP hD hS

set_option maxHeartbeats 4000000 in
set_option maxRecDepth 100000 in
theorem c_X8_add (l : Launch) (D : va_G) (tA : Nat → ClassId) (a0 a1 a2 a3 a4 a5 : Nat) (sz : Nat) (cnt : Int) (strt : Int → Int) (goal : Int → Int) (money : Int → Int) (litN : Int → Int) (darkN : Int → Int) (x : Int) (y : Int) (w : Int) (r_x : -2147483648 ≤ x ∧ x ≤ 2147483647) (r_y : -2147483648 ≤ y ∧ y ≤ 2147483647) (r_w : -2147483648 ≤ w ∧ w ≤ 2147483647) (hc : 0 ≤ cnt ∧ cnt < 6) : zMv l yX8_add wsX8_add ({ frames := 0, cells := 0, slots := 0, locals := 0 }) D tA [.ref a0, .int (iI x), .int (iI y), .int (iI w)] (bShips tA a0 a1 a2 a3 a4 a5 cnt strt goal money litN darkN) sz (fun (u : Unit) => True) (fun (u : Unit) => bShips tA a0 a1 a2 a3 a4 a5 (cnt + 1) (zU strt cnt x) (zU goal cnt y) (zU money cnt w) (zU litN cnt 0) (zU darkN cnt 0)) 0 0 := by
  refine zMv_of (cc := cX8_add) (maxL := 4) (by decide) rfl (Nat.le_of_ble_eq_true rfl) ?_
  intro p e s m args below meth c A Q ls hx hb hml hts hown hK hP hD hA hret hl
  obtain ⟨H, hHe⟩ : ∃ H : Heap, H = s.heap := ⟨_, rfl⟩
  have hS : va_S A s.heap H [] := by rw [hHe]; exact va_S.rf
  rw [← hHe] at hP ⊢
  have hl : lv_has ls 4 [(0, .ref a0), (1, .int (iI x)), (2, .int (iI y)), (3, .int (iI w))] := hl
  have iX8 : ∀ v ∈ wsX80, v ∈ wsX8_add := by decide +kernel
  have f_9 := hts (.fieldLink RX8 9 "HarborLights$Ships" "start" "[I") (by decide +kernel)
  have f_15 := hts (.fieldLink RX8 15 "HarborLights$Ships" "goal" "[I") (by decide +kernel)
  have f_18 := hts (.fieldLink RX8 18 "HarborLights$Ships" "money" "[I") (by decide +kernel)
  have f_21 := hts (.fieldLink RX8 21 "HarborLights$Ships" "litNights" "[I") (by decide +kernel)
  have f_24 := hts (.fieldLink RX8 24 "HarborLights$Ships" "darkNights" "[I") (by decide +kernel)
  have f_27 := hts (.fieldLink RX8 27 "HarborLights$Ships" "count" "I") (by decide +kernel)
  refine lv_aload_n hx hb dX8_add_0 rfl (lv_at hl 0 rfl) ?_
  refine va_get (D := D) (ci := 10) (v := .int (iI cnt)) (C := RX8) (T := TX8) (N := 6) hx hb hts iX8 hown hK hP 0 rfl rfl 0 (by decide) f_27 (fun _ h9 => h9) rfl dX8_add_1 ?_
  refine zz_bipush hx hb dX8_add_4 (by decide) ?_
  refine zz_icmp_lt (tgt := 10) hx hb dX8_add_6 (by decide) (by omega) (by decide) (fun c_6 => ?_) (fun c_6 => ?_)
  · refine lv_aload_n hx hb dX8_add_10 rfl (lv_at hl 0 rfl) ?_
    refine va_get (D := D) (ci := 10) (v := .ref a1) (C := RX8) (T := TX8) (N := 6) hx hb hts iX8 hown hK hP 0 rfl rfl 1 (by decide) f_9 (fun _ h9 => h9) rfl dX8_add_11 ?_
    refine lv_aload_n hx hb dX8_add_14 rfl (lv_at hl 0 rfl) ?_
    refine va_get (D := D) (ci := 10) (v := .int (iI cnt)) (C := RX8) (T := TX8) (N := 6) hx hb hts iX8 hown hK hP 0 rfl rfl 0 (by decide) f_27 (fun _ h9 => h9) rfl dX8_add_15 ?_
    refine lv_iload_n hx hb dX8_add_18 rfl (lv_at hl 1 rfl) ?_
    refine zz_iast hx hb hK hP hD hS 1 rfl (by decide) (by omega) dX8_add_19 (fun H locs hP hD hS => ?_)
    have hP : va_P D vwCl (bShips tA a0 a1 a2 a3 a4 a5 cnt (zU strt cnt x) goal money litN darkN) H := hP
    have hD : va_D A (bShips tA a0 a1 a2 a3 a4 a5 cnt (zU strt cnt x) goal money litN darkN) := hD
    refine lv_aload_n hx hb dX8_add_20 rfl (lv_at hl 0 rfl) ?_
    refine va_get (D := D) (ci := 10) (v := .ref a2) (C := RX8) (T := TX8) (N := 6) hx hb hts iX8 hown hK hP 0 rfl rfl 2 (by decide) f_15 (fun _ h9 => h9) rfl dX8_add_21 ?_
    refine lv_aload_n hx hb dX8_add_24 rfl (lv_at hl 0 rfl) ?_
    refine va_get (D := D) (ci := 10) (v := .int (iI cnt)) (C := RX8) (T := TX8) (N := 6) hx hb hts iX8 hown hK hP 0 rfl rfl 0 (by decide) f_27 (fun _ h9 => h9) rfl dX8_add_25 ?_
    refine lv_iload_n hx hb dX8_add_28 rfl (lv_at hl 2 rfl) ?_
    refine zz_iast hx hb hK hP hD hS 2 rfl (by decide) (by omega) dX8_add_29 (fun H locs hP hD hS => ?_)
    have hP : va_P D vwCl (bShips tA a0 a1 a2 a3 a4 a5 cnt (zU strt cnt x) (zU goal cnt y) money litN darkN) H := hP
    have hD : va_D A (bShips tA a0 a1 a2 a3 a4 a5 cnt (zU strt cnt x) (zU goal cnt y) money litN darkN) := hD
    refine lv_aload_n hx hb dX8_add_30 rfl (lv_at hl 0 rfl) ?_
    refine va_get (D := D) (ci := 10) (v := .ref a3) (C := RX8) (T := TX8) (N := 6) hx hb hts iX8 hown hK hP 0 rfl rfl 3 (by decide) f_18 (fun _ h9 => h9) rfl dX8_add_31 ?_
    refine lv_aload_n hx hb dX8_add_34 rfl (lv_at hl 0 rfl) ?_
    refine va_get (D := D) (ci := 10) (v := .int (iI cnt)) (C := RX8) (T := TX8) (N := 6) hx hb hts iX8 hown hK hP 0 rfl rfl 0 (by decide) f_27 (fun _ h9 => h9) rfl dX8_add_35 ?_
    refine lv_iload_n hx hb dX8_add_38 rfl (lv_at hl 3 rfl) ?_
    refine zz_iast hx hb hK hP hD hS 3 rfl (by decide) (by omega) dX8_add_39 (fun H locs hP hD hS => ?_)
    have hP : va_P D vwCl (bShips tA a0 a1 a2 a3 a4 a5 cnt (zU strt cnt x) (zU goal cnt y) (zU money cnt w) litN darkN) H := hP
    have hD : va_D A (bShips tA a0 a1 a2 a3 a4 a5 cnt (zU strt cnt x) (zU goal cnt y) (zU money cnt w) litN darkN) := hD
    refine lv_aload_n hx hb dX8_add_40 rfl (lv_at hl 0 rfl) ?_
    refine va_get (D := D) (ci := 10) (v := .ref a4) (C := RX8) (T := TX8) (N := 6) hx hb hts iX8 hown hK hP 0 rfl rfl 4 (by decide) f_21 (fun _ h9 => h9) rfl dX8_add_41 ?_
    refine lv_aload_n hx hb dX8_add_44 rfl (lv_at hl 0 rfl) ?_
    refine va_get (D := D) (ci := 10) (v := .int (iI cnt)) (C := RX8) (T := TX8) (N := 6) hx hb hts iX8 hown hK hP 0 rfl rfl 0 (by decide) f_27 (fun _ h9 => h9) rfl dX8_add_45 ?_
    refine zz_iconst hx hb dX8_add_48 ?_
    refine zz_iast hx hb hK hP hD hS 4 rfl (by decide) (by omega) dX8_add_49 (fun H locs hP hD hS => ?_)
    have hP : va_P D vwCl (bShips tA a0 a1 a2 a3 a4 a5 cnt (zU strt cnt x) (zU goal cnt y) (zU money cnt w) (zU litN cnt 0) darkN) H := hP
    have hD : va_D A (bShips tA a0 a1 a2 a3 a4 a5 cnt (zU strt cnt x) (zU goal cnt y) (zU money cnt w) (zU litN cnt 0) darkN) := hD
    refine lv_aload_n hx hb dX8_add_50 rfl (lv_at hl 0 rfl) ?_
    refine va_get (D := D) (ci := 10) (v := .ref a5) (C := RX8) (T := TX8) (N := 6) hx hb hts iX8 hown hK hP 0 rfl rfl 5 (by decide) f_24 (fun _ h9 => h9) rfl dX8_add_51 ?_
    refine lv_aload_n hx hb dX8_add_54 rfl (lv_at hl 0 rfl) ?_
    refine va_get (D := D) (ci := 10) (v := .int (iI cnt)) (C := RX8) (T := TX8) (N := 6) hx hb hts iX8 hown hK hP 0 rfl rfl 0 (by decide) f_27 (fun _ h9 => h9) rfl dX8_add_55 ?_
    refine zz_iconst hx hb dX8_add_58 ?_
    refine zz_iast hx hb hK hP hD hS 5 rfl (by decide) (by omega) dX8_add_59 (fun H locs hP hD hS => ?_)
    have hP : va_P D vwCl (bShips tA a0 a1 a2 a3 a4 a5 cnt (zU strt cnt x) (zU goal cnt y) (zU money cnt w) (zU litN cnt 0) (zU darkN cnt 0)) H := hP
    have hD : va_D A (bShips tA a0 a1 a2 a3 a4 a5 cnt (zU strt cnt x) (zU goal cnt y) (zU money cnt w) (zU litN cnt 0) (zU darkN cnt 0)) := hD
    refine lv_aload_n hx hb dX8_add_60 rfl (lv_at hl 0 rfl) ?_
    refine lv_dup hx hb dX8_add_61 rfl ?_
    refine va_get (D := D) (ci := 10) (v := .int (iI cnt)) (C := RX8) (T := TX8) (N := 6) hx hb hts iX8 hown hK hP 0 rfl rfl 0 (by decide) f_27 (fun _ h9 => h9) rfl dX8_add_62 ?_
    refine zz_iconst hx hb dX8_add_65 ?_
    refine zz_iadd hx hb dX8_add_66 ?_
    refine va_put (D := D) (ci := 10) (v := .int (iI (cnt + 1))) (ty := .int) (C := RX8) (T := TX8) (N := 6) hx hb hts iX8 tyX8 tyX8_ok nmX8 hown hK hP hD hS 0 rfl rfl 0 (by decide) f_27 (fun _ h9 => h9) rfl (by decide +kernel) rfl rfl (Nat.le_of_ble_eq_true rfl) dX8_add_67 (fun H locs hP hD hS => ?_)
    have hP : va_P D vwCl (bShips tA a0 a1 a2 a3 a4 a5 (cnt + 1) (zU strt cnt x) (zU goal cnt y) (zU money cnt w) (zU litN cnt 0) (zU darkN cnt 0)) H := hP
    have hD : va_D A (bShips tA a0 a1 a2 a3 a4 a5 (cnt + 1) (zU strt cnt x) (zU goal cnt y) (zU money cnt w) (zU litN cnt 0) (zU darkN cnt 0)) := hD
    exact hret () _ _ _ _ dX8_add_70 True.intro hP hD hS
  · exact absurd c_6 (by omega)

set_option maxHeartbeats 4000000 in
set_option maxRecDepth 100000 in
theorem c_X8_delete (l : Launch) (D : va_G) (tA : Nat → ClassId) (a0 a1 a2 a3 a4 a5 : Nat) (sz : Nat) (cnt : Int) (strt : Int → Int) (goal : Int → Int) (money : Int → Int) (litN : Int → Int) (darkN : Int → Int) (gone : Int) (r_gone : -2147483648 ≤ gone ∧ gone ≤ 2147483647) (hc : 0 ≤ cnt ∧ cnt ≤ 6) (hg : 0 ≤ gone ∧ gone < cnt) : zMv l yX8_delete wsX8_delete ({ frames := 1, cells := 0, slots := 0, locals := 21 }) D tA [.ref a0, .int (iI gone)] (bShips tA a0 a1 a2 a3 a4 a5 cnt strt goal money litN darkN) sz (fun (u : Unit) => True) (fun (u : Unit) => bShips tA a0 a1 a2 a3 a4 a5 (cnt - 1) (dlf strt gone cnt) (dlf goal gone cnt) (dlf money gone cnt) (dlf litN gone cnt) (dlf darkN gone cnt)) 0 0 := by
  refine zMv_of (cc := cX8_delete) (maxL := 3) (by decide) rfl (Nat.le_of_ble_eq_true rfl) ?_
  intro p e s m args below meth c A Q ls hx hb hml hts hown hK hP hD hA hret hl
  obtain ⟨H, hHe⟩ : ∃ H : Heap, H = s.heap := ⟨_, rfl⟩
  have hS : va_S A s.heap H [] := by rw [hHe]; exact va_S.rf
  rw [← hHe] at hP ⊢
  have hl : lv_has ls 3 [(0, .ref a0), (1, .int (iI gone))] := hl
  have iX8 : ∀ v ∈ wsX80, v ∈ wsX8_delete := by decide +kernel
  have f_9 := hts (.fieldLink RX8 9 "HarborLights$Ships" "start" "[I") (by decide +kernel)
  have f_15 := hts (.fieldLink RX8 15 "HarborLights$Ships" "goal" "[I") (by decide +kernel)
  have f_18 := hts (.fieldLink RX8 18 "HarborLights$Ships" "money" "[I") (by decide +kernel)
  have f_21 := hts (.fieldLink RX8 21 "HarborLights$Ships" "litNights" "[I") (by decide +kernel)
  have f_24 := hts (.fieldLink RX8 24 "HarborLights$Ships" "darkNights" "[I") (by decide +kernel)
  have f_27 := hts (.fieldLink RX8 27 "HarborLights$Ships" "count" "I") (by decide +kernel)
  refine lv_aload_n hx hb dX8_delete_0 rfl (lv_at hl 0 rfl) ?_
  refine lv_iload_n hx hb dX8_delete_1 rfl (lv_at hl 1 rfl) ?_
  refine zz_callVi (As := [.int (iI gone)]) (rest := []) (wf := fun u => bShips tA a0 a1 a2 a3 a4 a5 cnt strt goal money litN darkN) ⟨hx, hb, hml, hown, hts⟩ (c_X8_has l D tA a0 a1 a2 a3 a4 a5 H.size cnt strt goal money litN darkN gone (by first | assumption | omega) (by first | assumption | omega)) (cwV 1 hts gX8_delete_X8_has rfl rfl rfl (by decide +kernel) ⟨Nat.le_of_ble_eq_true rfl, Nat.le_of_ble_eq_true rfl⟩) hK hP hD hS hA [0, 1, 2, 3, 4, 5] [] [0, 1, 2, 3, 4, 5] rfl rfl (by decide) (by decide) (by decide) (by decide) (fun _ => rfl) (ci := 10) (q0 := 0) rfl rfl rfl rfl rfl hl.1 (Nat.le_of_ble_eq_true rfl) dX8_delete_2 ⟨Nat.le_of_ble_eq_true rfl, Nat.le_of_ble_eq_true rfl⟩ ?_
  intro z2_1 u H locs p2_2 hP hD hS
  have hP : va_P D vwCl (bShips tA a0 a1 a2 a3 a4 a5 cnt strt goal money litN darkN) H := hP
  have hD : va_D A (bShips tA a0 a1 a2 a3 a4 a5 cnt strt goal money litN darkN) := hD
  have q_2 : (z2_1 = 1 ∧ 0 ≤ gone ∧ gone < cnt) ∨ (z2_1 = 0 ∧ ¬ (0 ≤ gone ∧ gone < cnt)) := p2_2
  refine zz_if_ne (tgt := 9) hx hb dX8_delete_5 (by decide) (by omega) (fun c_5 => ?_) (fun c_5 => ?_)
  · refine lv_iload_n hx hb dX8_delete_9 rfl (lv_at hl 1 rfl) ?_
    refine zz_iconst hx hb dX8_delete_10 ?_
    refine zz_iadd hx hb dX8_delete_11 ?_
    refine lv_istore_n (lv' := [(2, .int (iI (gone + 1))), (0, .ref a0), (1, .int (iI gone))]) hx hb dX8_delete_12 rfl hl (by decide) rfl (fun ls hl => ?_)
    have L13 : ∀ (n : Nat) (i : Int) (strt9 : Int → Int) (goal9 : Int → Int) (money9 : Int → Int) (litN9 : Int → Int) (darkN9 : Int → Int) (H : Heap) (locs : List Loc) (ls : Array Slot), (gone + 1 ≤ i ∧ i ≤ cnt) → (strt9 = dlf strt gone i) → (goal9 = dlf goal gone i) → (money9 = dlf money gone i) → (litN9 = dlf litN gone i) → (darkN9 = dlf darkN gone i) → (cnt - i).toNat < n → va_P D vwCl (bShips tA a0 a1 a2 a3 a4 a5 cnt strt9 goal9 money9 litN9 darkN9) H → va_D A (bShips tA a0 a1 a2 a3 a4 a5 cnt strt9 goal9 money9 litN9 darkN9) → va_S A s.heap H locs → lv_has ls 3 [(2, .int (iI i)), (0, .ref a0), (1, .int (iI gone))] → W p l e (headSpec wsX8_delete ({ frames := 1, cells := 0, slots := 0, locals := 21 })).room s m args below meth c H locs 0 0 Q (F0 m 13 ls []) := by
      intro n
      induction n with
      | zero => intro i strt9 goal9 money9 litN9 darkN9 H locs ls k0 k_strt k_goal k_money k_litN k_darkN hmz; exact absurd hmz (Nat.not_lt_zero _)
      | succ n ih13 =>
        intro i strt9 goal9 money9 litN9 darkN9 H locs ls k0 k_strt k_goal k_money k_litN k_darkN hmz hP hD hS hl
        refine lv_iload_n hx hb dX8_delete_13 rfl (lv_at hl 0 rfl) ?_
        refine lv_aload_n hx hb dX8_delete_14 rfl (lv_at hl 1 rfl) ?_
        refine va_get (D := D) (ci := 10) (v := .int (iI cnt)) (C := RX8) (T := TX8) (N := 6) hx hb hts iX8 hown hK hP 0 rfl rfl 0 (by decide) f_27 (fun _ h9 => h9) rfl dX8_delete_15 ?_
        refine zz_icmp_ge (tgt := 97) hx hb dX8_delete_18 (by decide) (by omega) (by omega) (fun c_18 => ?_) (fun c_18 => ?_)
        · refine lv_aload_n hx hb dX8_delete_97 rfl (lv_at hl 1 rfl) ?_
          refine lv_dup hx hb dX8_delete_98 rfl ?_
          refine va_get (D := D) (ci := 10) (v := .int (iI cnt)) (C := RX8) (T := TX8) (N := 6) hx hb hts iX8 hown hK hP 0 rfl rfl 0 (by decide) f_27 (fun _ h9 => h9) rfl dX8_delete_99 ?_
          refine zz_iconst hx hb dX8_delete_102 ?_
          refine zz_isub hx hb dX8_delete_103 ?_
          refine va_put (D := D) (ci := 10) (v := .int (iI (cnt - 1))) (ty := .int) (C := RX8) (T := TX8) (N := 6) hx hb hts iX8 tyX8 tyX8_ok nmX8 hown hK hP hD hS 0 rfl rfl 0 (by decide) f_27 (fun _ h9 => h9) rfl (by decide +kernel) rfl rfl (Nat.le_of_ble_eq_true rfl) dX8_delete_104 (fun H locs hP hD hS => ?_)
          have hP : va_P D vwCl (bShips tA a0 a1 a2 a3 a4 a5 (cnt - 1) strt9 goal9 money9 litN9 darkN9) H := hP
          have hD : va_D A (bShips tA a0 a1 a2 a3 a4 a5 (cnt - 1) strt9 goal9 money9 litN9 darkN9) := hD
          have e_strt : strt9 = (dlf strt gone cnt) := by rw [k_strt, show i = cnt by omega]
          rw [e_strt] at hP hD
          have e_goal : goal9 = (dlf goal gone cnt) := by rw [k_goal, show i = cnt by omega]
          rw [e_goal] at hP hD
          have e_money : money9 = (dlf money gone cnt) := by rw [k_money, show i = cnt by omega]
          rw [e_money] at hP hD
          have e_litN : litN9 = (dlf litN gone cnt) := by rw [k_litN, show i = cnt by omega]
          rw [e_litN] at hP hD
          have e_darkN : darkN9 = (dlf darkN gone cnt) := by rw [k_darkN, show i = cnt by omega]
          rw [e_darkN] at hP hD
          exact hret () _ _ _ _ dX8_delete_107 True.intro hP hD hS
        · refine lv_aload_n hx hb dX8_delete_21 rfl (lv_at hl 1 rfl) ?_
          refine va_get (D := D) (ci := 10) (v := .ref a1) (C := RX8) (T := TX8) (N := 6) hx hb hts iX8 hown hK hP 0 rfl rfl 1 (by decide) f_9 (fun _ h9 => h9) rfl dX8_delete_22 ?_
          refine lv_iload_n hx hb dX8_delete_25 rfl (lv_at hl 0 rfl) ?_
          refine zz_iconst hx hb dX8_delete_26 ?_
          refine zz_isub hx hb dX8_delete_27 ?_
          refine lv_aload_n hx hb dX8_delete_28 rfl (lv_at hl 1 rfl) ?_
          refine va_get (D := D) (ci := 10) (v := .ref a1) (C := RX8) (T := TX8) (N := 6) hx hb hts iX8 hown hK hP 0 rfl rfl 1 (by decide) f_9 (fun _ h9 => h9) rfl dX8_delete_29 ?_
          refine lv_iload_n hx hb dX8_delete_32 rfl (lv_at hl 0 rfl) ?_
          refine zz_iald hx hb hK hP 1 rfl (by decide) (by omega) dX8_delete_33 ?_
          refine zz_iast hx hb hK hP hD hS 1 rfl (by decide) (by omega) dX8_delete_34 (fun H locs hP hD hS => ?_)
          have hP : va_P D vwCl (bShips tA a0 a1 a2 a3 a4 a5 cnt (zU strt9 (i - 1) (strt9 i)) goal9 money9 litN9 darkN9) H := hP
          have hD : va_D A (bShips tA a0 a1 a2 a3 a4 a5 cnt (zU strt9 (i - 1) (strt9 i)) goal9 money9 litN9 darkN9) := hD
          refine lv_aload_n hx hb dX8_delete_35 rfl (lv_at hl 1 rfl) ?_
          refine va_get (D := D) (ci := 10) (v := .ref a2) (C := RX8) (T := TX8) (N := 6) hx hb hts iX8 hown hK hP 0 rfl rfl 2 (by decide) f_15 (fun _ h9 => h9) rfl dX8_delete_36 ?_
          refine lv_iload_n hx hb dX8_delete_39 rfl (lv_at hl 0 rfl) ?_
          refine zz_iconst hx hb dX8_delete_40 ?_
          refine zz_isub hx hb dX8_delete_41 ?_
          refine lv_aload_n hx hb dX8_delete_42 rfl (lv_at hl 1 rfl) ?_
          refine va_get (D := D) (ci := 10) (v := .ref a2) (C := RX8) (T := TX8) (N := 6) hx hb hts iX8 hown hK hP 0 rfl rfl 2 (by decide) f_15 (fun _ h9 => h9) rfl dX8_delete_43 ?_
          refine lv_iload_n hx hb dX8_delete_46 rfl (lv_at hl 0 rfl) ?_
          refine zz_iald hx hb hK hP 2 rfl (by decide) (by omega) dX8_delete_47 ?_
          refine zz_iast hx hb hK hP hD hS 2 rfl (by decide) (by omega) dX8_delete_48 (fun H locs hP hD hS => ?_)
          have hP : va_P D vwCl (bShips tA a0 a1 a2 a3 a4 a5 cnt (zU strt9 (i - 1) (strt9 i)) (zU goal9 (i - 1) (goal9 i)) money9 litN9 darkN9) H := hP
          have hD : va_D A (bShips tA a0 a1 a2 a3 a4 a5 cnt (zU strt9 (i - 1) (strt9 i)) (zU goal9 (i - 1) (goal9 i)) money9 litN9 darkN9) := hD
          refine lv_aload_n hx hb dX8_delete_49 rfl (lv_at hl 1 rfl) ?_
          refine va_get (D := D) (ci := 10) (v := .ref a3) (C := RX8) (T := TX8) (N := 6) hx hb hts iX8 hown hK hP 0 rfl rfl 3 (by decide) f_18 (fun _ h9 => h9) rfl dX8_delete_50 ?_
          refine lv_iload_n hx hb dX8_delete_53 rfl (lv_at hl 0 rfl) ?_
          refine zz_iconst hx hb dX8_delete_54 ?_
          refine zz_isub hx hb dX8_delete_55 ?_
          refine lv_aload_n hx hb dX8_delete_56 rfl (lv_at hl 1 rfl) ?_
          refine va_get (D := D) (ci := 10) (v := .ref a3) (C := RX8) (T := TX8) (N := 6) hx hb hts iX8 hown hK hP 0 rfl rfl 3 (by decide) f_18 (fun _ h9 => h9) rfl dX8_delete_57 ?_
          refine lv_iload_n hx hb dX8_delete_60 rfl (lv_at hl 0 rfl) ?_
          refine zz_iald hx hb hK hP 3 rfl (by decide) (by omega) dX8_delete_61 ?_
          refine zz_iast hx hb hK hP hD hS 3 rfl (by decide) (by omega) dX8_delete_62 (fun H locs hP hD hS => ?_)
          have hP : va_P D vwCl (bShips tA a0 a1 a2 a3 a4 a5 cnt (zU strt9 (i - 1) (strt9 i)) (zU goal9 (i - 1) (goal9 i)) (zU money9 (i - 1) (money9 i)) litN9 darkN9) H := hP
          have hD : va_D A (bShips tA a0 a1 a2 a3 a4 a5 cnt (zU strt9 (i - 1) (strt9 i)) (zU goal9 (i - 1) (goal9 i)) (zU money9 (i - 1) (money9 i)) litN9 darkN9) := hD
          refine lv_aload_n hx hb dX8_delete_63 rfl (lv_at hl 1 rfl) ?_
          refine va_get (D := D) (ci := 10) (v := .ref a4) (C := RX8) (T := TX8) (N := 6) hx hb hts iX8 hown hK hP 0 rfl rfl 4 (by decide) f_21 (fun _ h9 => h9) rfl dX8_delete_64 ?_
          refine lv_iload_n hx hb dX8_delete_67 rfl (lv_at hl 0 rfl) ?_
          refine zz_iconst hx hb dX8_delete_68 ?_
          refine zz_isub hx hb dX8_delete_69 ?_
          refine lv_aload_n hx hb dX8_delete_70 rfl (lv_at hl 1 rfl) ?_
          refine va_get (D := D) (ci := 10) (v := .ref a4) (C := RX8) (T := TX8) (N := 6) hx hb hts iX8 hown hK hP 0 rfl rfl 4 (by decide) f_21 (fun _ h9 => h9) rfl dX8_delete_71 ?_
          refine lv_iload_n hx hb dX8_delete_74 rfl (lv_at hl 0 rfl) ?_
          refine zz_iald hx hb hK hP 4 rfl (by decide) (by omega) dX8_delete_75 ?_
          refine zz_iast hx hb hK hP hD hS 4 rfl (by decide) (by omega) dX8_delete_76 (fun H locs hP hD hS => ?_)
          have hP : va_P D vwCl (bShips tA a0 a1 a2 a3 a4 a5 cnt (zU strt9 (i - 1) (strt9 i)) (zU goal9 (i - 1) (goal9 i)) (zU money9 (i - 1) (money9 i)) (zU litN9 (i - 1) (litN9 i)) darkN9) H := hP
          have hD : va_D A (bShips tA a0 a1 a2 a3 a4 a5 cnt (zU strt9 (i - 1) (strt9 i)) (zU goal9 (i - 1) (goal9 i)) (zU money9 (i - 1) (money9 i)) (zU litN9 (i - 1) (litN9 i)) darkN9) := hD
          refine lv_aload_n hx hb dX8_delete_77 rfl (lv_at hl 1 rfl) ?_
          refine va_get (D := D) (ci := 10) (v := .ref a5) (C := RX8) (T := TX8) (N := 6) hx hb hts iX8 hown hK hP 0 rfl rfl 5 (by decide) f_24 (fun _ h9 => h9) rfl dX8_delete_78 ?_
          refine lv_iload_n hx hb dX8_delete_81 rfl (lv_at hl 0 rfl) ?_
          refine zz_iconst hx hb dX8_delete_82 ?_
          refine zz_isub hx hb dX8_delete_83 ?_
          refine lv_aload_n hx hb dX8_delete_84 rfl (lv_at hl 1 rfl) ?_
          refine va_get (D := D) (ci := 10) (v := .ref a5) (C := RX8) (T := TX8) (N := 6) hx hb hts iX8 hown hK hP 0 rfl rfl 5 (by decide) f_24 (fun _ h9 => h9) rfl dX8_delete_85 ?_
          refine lv_iload_n hx hb dX8_delete_88 rfl (lv_at hl 0 rfl) ?_
          refine zz_iald hx hb hK hP 5 rfl (by decide) (by omega) dX8_delete_89 ?_
          refine zz_iast hx hb hK hP hD hS 5 rfl (by decide) (by omega) dX8_delete_90 (fun H locs hP hD hS => ?_)
          have hP : va_P D vwCl (bShips tA a0 a1 a2 a3 a4 a5 cnt (zU strt9 (i - 1) (strt9 i)) (zU goal9 (i - 1) (goal9 i)) (zU money9 (i - 1) (money9 i)) (zU litN9 (i - 1) (litN9 i)) (zU darkN9 (i - 1) (darkN9 i))) H := hP
          have hD : va_D A (bShips tA a0 a1 a2 a3 a4 a5 cnt (zU strt9 (i - 1) (strt9 i)) (zU goal9 (i - 1) (goal9 i)) (zU money9 (i - 1) (money9 i)) (zU litN9 (i - 1) (litN9 i)) (zU darkN9 (i - 1) (darkN9 i))) := hD
          refine zz_iinc (lv' := [(2, .int (iI (i + 1))), (0, .ref a0), (1, .int (iI gone))]) hx hb dX8_delete_91 hl (k := 0) rfl (by decide) rfl (fun ls hl => ?_)
          refine lv_goto (tgt := 13) hx hb dX8_delete_94 (by decide) ?_
          exact ih13 (i + 1) (zU strt9 (i - 1) (strt9 i)) (zU goal9 (i - 1) (goal9 i)) (zU money9 (i - 1) (money9 i)) (zU litN9 (i - 1) (litN9 i)) (zU darkN9 (i - 1) (darkN9 i)) _ _ _ (by omega) (by subst k_strt; exact dlf_s strt (by omega)) (by subst k_goal; exact dlf_s goal (by omega)) (by subst k_money; exact dlf_s money (by omega)) (by subst k_litN; exact dlf_s litN (by omega)) (by subst k_darkN; exact dlf_s darkN (by omega)) (by omega) hP hD hS (lv_sub hl [0, 1, 2] rfl)
    exact L13 _ (gone + 1) strt goal money litN darkN _ _ _ (by omega) (by exact (dlf_0 strt gone).symm) (by exact (dlf_0 goal gone).symm) (by exact (dlf_0 money gone).symm) (by exact (dlf_0 litN gone).symm) (by exact (dlf_0 darkN gone).symm) (Nat.lt_succ_self _) hP hD hS (lv_sub hl [0, 1, 2] rfl)
  · exact absurd c_5 (by omega)

set_option maxHeartbeats 4000000 in
set_option maxRecDepth 100000 in
theorem c_X8_totalLitNights (l : Launch) (D : va_G) (tA : Nat → ClassId) (a0 a1 a2 a3 a4 a5 : Nat) (sz : Nat) (cnt : Int) (strt : Int → Int) (goal : Int → Int) (money : Int → Int) (litN : Int → Int) (darkN : Int → Int) (hc : 0 ≤ cnt ∧ cnt ≤ 6) : zMi l yX8_totalLitNights wsX8_totalLitNights ({ frames := 0, cells := 0, slots := 0, locals := 0 }) D tA [.ref a0] (bShips tA a0 a1 a2 a3 a4 a5 cnt strt goal money litN darkN) sz (fun (z : Int) (u : Unit) => (z = sm litN cnt.toNat)) (fun (u : Unit) => bShips tA a0 a1 a2 a3 a4 a5 cnt strt goal money litN darkN) 0 0 := by
  refine zMi_of (cc := cX8_totalLitNights) (maxL := 3) (by decide) rfl (fun z u h => rfl) (Nat.le_of_ble_eq_true rfl) ?_
  intro p e s m args below meth c A Q ls hx hb hml hts hown hK hP hD hA hret hl
  obtain ⟨H, hHe⟩ : ∃ H : Heap, H = s.heap := ⟨_, rfl⟩
  have hS : va_S A s.heap H [] := by rw [hHe]; exact va_S.rf
  rw [← hHe] at hP ⊢
  have hl : lv_has ls 3 [(0, .ref a0)] := hl
  have iX8 : ∀ v ∈ wsX80, v ∈ wsX8_totalLitNights := by decide +kernel
  have f_21 := hts (.fieldLink RX8 21 "HarborLights$Ships" "litNights" "[I") (by decide +kernel)
  have f_27 := hts (.fieldLink RX8 27 "HarborLights$Ships" "count" "I") (by decide +kernel)
  refine zz_iconst hx hb dX8_totalLitNights_0 ?_
  refine lv_istore_n (lv' := [(1, .int (iI 0)), (0, .ref a0)]) hx hb dX8_totalLitNights_1 rfl hl (by decide) rfl (fun ls hl => ?_)
  refine zz_iconst hx hb dX8_totalLitNights_2 ?_
  refine lv_istore_n (lv' := [(2, .int (iI 0)), (1, .int (iI 0)), (0, .ref a0)]) hx hb dX8_totalLitNights_3 rfl hl (by decide) rfl (fun ls hl => ?_)
  have L4 : ∀ (n : Nat) (i : Int) (tot : Int) (H : Heap) (locs : List Loc) (ls : Array Slot), (0 ≤ i ∧ i ≤ cnt) → (tot = sm litN i.toNat) → (cnt - i).toNat < n → va_P D vwCl (bShips tA a0 a1 a2 a3 a4 a5 cnt strt goal money litN darkN) H → va_D A (bShips tA a0 a1 a2 a3 a4 a5 cnt strt goal money litN darkN) → va_S A s.heap H locs → lv_has ls 3 [(2, .int (iI i)), (1, .int (iI tot)), (0, .ref a0)] → W p l e (headSpec wsX8_totalLitNights ({ frames := 0, cells := 0, slots := 0, locals := 0 })).room s m args below meth c H locs 0 0 Q (F0 m 4 ls []) := by
    intro n
    induction n with
    | zero => intro i tot H locs ls i0 i1 hmz; exact absurd hmz (Nat.not_lt_zero _)
    | succ n ih4 =>
      intro i tot H locs ls i0 i1 hmz hP hD hS hl
      refine lv_iload_n hx hb dX8_totalLitNights_4 rfl (lv_at hl 0 rfl) ?_
      refine lv_aload_n hx hb dX8_totalLitNights_5 rfl (lv_at hl 2 rfl) ?_
      refine va_get (D := D) (ci := 10) (v := .int (iI cnt)) (C := RX8) (T := TX8) (N := 6) hx hb hts iX8 hown hK hP 0 rfl rfl 0 (by decide) f_27 (fun _ h9 => h9) rfl dX8_totalLitNights_6 ?_
      refine zz_icmp_ge (tgt := 27) hx hb dX8_totalLitNights_9 (by decide) (by omega) (by omega) (fun c_9 => ?_) (fun c_9 => ?_)
      · refine lv_iload_n hx hb dX8_totalLitNights_27 rfl (lv_at hl 1 rfl) ?_
        exact hret tot () _ _ _ _ dX8_totalLitNights_28 (show tot = sm litN cnt.toNat from by rw [i1, show i = cnt by omega]) hP hD hS
      · refine lv_iload_n hx hb dX8_totalLitNights_12 rfl (lv_at hl 1 rfl) ?_
        refine lv_aload_n hx hb dX8_totalLitNights_13 rfl (lv_at hl 2 rfl) ?_
        refine va_get (D := D) (ci := 10) (v := .ref a4) (C := RX8) (T := TX8) (N := 6) hx hb hts iX8 hown hK hP 0 rfl rfl 4 (by decide) f_21 (fun _ h9 => h9) rfl dX8_totalLitNights_14 ?_
        refine lv_iload_n hx hb dX8_totalLitNights_17 rfl (lv_at hl 0 rfl) ?_
        refine zz_iald hx hb hK hP 4 rfl (by decide) (by omega) dX8_totalLitNights_18 ?_
        refine zz_iadd hx hb dX8_totalLitNights_19 ?_
        refine lv_istore_n (lv' := [(1, .int (iI (tot + (litN i)))), (2, .int (iI i)), (0, .ref a0)]) hx hb dX8_totalLitNights_20 rfl hl (by decide) rfl (fun ls hl => ?_)
        refine zz_iinc (lv' := [(2, .int (iI (i + 1))), (1, .int (iI (tot + (litN i)))), (0, .ref a0)]) hx hb dX8_totalLitNights_21 hl (k := 1) rfl (by decide) rfl (fun ls hl => ?_)
        refine lv_goto (tgt := 4) hx hb dX8_totalLitNights_24 (by decide) ?_
        exact ih4 (i + 1) (tot + (litN i)) _ _ _ (by omega) (by rw [i1]; exact sm_next (by omega)) (by omega) hP hD hS (lv_sub hl [0, 1, 2] rfl)
  exact L4 _ 0 0 _ _ _ (by omega) (by rfl) (Nat.lt_succ_self _) hP hD hS (lv_sub hl [0, 1, 2] rfl)

set_option maxHeartbeats 4000000 in
set_option maxRecDepth 100000 in
theorem c_X8_totalDarkNights (l : Launch) (D : va_G) (tA : Nat → ClassId) (a0 a1 a2 a3 a4 a5 : Nat) (sz : Nat) (cnt : Int) (strt : Int → Int) (goal : Int → Int) (money : Int → Int) (litN : Int → Int) (darkN : Int → Int) (hc : 0 ≤ cnt ∧ cnt ≤ 6) : zMi l yX8_totalDarkNights wsX8_totalDarkNights ({ frames := 0, cells := 0, slots := 0, locals := 0 }) D tA [.ref a0] (bShips tA a0 a1 a2 a3 a4 a5 cnt strt goal money litN darkN) sz (fun (z : Int) (u : Unit) => (z = sm darkN cnt.toNat)) (fun (u : Unit) => bShips tA a0 a1 a2 a3 a4 a5 cnt strt goal money litN darkN) 0 0 := by
  refine zMi_of (cc := cX8_totalDarkNights) (maxL := 3) (by decide) rfl (fun z u h => rfl) (Nat.le_of_ble_eq_true rfl) ?_
  intro p e s m args below meth c A Q ls hx hb hml hts hown hK hP hD hA hret hl
  obtain ⟨H, hHe⟩ : ∃ H : Heap, H = s.heap := ⟨_, rfl⟩
  have hS : va_S A s.heap H [] := by rw [hHe]; exact va_S.rf
  rw [← hHe] at hP ⊢
  have hl : lv_has ls 3 [(0, .ref a0)] := hl
  have iX8 : ∀ v ∈ wsX80, v ∈ wsX8_totalDarkNights := by decide +kernel
  have f_24 := hts (.fieldLink RX8 24 "HarborLights$Ships" "darkNights" "[I") (by decide +kernel)
  have f_27 := hts (.fieldLink RX8 27 "HarborLights$Ships" "count" "I") (by decide +kernel)
  refine zz_iconst hx hb dX8_totalDarkNights_0 ?_
  refine lv_istore_n (lv' := [(1, .int (iI 0)), (0, .ref a0)]) hx hb dX8_totalDarkNights_1 rfl hl (by decide) rfl (fun ls hl => ?_)
  refine zz_iconst hx hb dX8_totalDarkNights_2 ?_
  refine lv_istore_n (lv' := [(2, .int (iI 0)), (1, .int (iI 0)), (0, .ref a0)]) hx hb dX8_totalDarkNights_3 rfl hl (by decide) rfl (fun ls hl => ?_)
  have L4 : ∀ (n : Nat) (i : Int) (tot : Int) (H : Heap) (locs : List Loc) (ls : Array Slot), (0 ≤ i ∧ i ≤ cnt) → (tot = sm darkN i.toNat) → (cnt - i).toNat < n → va_P D vwCl (bShips tA a0 a1 a2 a3 a4 a5 cnt strt goal money litN darkN) H → va_D A (bShips tA a0 a1 a2 a3 a4 a5 cnt strt goal money litN darkN) → va_S A s.heap H locs → lv_has ls 3 [(2, .int (iI i)), (1, .int (iI tot)), (0, .ref a0)] → W p l e (headSpec wsX8_totalDarkNights ({ frames := 0, cells := 0, slots := 0, locals := 0 })).room s m args below meth c H locs 0 0 Q (F0 m 4 ls []) := by
    intro n
    induction n with
    | zero => intro i tot H locs ls i0 i1 hmz; exact absurd hmz (Nat.not_lt_zero _)
    | succ n ih4 =>
      intro i tot H locs ls i0 i1 hmz hP hD hS hl
      refine lv_iload_n hx hb dX8_totalDarkNights_4 rfl (lv_at hl 0 rfl) ?_
      refine lv_aload_n hx hb dX8_totalDarkNights_5 rfl (lv_at hl 2 rfl) ?_
      refine va_get (D := D) (ci := 10) (v := .int (iI cnt)) (C := RX8) (T := TX8) (N := 6) hx hb hts iX8 hown hK hP 0 rfl rfl 0 (by decide) f_27 (fun _ h9 => h9) rfl dX8_totalDarkNights_6 ?_
      refine zz_icmp_ge (tgt := 27) hx hb dX8_totalDarkNights_9 (by decide) (by omega) (by omega) (fun c_9 => ?_) (fun c_9 => ?_)
      · refine lv_iload_n hx hb dX8_totalDarkNights_27 rfl (lv_at hl 1 rfl) ?_
        exact hret tot () _ _ _ _ dX8_totalDarkNights_28 (show tot = sm darkN cnt.toNat from by rw [i1, show i = cnt by omega]) hP hD hS
      · refine lv_iload_n hx hb dX8_totalDarkNights_12 rfl (lv_at hl 1 rfl) ?_
        refine lv_aload_n hx hb dX8_totalDarkNights_13 rfl (lv_at hl 2 rfl) ?_
        refine va_get (D := D) (ci := 10) (v := .ref a5) (C := RX8) (T := TX8) (N := 6) hx hb hts iX8 hown hK hP 0 rfl rfl 5 (by decide) f_24 (fun _ h9 => h9) rfl dX8_totalDarkNights_14 ?_
        refine lv_iload_n hx hb dX8_totalDarkNights_17 rfl (lv_at hl 0 rfl) ?_
        refine zz_iald hx hb hK hP 5 rfl (by decide) (by omega) dX8_totalDarkNights_18 ?_
        refine zz_iadd hx hb dX8_totalDarkNights_19 ?_
        refine lv_istore_n (lv' := [(1, .int (iI (tot + (darkN i)))), (2, .int (iI i)), (0, .ref a0)]) hx hb dX8_totalDarkNights_20 rfl hl (by decide) rfl (fun ls hl => ?_)
        refine zz_iinc (lv' := [(2, .int (iI (i + 1))), (1, .int (iI (tot + (darkN i)))), (0, .ref a0)]) hx hb dX8_totalDarkNights_21 hl (k := 1) rfl (by decide) rfl (fun ls hl => ?_)
        refine lv_goto (tgt := 4) hx hb dX8_totalDarkNights_24 (by decide) ?_
        exact ih4 (i + 1) (tot + (darkN i)) _ _ _ (by omega) (by rw [i1]; exact sm_next (by omega)) (by omega) hP hD hS (lv_sub hl [0, 1, 2] rfl)
  exact L4 _ 0 0 _ _ _ (by omega) (by rfl) (Nat.lt_succ_self _) hP hD hS (lv_sub hl [0, 1, 2] rfl)

set_option maxHeartbeats 4000000 in
set_option maxRecDepth 100000 in
theorem c_X8_totalMoney (l : Launch) (D : va_G) (tA : Nat → ClassId) (a0 a1 a2 a3 a4 a5 : Nat) (sz : Nat) (cnt : Int) (strt : Int → Int) (goal : Int → Int) (money : Int → Int) (litN : Int → Int) (darkN : Int → Int) (hc : 0 ≤ cnt ∧ cnt ≤ 6) (Rm : ∀ j, 0 ≤ j → j < cnt → -2147483648 ≤ money j ∧ money j ≤ 2147483647) : zMl l yX8_totalMoney wsX8_totalMoney ({ frames := 0, cells := 0, slots := 0, locals := 0 }) D tA [.ref a0] (bShips tA a0 a1 a2 a3 a4 a5 cnt strt goal money litN darkN) sz (fun (z : Int) (u : Unit) => (z = sm money cnt.toNat)) (fun (u : Unit) => bShips tA a0 a1 a2 a3 a4 a5 cnt strt goal money litN darkN) 0 0 := by
  refine zMl_of (cc := cX8_totalMoney) (maxL := 4) (by decide) rfl (Nat.le_of_ble_eq_true rfl) ?_
  intro p e s m args below meth c A Q ls hx hb hml hts hown hK hP hD hA hret hl
  obtain ⟨H, hHe⟩ : ∃ H : Heap, H = s.heap := ⟨_, rfl⟩
  have hS : va_S A s.heap H [] := by rw [hHe]; exact va_S.rf
  rw [← hHe] at hP ⊢
  have hl : lv_has ls 4 [(0, .ref a0)] := hl
  have iX8 : ∀ v ∈ wsX80, v ∈ wsX8_totalMoney := by decide +kernel
  have f_18 := hts (.fieldLink RX8 18 "HarborLights$Ships" "money" "[I") (by decide +kernel)
  have f_27 := hts (.fieldLink RX8 27 "HarborLights$Ships" "count" "I") (by decide +kernel)
  refine zz_lconst0 hx hb dX8_totalMoney_0 ?_
  refine lv_lstore_n (lv' := [(1, .long (lI 0)), (0, .ref a0)]) hx hb dX8_totalMoney_1 rfl hl (by decide) rfl (fun ls hl => ?_)
  refine zz_iconst hx hb dX8_totalMoney_2 ?_
  refine lv_istore_n (lv' := [(3, .int (iI 0)), (1, .long (lI 0)), (0, .ref a0)]) hx hb dX8_totalMoney_3 rfl hl (by decide) rfl (fun ls hl => ?_)
  have L4 : ∀ (n : Nat) (i : Int) (tot : Int) (H : Heap) (locs : List Loc) (ls : Array Slot), (0 ≤ i ∧ i ≤ cnt) → (tot = sm money i.toNat) → (cnt - i).toNat < n → va_P D vwCl (bShips tA a0 a1 a2 a3 a4 a5 cnt strt goal money litN darkN) H → va_D A (bShips tA a0 a1 a2 a3 a4 a5 cnt strt goal money litN darkN) → va_S A s.heap H locs → lv_has ls 4 [(3, .int (iI i)), (1, .long (lI tot)), (0, .ref a0)] → W p l e (headSpec wsX8_totalMoney ({ frames := 0, cells := 0, slots := 0, locals := 0 })).room s m args below meth c H locs 0 0 Q (F0 m 4 ls []) := by
    intro n
    induction n with
    | zero => intro i tot H locs ls i0 i1 hmz; exact absurd hmz (Nat.not_lt_zero _)
    | succ n ih4 =>
      intro i tot H locs ls i0 i1 hmz hP hD hS hl
      refine lv_iload_n hx hb dX8_totalMoney_4 rfl (lv_at hl 0 rfl) ?_
      refine lv_aload_n hx hb dX8_totalMoney_5 rfl (lv_at hl 2 rfl) ?_
      refine va_get (D := D) (ci := 10) (v := .int (iI cnt)) (C := RX8) (T := TX8) (N := 6) hx hb hts iX8 hown hK hP 0 rfl rfl 0 (by decide) f_27 (fun _ h9 => h9) rfl dX8_totalMoney_6 ?_
      refine zz_icmp_ge (tgt := 28) hx hb dX8_totalMoney_9 (by decide) (by omega) (by omega) (fun c_9 => ?_) (fun c_9 => ?_)
      · refine lv_lload_n hx hb dX8_totalMoney_28 rfl (lv_at hl 1 rfl) ?_
        exact hret tot () _ _ _ _ dX8_totalMoney_29 (show tot = sm money cnt.toNat from by rw [i1, show i = cnt by omega]) hP hD hS
      · refine lv_lload_n hx hb dX8_totalMoney_12 rfl (lv_at hl 1 rfl) ?_
        refine lv_aload_n hx hb dX8_totalMoney_13 rfl (lv_at hl 2 rfl) ?_
        refine va_get (D := D) (ci := 10) (v := .ref a3) (C := RX8) (T := TX8) (N := 6) hx hb hts iX8 hown hK hP 0 rfl rfl 3 (by decide) f_18 (fun _ h9 => h9) rfl dX8_totalMoney_14 ?_
        refine lv_iload_n hx hb dX8_totalMoney_17 rfl (lv_at hl 0 rfl) ?_
        refine zz_iald hx hb hK hP 3 rfl (by decide) (by omega) dX8_totalMoney_18 ?_
        have r_18 := Rm i (by omega) (by omega)
        refine zz_i2l hx hb dX8_totalMoney_19 (by omega) ?_
        refine zz_ladd hx hb dX8_totalMoney_20 ?_
        refine lv_lstore_n (lv' := [(1, .long (lI (tot + (money i)))), (3, .int (iI i)), (0, .ref a0)]) hx hb dX8_totalMoney_21 rfl hl (by decide) rfl (fun ls hl => ?_)
        refine zz_iinc (lv' := [(3, .int (iI (i + 1))), (1, .long (lI (tot + (money i)))), (0, .ref a0)]) hx hb dX8_totalMoney_22 hl (k := 1) rfl (by decide) rfl (fun ls hl => ?_)
        refine lv_goto (tgt := 4) hx hb dX8_totalMoney_25 (by decide) ?_
        exact ih4 (i + 1) (tot + (money i)) _ _ _ (by omega) (by rw [i1]; exact sm_next (by omega)) (by omega) hP hD hS (lv_sub hl [0, 1, 2] rfl)
  exact L4 _ 0 0 _ _ _ (by omega) (by rfl) (Nat.lt_succ_self _) hP hD hS (lv_sub hl [0, 1, 2] rfl)

set_option maxHeartbeats 4000000 in
set_option maxRecDepth 100000 in
theorem c_X8_darkRank (l : Launch) (D : va_G) (tA : Nat → ClassId) (a0 a1 a2 a3 a4 a5 : Nat) (sz : Nat) (cnt : Int) (strt : Int → Int) (goal : Int → Int) (money : Int → Int) (litN : Int → Int) (darkN : Int → Int) (j : Int) (r_j : -2147483648 ≤ j ∧ j ≤ 2147483647) (hc : 0 ≤ cnt ∧ cnt ≤ 6) (hj : 0 ≤ j ∧ j < cnt) (Rd : ∀ j, 0 ≤ j → j < cnt → -2147483648 ≤ darkN j ∧ darkN j ≤ 2147483647) : zMi l yX8_darkRank wsX8_darkRank ({ frames := 0, cells := 0, slots := 0, locals := 0 }) D tA [.ref a0, .int (iI j)] (bShips tA a0 a1 a2 a3 a4 a5 cnt strt goal money litN darkN) sz (fun (z : Int) (u : Unit) => (z = (sm (fun o => if darkN j < darkN o ∨ (darkN o = darkN j ∧ o < j) then 1 else 0) cnt.toNat))) (fun (u : Unit) => bShips tA a0 a1 a2 a3 a4 a5 cnt strt goal money litN darkN) 0 0 := by
  refine zMi_of (cc := cX8_darkRank) (maxL := 6) (by decide) rfl (fun z u h => rfl) (Nat.le_of_ble_eq_true rfl) ?_
  intro p e s m args below meth c A Q ls hx hb hml hts hown hK hP hD hA hret hl
  obtain ⟨H, hHe⟩ : ∃ H : Heap, H = s.heap := ⟨_, rfl⟩
  have hS : va_S A s.heap H [] := by rw [hHe]; exact va_S.rf
  rw [← hHe] at hP ⊢
  have hl : lv_has ls 6 [(0, .ref a0), (1, .int (iI j))] := hl
  have iX8 : ∀ v ∈ wsX80, v ∈ wsX8_darkRank := by decide +kernel
  have f_24 := hts (.fieldLink RX8 24 "HarborLights$Ships" "darkNights" "[I") (by decide +kernel)
  have f_27 := hts (.fieldLink RX8 27 "HarborLights$Ships" "count" "I") (by decide +kernel)
  refine zz_iconst hx hb dX8_darkRank_0 ?_
  refine lv_istore_n (lv' := [(2, .int (iI 0)), (0, .ref a0), (1, .int (iI j))]) hx hb dX8_darkRank_1 rfl hl (by decide) rfl (fun ls hl => ?_)
  refine zz_iconst hx hb dX8_darkRank_2 ?_
  refine lv_istore_n (lv' := [(3, .int (iI 0)), (2, .int (iI 0)), (0, .ref a0), (1, .int (iI j))]) hx hb dX8_darkRank_3 rfl hl (by decide) rfl (fun ls hl => ?_)
  have L4 : ∀ (n : Nat) (i : Int) (rk : Int) (H : Heap) (locs : List Loc) (ls : Array Slot), (0 ≤ i ∧ i ≤ cnt) → (rk = (sm (fun o => if darkN j < darkN o ∨ (darkN o = darkN j ∧ o < j) then 1 else 0) i.toNat)) → (cnt - i).toNat < n → va_P D vwCl (bShips tA a0 a1 a2 a3 a4 a5 cnt strt goal money litN darkN) H → va_D A (bShips tA a0 a1 a2 a3 a4 a5 cnt strt goal money litN darkN) → va_S A s.heap H locs → lv_has ls 6 [(3, .int (iI i)), (2, .int (iI rk)), (0, .ref a0), (1, .int (iI j))] → W p l e (headSpec wsX8_darkRank ({ frames := 0, cells := 0, slots := 0, locals := 0 })).room s m args below meth c H locs 0 0 Q (F0 m 4 ls []) := by
    intro n
    induction n with
    | zero => intro i rk H locs ls i0 i1 hmz; exact absurd hmz (Nat.not_lt_zero _)
    | succ n ih4 =>
      intro i rk H locs ls i0 i1 hmz hP hD hS hl
      refine lv_iload_n hx hb dX8_darkRank_4 rfl (lv_at hl 0 rfl) ?_
      refine lv_aload_n hx hb dX8_darkRank_5 rfl (lv_at hl 2 rfl) ?_
      refine va_get (D := D) (ci := 10) (v := .int (iI cnt)) (C := RX8) (T := TX8) (N := 6) hx hb hts iX8 hown hK hP 0 rfl rfl 0 (by decide) f_27 (fun _ h9 => h9) rfl dX8_darkRank_6 ?_
      refine zz_icmp_ge (tgt := 80) hx hb dX8_darkRank_9 (by decide) (by omega) (by omega) (fun c_9 => ?_) (fun c_9 => ?_)
      · refine lv_iload_n hx hb dX8_darkRank_80 rfl (lv_at hl 1 rfl) ?_
        exact hret rk () _ _ _ _ dX8_darkRank_81 (show rk = (sm (fun o => if darkN j < darkN o ∨ (darkN o = darkN j ∧ o < j) then 1 else 0) cnt.toNat) from by rw [i1, show i = cnt by omega]) hP hD hS
      · refine lv_aload_n hx hb dX8_darkRank_12 rfl (lv_at hl 2 rfl) ?_
        refine va_get (D := D) (ci := 10) (v := .ref a5) (C := RX8) (T := TX8) (N := 6) hx hb hts iX8 hown hK hP 0 rfl rfl 5 (by decide) f_24 (fun _ h9 => h9) rfl dX8_darkRank_13 ?_
        refine lv_iload_n hx hb dX8_darkRank_16 rfl (lv_at hl 0 rfl) ?_
        refine zz_iald hx hb hK hP 5 rfl (by decide) (by omega) dX8_darkRank_17 ?_
        have r_17 := Rd i (by omega) (by omega)
        refine lv_aload_n hx hb dX8_darkRank_18 rfl (lv_at hl 2 rfl) ?_
        refine va_get (D := D) (ci := 10) (v := .ref a5) (C := RX8) (T := TX8) (N := 6) hx hb hts iX8 hown hK hP 0 rfl rfl 5 (by decide) f_24 (fun _ h9 => h9) rfl dX8_darkRank_19 ?_
        refine lv_iload_n hx hb dX8_darkRank_22 rfl (lv_at hl 3 rfl) ?_
        refine zz_iald hx hb hK hP 5 rfl (by decide) (by omega) dX8_darkRank_23 ?_
        have r_23 := Rd j (by omega) (by omega)
        refine zz_icmp_le (tgt := 31) hx hb dX8_darkRank_24 (by decide) (by omega) (by omega) (fun c_24 => ?_) (fun c_24 => ?_)
        · refine zz_iconst hx hb dX8_darkRank_31 ?_
          refine lv_istore (lv' := [(4, .int (iI 0)), (3, .int (iI i)), (2, .int (iI rk)), (0, .ref a0), (1, .int (iI j))]) hx hb dX8_darkRank_32 hl (by decide) rfl (fun ls hl => ?_)
          refine lv_aload_n hx hb dX8_darkRank_34 rfl (lv_at hl 3 rfl) ?_
          refine va_get (D := D) (ci := 10) (v := .ref a5) (C := RX8) (T := TX8) (N := 6) hx hb hts iX8 hown hK hP 0 rfl rfl 5 (by decide) f_24 (fun _ h9 => h9) rfl dX8_darkRank_35 ?_
          refine lv_iload_n hx hb dX8_darkRank_38 rfl (lv_at hl 1 rfl) ?_
          refine zz_iald hx hb hK hP 5 rfl (by decide) (by omega) dX8_darkRank_39 ?_
          have r_39 := Rd i (by omega) (by omega)
          refine lv_aload_n hx hb dX8_darkRank_40 rfl (lv_at hl 3 rfl) ?_
          refine va_get (D := D) (ci := 10) (v := .ref a5) (C := RX8) (T := TX8) (N := 6) hx hb hts iX8 hown hK hP 0 rfl rfl 5 (by decide) f_24 (fun _ h9 => h9) rfl dX8_darkRank_41 ?_
          refine lv_iload_n hx hb dX8_darkRank_44 rfl (lv_at hl 4 rfl) ?_
          refine zz_iald hx hb hK hP 5 rfl (by decide) (by omega) dX8_darkRank_45 ?_
          have r_45 := Rd j (by omega) (by omega)
          refine zz_icmp_ne (tgt := 58) hx hb dX8_darkRank_46 (by decide) (by omega) (by omega) (fun c_46 => ?_) (fun c_46 => ?_)
          · refine zz_iconst hx hb dX8_darkRank_58 ?_
            refine lv_istore (lv' := [(5, .int (iI 0)), (4, .int (iI 0)), (3, .int (iI i)), (2, .int (iI rk)), (0, .ref a0), (1, .int (iI j))]) hx hb dX8_darkRank_59 hl (by decide) rfl (fun ls hl => ?_)
            refine lv_iload hx hb dX8_darkRank_61 (lv_at hl 1 rfl) ?_
            refine zz_if_ne (tgt := 71) hx hb dX8_darkRank_63 (by decide) (by decide) (fun c_63 => ?_) (fun c_63 => ?_)
            · exact absurd c_63 (by decide)
            · refine lv_iload hx hb dX8_darkRank_66 (lv_at hl 0 rfl) ?_
              refine zz_if_eq (tgt := 74) hx hb dX8_darkRank_68 (by decide) (by decide) (fun c_68 => ?_) (fun c_68 => ?_)
              · refine zz_iinc (lv' := [(3, .int (iI (i + 1))), (5, .int (iI 0)), (4, .int (iI 0)), (2, .int (iI rk)), (0, .ref a0), (1, .int (iI j))]) hx hb dX8_darkRank_74 hl (k := 2) rfl (by decide) rfl (fun ls hl => ?_)
                refine lv_goto (tgt := 4) hx hb dX8_darkRank_77 (by decide) ?_
                exact ih4 (i + 1) rk _ _ _ (by omega) (by rw [i1]; first | exact sm_next1 (by omega) (if_pos (by omega)) | exact sm_next0 (by omega) (if_neg (by omega))) (by omega) hP hD hS (lv_sub hl [0, 3, 4, 5] rfl)
              · exact absurd c_68 (by decide)
          · refine lv_iload_n hx hb dX8_darkRank_49 rfl (lv_at hl 1 rfl) ?_
            refine lv_iload_n hx hb dX8_darkRank_50 rfl (lv_at hl 4 rfl) ?_
            refine zz_icmp_ge (tgt := 58) hx hb dX8_darkRank_51 (by decide) (by omega) (by omega) (fun c_51 => ?_) (fun c_51 => ?_)
            · refine zz_iconst hx hb dX8_darkRank_58 ?_
              refine lv_istore (lv' := [(5, .int (iI 0)), (4, .int (iI 0)), (3, .int (iI i)), (2, .int (iI rk)), (0, .ref a0), (1, .int (iI j))]) hx hb dX8_darkRank_59 hl (by decide) rfl (fun ls hl => ?_)
              refine lv_iload hx hb dX8_darkRank_61 (lv_at hl 1 rfl) ?_
              refine zz_if_ne (tgt := 71) hx hb dX8_darkRank_63 (by decide) (by decide) (fun c_63 => ?_) (fun c_63 => ?_)
              · exact absurd c_63 (by decide)
              · refine lv_iload hx hb dX8_darkRank_66 (lv_at hl 0 rfl) ?_
                refine zz_if_eq (tgt := 74) hx hb dX8_darkRank_68 (by decide) (by decide) (fun c_68 => ?_) (fun c_68 => ?_)
                · refine zz_iinc (lv' := [(3, .int (iI (i + 1))), (5, .int (iI 0)), (4, .int (iI 0)), (2, .int (iI rk)), (0, .ref a0), (1, .int (iI j))]) hx hb dX8_darkRank_74 hl (k := 2) rfl (by decide) rfl (fun ls hl => ?_)
                  refine lv_goto (tgt := 4) hx hb dX8_darkRank_77 (by decide) ?_
                  exact ih4 (i + 1) rk _ _ _ (by omega) (by rw [i1]; first | exact sm_next1 (by omega) (if_pos (by omega)) | exact sm_next0 (by omega) (if_neg (by omega))) (by omega) hP hD hS (lv_sub hl [0, 3, 4, 5] rfl)
                · exact absurd c_68 (by decide)
            · refine zz_iconst hx hb dX8_darkRank_54 ?_
              refine lv_goto (tgt := 59) hx hb dX8_darkRank_55 (by decide) ?_
              refine lv_istore (lv' := [(5, .int (iI 1)), (4, .int (iI 0)), (3, .int (iI i)), (2, .int (iI rk)), (0, .ref a0), (1, .int (iI j))]) hx hb dX8_darkRank_59 hl (by decide) rfl (fun ls hl => ?_)
              refine lv_iload hx hb dX8_darkRank_61 (lv_at hl 1 rfl) ?_
              refine zz_if_ne (tgt := 71) hx hb dX8_darkRank_63 (by decide) (by decide) (fun c_63 => ?_) (fun c_63 => ?_)
              · exact absurd c_63 (by decide)
              · refine lv_iload hx hb dX8_darkRank_66 (lv_at hl 0 rfl) ?_
                refine zz_if_eq (tgt := 74) hx hb dX8_darkRank_68 (by decide) (by decide) (fun c_68 => ?_) (fun c_68 => ?_)
                · exact absurd c_68 (by decide)
                · refine zz_iinc (lv' := [(2, .int (iI (rk + 1))), (5, .int (iI 1)), (4, .int (iI 0)), (3, .int (iI i)), (0, .ref a0), (1, .int (iI j))]) hx hb dX8_darkRank_71 hl (k := 3) rfl (by decide) rfl (fun ls hl => ?_)
                  refine zz_iinc (lv' := [(3, .int (iI (i + 1))), (2, .int (iI (rk + 1))), (5, .int (iI 1)), (4, .int (iI 0)), (0, .ref a0), (1, .int (iI j))]) hx hb dX8_darkRank_74 hl (k := 3) rfl (by decide) rfl (fun ls hl => ?_)
                  refine lv_goto (tgt := 4) hx hb dX8_darkRank_77 (by decide) ?_
                  exact ih4 (i + 1) (rk + 1) _ _ _ (by omega) (by rw [i1]; first | exact sm_next1 (by omega) (if_pos (by omega)) | exact sm_next0 (by omega) (if_neg (by omega))) (by omega) hP hD hS (lv_sub hl [0, 1, 4, 5] rfl)
        · refine zz_iconst hx hb dX8_darkRank_27 ?_
          refine lv_goto (tgt := 32) hx hb dX8_darkRank_28 (by decide) ?_
          refine lv_istore (lv' := [(4, .int (iI 1)), (3, .int (iI i)), (2, .int (iI rk)), (0, .ref a0), (1, .int (iI j))]) hx hb dX8_darkRank_32 hl (by decide) rfl (fun ls hl => ?_)
          refine lv_aload_n hx hb dX8_darkRank_34 rfl (lv_at hl 3 rfl) ?_
          refine va_get (D := D) (ci := 10) (v := .ref a5) (C := RX8) (T := TX8) (N := 6) hx hb hts iX8 hown hK hP 0 rfl rfl 5 (by decide) f_24 (fun _ h9 => h9) rfl dX8_darkRank_35 ?_
          refine lv_iload_n hx hb dX8_darkRank_38 rfl (lv_at hl 1 rfl) ?_
          refine zz_iald hx hb hK hP 5 rfl (by decide) (by omega) dX8_darkRank_39 ?_
          have r_39 := Rd i (by omega) (by omega)
          refine lv_aload_n hx hb dX8_darkRank_40 rfl (lv_at hl 3 rfl) ?_
          refine va_get (D := D) (ci := 10) (v := .ref a5) (C := RX8) (T := TX8) (N := 6) hx hb hts iX8 hown hK hP 0 rfl rfl 5 (by decide) f_24 (fun _ h9 => h9) rfl dX8_darkRank_41 ?_
          refine lv_iload_n hx hb dX8_darkRank_44 rfl (lv_at hl 4 rfl) ?_
          refine zz_iald hx hb hK hP 5 rfl (by decide) (by omega) dX8_darkRank_45 ?_
          have r_45 := Rd j (by omega) (by omega)
          refine zz_icmp_ne (tgt := 58) hx hb dX8_darkRank_46 (by decide) (by omega) (by omega) (fun c_46 => ?_) (fun c_46 => ?_)
          · refine zz_iconst hx hb dX8_darkRank_58 ?_
            refine lv_istore (lv' := [(5, .int (iI 0)), (4, .int (iI 1)), (3, .int (iI i)), (2, .int (iI rk)), (0, .ref a0), (1, .int (iI j))]) hx hb dX8_darkRank_59 hl (by decide) rfl (fun ls hl => ?_)
            refine lv_iload hx hb dX8_darkRank_61 (lv_at hl 1 rfl) ?_
            refine zz_if_ne (tgt := 71) hx hb dX8_darkRank_63 (by decide) (by decide) (fun c_63 => ?_) (fun c_63 => ?_)
            · refine zz_iinc (lv' := [(2, .int (iI (rk + 1))), (5, .int (iI 0)), (4, .int (iI 1)), (3, .int (iI i)), (0, .ref a0), (1, .int (iI j))]) hx hb dX8_darkRank_71 hl (k := 3) rfl (by decide) rfl (fun ls hl => ?_)
              refine zz_iinc (lv' := [(3, .int (iI (i + 1))), (2, .int (iI (rk + 1))), (5, .int (iI 0)), (4, .int (iI 1)), (0, .ref a0), (1, .int (iI j))]) hx hb dX8_darkRank_74 hl (k := 3) rfl (by decide) rfl (fun ls hl => ?_)
              refine lv_goto (tgt := 4) hx hb dX8_darkRank_77 (by decide) ?_
              exact ih4 (i + 1) (rk + 1) _ _ _ (by omega) (by rw [i1]; first | exact sm_next1 (by omega) (if_pos (by omega)) | exact sm_next0 (by omega) (if_neg (by omega))) (by omega) hP hD hS (lv_sub hl [0, 1, 4, 5] rfl)
            · exact absurd c_63 (by decide)
          · refine lv_iload_n hx hb dX8_darkRank_49 rfl (lv_at hl 1 rfl) ?_
            refine lv_iload_n hx hb dX8_darkRank_50 rfl (lv_at hl 4 rfl) ?_
            refine zz_icmp_ge (tgt := 58) hx hb dX8_darkRank_51 (by decide) (by omega) (by omega) (fun c_51 => ?_) (fun c_51 => ?_)
            · refine zz_iconst hx hb dX8_darkRank_58 ?_
              refine lv_istore (lv' := [(5, .int (iI 0)), (4, .int (iI 1)), (3, .int (iI i)), (2, .int (iI rk)), (0, .ref a0), (1, .int (iI j))]) hx hb dX8_darkRank_59 hl (by decide) rfl (fun ls hl => ?_)
              refine lv_iload hx hb dX8_darkRank_61 (lv_at hl 1 rfl) ?_
              refine zz_if_ne (tgt := 71) hx hb dX8_darkRank_63 (by decide) (by decide) (fun c_63 => ?_) (fun c_63 => ?_)
              · refine zz_iinc (lv' := [(2, .int (iI (rk + 1))), (5, .int (iI 0)), (4, .int (iI 1)), (3, .int (iI i)), (0, .ref a0), (1, .int (iI j))]) hx hb dX8_darkRank_71 hl (k := 3) rfl (by decide) rfl (fun ls hl => ?_)
                refine zz_iinc (lv' := [(3, .int (iI (i + 1))), (2, .int (iI (rk + 1))), (5, .int (iI 0)), (4, .int (iI 1)), (0, .ref a0), (1, .int (iI j))]) hx hb dX8_darkRank_74 hl (k := 3) rfl (by decide) rfl (fun ls hl => ?_)
                refine lv_goto (tgt := 4) hx hb dX8_darkRank_77 (by decide) ?_
                exact ih4 (i + 1) (rk + 1) _ _ _ (by omega) (by rw [i1]; first | exact sm_next1 (by omega) (if_pos (by omega)) | exact sm_next0 (by omega) (if_neg (by omega))) (by omega) hP hD hS (lv_sub hl [0, 1, 4, 5] rfl)
              · exact absurd c_63 (by decide)
            · refine zz_iconst hx hb dX8_darkRank_54 ?_
              refine lv_goto (tgt := 59) hx hb dX8_darkRank_55 (by decide) ?_
              refine lv_istore (lv' := [(5, .int (iI 1)), (4, .int (iI 1)), (3, .int (iI i)), (2, .int (iI rk)), (0, .ref a0), (1, .int (iI j))]) hx hb dX8_darkRank_59 hl (by decide) rfl (fun ls hl => ?_)
              refine lv_iload hx hb dX8_darkRank_61 (lv_at hl 1 rfl) ?_
              refine zz_if_ne (tgt := 71) hx hb dX8_darkRank_63 (by decide) (by decide) (fun c_63 => ?_) (fun c_63 => ?_)
              · refine zz_iinc (lv' := [(2, .int (iI (rk + 1))), (5, .int (iI 1)), (4, .int (iI 1)), (3, .int (iI i)), (0, .ref a0), (1, .int (iI j))]) hx hb dX8_darkRank_71 hl (k := 3) rfl (by decide) rfl (fun ls hl => ?_)
                refine zz_iinc (lv' := [(3, .int (iI (i + 1))), (2, .int (iI (rk + 1))), (5, .int (iI 1)), (4, .int (iI 1)), (0, .ref a0), (1, .int (iI j))]) hx hb dX8_darkRank_74 hl (k := 3) rfl (by decide) rfl (fun ls hl => ?_)
                refine lv_goto (tgt := 4) hx hb dX8_darkRank_77 (by decide) ?_
                exact ih4 (i + 1) (rk + 1) _ _ _ (by omega) (by rw [i1]; first | exact sm_next1 (by omega) (if_pos (by omega)) | exact sm_next0 (by omega) (if_neg (by omega))) (by omega) hP hD hS (lv_sub hl [0, 1, 4, 5] rfl)
              · exact absurd c_63 (by decide)
  exact L4 _ 0 0 _ _ _ (by omega) (by rfl) (Nat.lt_succ_self _) hP hD hS (lv_sub hl [0, 1, 2, 3] rfl)

set_option maxHeartbeats 4000000 in
set_option maxRecDepth 100000 in
theorem c_X8_atDarkRank (l : Launch) (D : va_G) (tA : Nat → ClassId) (a0 a1 a2 a3 a4 a5 : Nat) (sz : Nat) (cnt : Int) (strt : Int → Int) (goal : Int → Int) (money : Int → Int) (litN : Int → Int) (darkN : Int → Int) (rank : Int) (r_rank : -2147483648 ≤ rank ∧ rank ≤ 2147483647) (hc : 0 ≤ cnt ∧ cnt ≤ 6) (Rd : ∀ j, 0 ≤ j → j < cnt → -2147483648 ≤ darkN j ∧ darkN j ≤ 2147483647) : zMi l yX8_atDarkRank wsX8_atDarkRank ({ frames := 1, cells := 0, slots := 0, locals := 25 }) D tA [.ref a0, .int (iI rank)] (bShips tA a0 a1 a2 a3 a4 a5 cnt strt goal money litN darkN) sz (fun (z : Int) (u : Unit) => ((z = -1 ∧ ∀ t, 0 ≤ t → t < cnt → ¬ (sm (fun o => if darkN t < darkN o ∨ (darkN o = darkN t ∧ o < t) then 1 else 0) cnt.toNat) = rank) ∨ (0 ≤ z ∧ z < cnt ∧ (sm (fun o => if darkN z < darkN o ∨ (darkN o = darkN z ∧ o < z) then 1 else 0) cnt.toNat) = rank ∧ ∀ t, 0 ≤ t → t < z → ¬ (sm (fun o => if darkN t < darkN o ∨ (darkN o = darkN t ∧ o < t) then 1 else 0) cnt.toNat) = rank))) (fun (u : Unit) => bShips tA a0 a1 a2 a3 a4 a5 cnt strt goal money litN darkN) 0 0 := by
  refine zMi_of (cc := cX8_atDarkRank) (maxL := 3) (by decide) rfl (fun z u h => rfl) (Nat.le_of_ble_eq_true rfl) ?_
  intro p e s m args below meth c A Q ls hx hb hml hts hown hK hP hD hA hret hl
  obtain ⟨H, hHe⟩ : ∃ H : Heap, H = s.heap := ⟨_, rfl⟩
  have hS : va_S A s.heap H [] := by rw [hHe]; exact va_S.rf
  rw [← hHe] at hP ⊢
  have hl : lv_has ls 3 [(0, .ref a0), (1, .int (iI rank))] := hl
  have iX8 : ∀ v ∈ wsX80, v ∈ wsX8_atDarkRank := by decide +kernel
  have f_27 := hts (.fieldLink RX8 27 "HarborLights$Ships" "count" "I") (by decide +kernel)
  refine zz_iconst hx hb dX8_atDarkRank_0 ?_
  refine lv_istore_n (lv' := [(2, .int (iI 0)), (0, .ref a0), (1, .int (iI rank))]) hx hb dX8_atDarkRank_1 rfl hl (by decide) rfl (fun ls hl => ?_)
  have L2 : ∀ (n : Nat) (i : Int) (H : Heap) (locs : List Loc) (ls : Array Slot), (0 ≤ i ∧ i ≤ cnt) → (∀ t, 0 ≤ t → t < i → ¬ (sm (fun o => if darkN t < darkN o ∨ (darkN o = darkN t ∧ o < t) then 1 else 0) cnt.toNat) = rank) → (cnt - i).toNat < n → va_P D vwCl (bShips tA a0 a1 a2 a3 a4 a5 cnt strt goal money litN darkN) H → va_D A (bShips tA a0 a1 a2 a3 a4 a5 cnt strt goal money litN darkN) → va_S A s.heap H locs → lv_has ls 3 [(2, .int (iI i)), (0, .ref a0), (1, .int (iI rank))] → W p l e (headSpec wsX8_atDarkRank ({ frames := 1, cells := 0, slots := 0, locals := 25 })).room s m args below meth c H locs 0 0 Q (F0 m 2 ls []) := by
    intro n
    induction n with
    | zero => intro i H locs ls i0 i1 hmz; exact absurd hmz (Nat.not_lt_zero _)
    | succ n ih2 =>
      intro i H locs ls i0 i1 hmz hP hD hS hl
      refine lv_iload_n hx hb dX8_atDarkRank_2 rfl (lv_at hl 0 rfl) ?_
      refine lv_aload_n hx hb dX8_atDarkRank_3 rfl (lv_at hl 1 rfl) ?_
      refine va_get (D := D) (ci := 10) (v := .int (iI cnt)) (C := RX8) (T := TX8) (N := 6) hx hb hts iX8 hown hK hP 0 rfl rfl 0 (by decide) f_27 (fun _ h9 => h9) rfl dX8_atDarkRank_4 ?_
      refine zz_icmp_ge (tgt := 27) hx hb dX8_atDarkRank_7 (by decide) (by omega) (by omega) (fun c_7 => ?_) (fun c_7 => ?_)
      · refine zz_iconst hx hb dX8_atDarkRank_27 ?_
        exact hret (-1) () _ _ _ _ dX8_atDarkRank_28 (show (((-1) : Int) = -1 ∧ ∀ t, 0 ≤ t → t < cnt → ¬ (sm (fun o => if darkN t < darkN o ∨ (darkN o = darkN t ∧ o < t) then 1 else 0) cnt.toNat) = rank) ∨ (0 ≤ ((-1) : Int) ∧ ((-1) : Int) < cnt ∧ (sm (fun o => if darkN ((-1) : Int) < darkN o ∨ (darkN o = darkN ((-1) : Int) ∧ o < ((-1) : Int)) then 1 else 0) cnt.toNat) = rank ∧ ∀ t, 0 ≤ t → t < ((-1) : Int) → ¬ (sm (fun o => if darkN t < darkN o ∨ (darkN o = darkN t ∧ o < t) then 1 else 0) cnt.toNat) = rank) from by exact Or.inl ⟨rfl, fun t t0 t1 => i1 t t0 (by omega)⟩) hP hD hS
      · refine lv_aload_n hx hb dX8_atDarkRank_10 rfl (lv_at hl 1 rfl) ?_
        refine lv_iload_n hx hb dX8_atDarkRank_11 rfl (lv_at hl 0 rfl) ?_
        refine zz_callVi (As := [.int (iI i)]) (rest := []) (wf := fun u => bShips tA a0 a1 a2 a3 a4 a5 cnt strt goal money litN darkN) ⟨hx, hb, hml, hown, hts⟩ (c_X8_darkRank l D tA a0 a1 a2 a3 a4 a5 H.size cnt strt goal money litN darkN i (by first | assumption | omega) (by first | assumption | omega) (by first | assumption | omega) (by first | assumption | omega)) (cwV 1 hts gX8_atDarkRank_X8_darkRank rfl rfl rfl (by decide +kernel) ⟨Nat.le_of_ble_eq_true rfl, Nat.le_of_ble_eq_true rfl⟩) hK hP hD hS hA [0, 1, 2, 3, 4, 5] [] [0, 1, 2, 3, 4, 5] rfl rfl (by decide) (by decide) (by decide) (by decide) (fun _ => rfl) (ci := 10) (q0 := 0) rfl rfl rfl rfl rfl hl.1 (Nat.le_of_ble_eq_true rfl) dX8_atDarkRank_12 ⟨Nat.le_of_ble_eq_true rfl, Nat.le_of_ble_eq_true rfl⟩ ?_
        intro z12_1 u H locs p12_2 hP hD hS
        have hP : va_P D vwCl (bShips tA a0 a1 a2 a3 a4 a5 cnt strt goal money litN darkN) H := hP
        have hD : va_D A (bShips tA a0 a1 a2 a3 a4 a5 cnt strt goal money litN darkN) := hD
        have q_12 : z12_1 = (sm (fun o => if darkN i < darkN o ∨ (darkN o = darkN i ∧ o < i) then 1 else 0) cnt.toNat) := p12_2
        have hbz := sm_in (f := fun o => if darkN i < darkN o ∨ (darkN o = darkN i ∧ o < i) then 1 else 0) (n := cnt.toNat) (fun o _ _ => by show (0 : Int) ≤ (if darkN i < darkN o ∨ (darkN o = darkN i ∧ o < i) then 1 else 0) ∧ (if darkN i < darkN o ∨ (darkN o = darkN i ∧ o < i) then (1 : Int) else 0) ≤ 1; split <;> omega)
        rw [← q_12] at hbz
        refine lv_iload_n hx hb dX8_atDarkRank_15 rfl (lv_at hl 2 rfl) ?_
        refine zz_icmp_ne (tgt := 21) hx hb dX8_atDarkRank_16 (by decide) (by omega) (by omega) (fun c_16 => ?_) (fun c_16 => ?_)
        · refine zz_iinc (lv' := [(2, .int (iI (i + 1))), (0, .ref a0), (1, .int (iI rank))]) hx hb dX8_atDarkRank_21 hl (k := 0) rfl (by decide) rfl (fun ls hl => ?_)
          refine lv_goto (tgt := 2) hx hb dX8_atDarkRank_24 (by decide) ?_
          exact ih2 (i + 1) _ _ _ (by omega) (by exact upd_keep (P := fun t _ => ¬ (sm (fun o => if darkN t < darkN o ∨ (darkN o = darkN t ∧ o < t) then 1 else 0) cnt.toNat) = rank) (g := fun z => z) i1 (by rw [← q_12]; exact c_16)) (by omega) hP hD hS (lv_sub hl [0, 1, 2] rfl)
        · refine lv_iload_n hx hb dX8_atDarkRank_19 rfl (lv_at hl 0 rfl) ?_
          exact hret i () _ _ _ _ dX8_atDarkRank_20 (show (i = -1 ∧ ∀ t, 0 ≤ t → t < cnt → ¬ (sm (fun o => if darkN t < darkN o ∨ (darkN o = darkN t ∧ o < t) then 1 else 0) cnt.toNat) = rank) ∨ (0 ≤ i ∧ i < cnt ∧ (sm (fun o => if darkN i < darkN o ∨ (darkN o = darkN i ∧ o < i) then 1 else 0) cnt.toNat) = rank ∧ ∀ t, 0 ≤ t → t < i → ¬ (sm (fun o => if darkN t < darkN o ∨ (darkN o = darkN t ∧ o < t) then 1 else 0) cnt.toNat) = rank) from by exact Or.inr ⟨by omega, by omega, q_12.symm.trans c_16, i1⟩) hP hD hS
  exact L2 _ 0 _ _ _ (by omega) (by exact nothing_yet) (Nat.lt_succ_self _) hP hD hS (lv_sub hl [0, 1, 2] rfl)

set_option maxHeartbeats 4000000 in
set_option maxRecDepth 100000 in
theorem c_X8_copyFrom (l : Launch) (D : va_G) (tA : Nat → ClassId) (a0 a1 a2 a3 a4 a5 b0 b1 b2 b3 b4 b5 : Nat) (sz : Nat) (cnt : Int) (strt : Int → Int) (goal : Int → Int) (money : Int → Int) (litN : Int → Int) (darkN : Int → Int) (o_cnt : Int) (o_strt : Int → Int) (o_goal : Int → Int) (o_money : Int → Int) (o_litN : Int → Int) (o_darkN : Int → Int) : zMv l yX8_copyFrom wsX8_copyFrom ({ frames := 1, cells := 0, slots := 0, locals := 40 }) D tA [.ref a0, .ref b0] (bShips tA a0 a1 a2 a3 a4 a5 cnt strt goal money litN darkN ++ bShips tA b0 b1 b2 b3 b4 b5 o_cnt o_strt o_goal o_money o_litN o_darkN) sz (fun (u : Unit) => True) (fun (u : Unit) => bShips tA a0 a1 a2 a3 a4 a5 o_cnt o_strt o_goal o_money o_litN o_darkN ++ bShips tA b0 b1 b2 b3 b4 b5 o_cnt o_strt o_goal o_money o_litN o_darkN) 0 0 := by
  refine zMv_of (cc := cX8_copyFrom) (maxL := 2) (by decide) rfl (Nat.le_of_ble_eq_true rfl) ?_
  intro p e s m args below meth c A Q ls hx hb hml hts hown hK hP hD hA hret hl
  obtain ⟨H, hHe⟩ : ∃ H : Heap, H = s.heap := ⟨_, rfl⟩
  have hS : va_S A s.heap H [] := by rw [hHe]; exact va_S.rf
  rw [← hHe] at hP ⊢
  have hl : lv_has ls 2 [(0, .ref a0), (1, .ref b0)] := hl
  have iX8 : ∀ v ∈ wsX80, v ∈ wsX8_copyFrom := by decide +kernel
  have f_9 := hts (.fieldLink RX8 9 "HarborLights$Ships" "start" "[I") (by decide +kernel)
  have f_15 := hts (.fieldLink RX8 15 "HarborLights$Ships" "goal" "[I") (by decide +kernel)
  have f_18 := hts (.fieldLink RX8 18 "HarborLights$Ships" "money" "[I") (by decide +kernel)
  have f_21 := hts (.fieldLink RX8 21 "HarborLights$Ships" "litNights" "[I") (by decide +kernel)
  have f_24 := hts (.fieldLink RX8 24 "HarborLights$Ships" "darkNights" "[I") (by decide +kernel)
  have f_27 := hts (.fieldLink RX8 27 "HarborLights$Ships" "count" "I") (by decide +kernel)
  have l_39 := hts (.methodLink RX8 39 arraycopyName) (by decide +kernel)
  have ln_39 := hts (.native arraycopyName) (by decide +kernel)
  have ls_39 := hts (.static arraycopyName) (by decide +kernel)
  have li_39 := hts (.initialized "java/lang/System") (by decide +kernel)
  refine lv_aload_n hx hb dX8_copyFrom_0 rfl (lv_at hl 0 rfl) ?_
  refine lv_aload_n hx hb dX8_copyFrom_1 rfl (lv_at hl 1 rfl) ?_
  refine va_get (D := D) (ci := 10) (v := .int (iI o_cnt)) (C := RX8) (T := TX8) (N := 6) hx hb hts iX8 hown hK hP 6 rfl rfl 0 (by decide) f_27 (fun _ h9 => h9) rfl dX8_copyFrom_2 ?_
  refine va_put (D := D) (ci := 10) (v := .int (iI o_cnt)) (ty := .int) (C := RX8) (T := TX8) (N := 6) hx hb hts iX8 tyX8 tyX8_ok nmX8 hown hK hP hD hS 0 rfl rfl 0 (by decide) f_27 (fun _ h9 => h9) rfl (by decide +kernel) rfl rfl (Nat.le_of_ble_eq_true rfl) dX8_copyFrom_5 (fun H locs hP hD hS => ?_)
  have hP : va_P D vwCl (bShips tA a0 a1 a2 a3 a4 a5 o_cnt strt goal money litN darkN ++ bShips tA b0 b1 b2 b3 b4 b5 o_cnt o_strt o_goal o_money o_litN o_darkN) H := hP
  have hD : va_D A (bShips tA a0 a1 a2 a3 a4 a5 o_cnt strt goal money litN darkN ++ bShips tA b0 b1 b2 b3 b4 b5 o_cnt o_strt o_goal o_money o_litN o_darkN) := hD
  refine lv_aload_n hx hb dX8_copyFrom_8 rfl (lv_at hl 1 rfl) ?_
  refine va_get (D := D) (ci := 10) (v := .ref b1) (C := RX8) (T := TX8) (N := 6) hx hb hts iX8 hown hK hP 6 rfl rfl 1 (by decide) f_9 (fun _ h9 => h9) rfl dX8_copyFrom_9 ?_
  refine zz_iconst hx hb dX8_copyFrom_12 ?_
  refine lv_aload_n hx hb dX8_copyFrom_13 rfl (lv_at hl 0 rfl) ?_
  refine va_get (D := D) (ci := 10) (v := .ref a1) (C := RX8) (T := TX8) (N := 6) hx hb hts iX8 hown hK hP 0 rfl rfl 1 (by decide) f_9 (fun _ h9 => h9) rfl dX8_copyFrom_14 ?_
  refine zz_iconst hx hb dX8_copyFrom_17 ?_
  refine zz_bipush hx hb dX8_copyFrom_18 (by decide) ?_
  refine zz_copyAll hx hb (by rw [hml]; exact hl.1.symm) hown l_39 ln_39 ls_39 li_39 (Nat.le_of_ble_eq_true rfl) (Nat.le_of_ble_eq_true rfl) hK hP hD hS 7 1 rfl rfl (by decide) rfl dX8_copyFrom_20 (fun H locs hP hD hS => ?_)
  have hP : va_P D vwCl (bShips tA a0 a1 a2 a3 a4 a5 o_cnt o_strt goal money litN darkN ++ bShips tA b0 b1 b2 b3 b4 b5 o_cnt o_strt o_goal o_money o_litN o_darkN) H := hP
  have hD : va_D A (bShips tA a0 a1 a2 a3 a4 a5 o_cnt o_strt goal money litN darkN ++ bShips tA b0 b1 b2 b3 b4 b5 o_cnt o_strt o_goal o_money o_litN o_darkN) := hD
  refine lv_aload_n hx hb dX8_copyFrom_23 rfl (lv_at hl 1 rfl) ?_
  refine va_get (D := D) (ci := 10) (v := .ref b2) (C := RX8) (T := TX8) (N := 6) hx hb hts iX8 hown hK hP 6 rfl rfl 2 (by decide) f_15 (fun _ h9 => h9) rfl dX8_copyFrom_24 ?_
  refine zz_iconst hx hb dX8_copyFrom_27 ?_
  refine lv_aload_n hx hb dX8_copyFrom_28 rfl (lv_at hl 0 rfl) ?_
  refine va_get (D := D) (ci := 10) (v := .ref a2) (C := RX8) (T := TX8) (N := 6) hx hb hts iX8 hown hK hP 0 rfl rfl 2 (by decide) f_15 (fun _ h9 => h9) rfl dX8_copyFrom_29 ?_
  refine zz_iconst hx hb dX8_copyFrom_32 ?_
  refine zz_bipush hx hb dX8_copyFrom_33 (by decide) ?_
  refine zz_copyAll hx hb (by rw [hml]; exact hl.1.symm) hown l_39 ln_39 ls_39 li_39 (Nat.le_of_ble_eq_true rfl) (Nat.le_of_ble_eq_true rfl) hK hP hD hS 8 2 rfl rfl (by decide) rfl dX8_copyFrom_35 (fun H locs hP hD hS => ?_)
  have hP : va_P D vwCl (bShips tA a0 a1 a2 a3 a4 a5 o_cnt o_strt o_goal money litN darkN ++ bShips tA b0 b1 b2 b3 b4 b5 o_cnt o_strt o_goal o_money o_litN o_darkN) H := hP
  have hD : va_D A (bShips tA a0 a1 a2 a3 a4 a5 o_cnt o_strt o_goal money litN darkN ++ bShips tA b0 b1 b2 b3 b4 b5 o_cnt o_strt o_goal o_money o_litN o_darkN) := hD
  refine lv_aload_n hx hb dX8_copyFrom_38 rfl (lv_at hl 1 rfl) ?_
  refine va_get (D := D) (ci := 10) (v := .ref b3) (C := RX8) (T := TX8) (N := 6) hx hb hts iX8 hown hK hP 6 rfl rfl 3 (by decide) f_18 (fun _ h9 => h9) rfl dX8_copyFrom_39 ?_
  refine zz_iconst hx hb dX8_copyFrom_42 ?_
  refine lv_aload_n hx hb dX8_copyFrom_43 rfl (lv_at hl 0 rfl) ?_
  refine va_get (D := D) (ci := 10) (v := .ref a3) (C := RX8) (T := TX8) (N := 6) hx hb hts iX8 hown hK hP 0 rfl rfl 3 (by decide) f_18 (fun _ h9 => h9) rfl dX8_copyFrom_44 ?_
  refine zz_iconst hx hb dX8_copyFrom_47 ?_
  refine zz_bipush hx hb dX8_copyFrom_48 (by decide) ?_
  refine zz_copyAll hx hb (by rw [hml]; exact hl.1.symm) hown l_39 ln_39 ls_39 li_39 (Nat.le_of_ble_eq_true rfl) (Nat.le_of_ble_eq_true rfl) hK hP hD hS 9 3 rfl rfl (by decide) rfl dX8_copyFrom_50 (fun H locs hP hD hS => ?_)
  have hP : va_P D vwCl (bShips tA a0 a1 a2 a3 a4 a5 o_cnt o_strt o_goal o_money litN darkN ++ bShips tA b0 b1 b2 b3 b4 b5 o_cnt o_strt o_goal o_money o_litN o_darkN) H := hP
  have hD : va_D A (bShips tA a0 a1 a2 a3 a4 a5 o_cnt o_strt o_goal o_money litN darkN ++ bShips tA b0 b1 b2 b3 b4 b5 o_cnt o_strt o_goal o_money o_litN o_darkN) := hD
  refine lv_aload_n hx hb dX8_copyFrom_53 rfl (lv_at hl 1 rfl) ?_
  refine va_get (D := D) (ci := 10) (v := .ref b4) (C := RX8) (T := TX8) (N := 6) hx hb hts iX8 hown hK hP 6 rfl rfl 4 (by decide) f_21 (fun _ h9 => h9) rfl dX8_copyFrom_54 ?_
  refine zz_iconst hx hb dX8_copyFrom_57 ?_
  refine lv_aload_n hx hb dX8_copyFrom_58 rfl (lv_at hl 0 rfl) ?_
  refine va_get (D := D) (ci := 10) (v := .ref a4) (C := RX8) (T := TX8) (N := 6) hx hb hts iX8 hown hK hP 0 rfl rfl 4 (by decide) f_21 (fun _ h9 => h9) rfl dX8_copyFrom_59 ?_
  refine zz_iconst hx hb dX8_copyFrom_62 ?_
  refine zz_bipush hx hb dX8_copyFrom_63 (by decide) ?_
  refine zz_copyAll hx hb (by rw [hml]; exact hl.1.symm) hown l_39 ln_39 ls_39 li_39 (Nat.le_of_ble_eq_true rfl) (Nat.le_of_ble_eq_true rfl) hK hP hD hS 10 4 rfl rfl (by decide) rfl dX8_copyFrom_65 (fun H locs hP hD hS => ?_)
  have hP : va_P D vwCl (bShips tA a0 a1 a2 a3 a4 a5 o_cnt o_strt o_goal o_money o_litN darkN ++ bShips tA b0 b1 b2 b3 b4 b5 o_cnt o_strt o_goal o_money o_litN o_darkN) H := hP
  have hD : va_D A (bShips tA a0 a1 a2 a3 a4 a5 o_cnt o_strt o_goal o_money o_litN darkN ++ bShips tA b0 b1 b2 b3 b4 b5 o_cnt o_strt o_goal o_money o_litN o_darkN) := hD
  refine lv_aload_n hx hb dX8_copyFrom_68 rfl (lv_at hl 1 rfl) ?_
  refine va_get (D := D) (ci := 10) (v := .ref b5) (C := RX8) (T := TX8) (N := 6) hx hb hts iX8 hown hK hP 6 rfl rfl 5 (by decide) f_24 (fun _ h9 => h9) rfl dX8_copyFrom_69 ?_
  refine zz_iconst hx hb dX8_copyFrom_72 ?_
  refine lv_aload_n hx hb dX8_copyFrom_73 rfl (lv_at hl 0 rfl) ?_
  refine va_get (D := D) (ci := 10) (v := .ref a5) (C := RX8) (T := TX8) (N := 6) hx hb hts iX8 hown hK hP 0 rfl rfl 5 (by decide) f_24 (fun _ h9 => h9) rfl dX8_copyFrom_74 ?_
  refine zz_iconst hx hb dX8_copyFrom_77 ?_
  refine zz_bipush hx hb dX8_copyFrom_78 (by decide) ?_
  refine zz_copyAll hx hb (by rw [hml]; exact hl.1.symm) hown l_39 ln_39 ls_39 li_39 (Nat.le_of_ble_eq_true rfl) (Nat.le_of_ble_eq_true rfl) hK hP hD hS 11 5 rfl rfl (by decide) rfl dX8_copyFrom_80 (fun H locs hP hD hS => ?_)
  have hP : va_P D vwCl (bShips tA a0 a1 a2 a3 a4 a5 o_cnt o_strt o_goal o_money o_litN o_darkN ++ bShips tA b0 b1 b2 b3 b4 b5 o_cnt o_strt o_goal o_money o_litN o_darkN) H := hP
  have hD : va_D A (bShips tA a0 a1 a2 a3 a4 a5 o_cnt o_strt o_goal o_money o_litN o_darkN ++ bShips tA b0 b1 b2 b3 b4 b5 o_cnt o_strt o_goal o_money o_litN o_darkN) := hD
  exact hret () _ _ _ _ dX8_copyFrom_83 True.intro hP hD hS

set_option maxHeartbeats 4000000 in
set_option maxRecDepth 100000 in
theorem c_X9_copyFrom (l : Launch) (D : va_G) (tA : Nat → ClassId) (a0 a1 a2 a3 a4 a5 a6 a7 a8 a9 a10 a11 a12 b0 b1 b2 b3 b4 b5 b6 b7 b8 b9 b10 b11 b12 : Nat) (sz : Nat) (ports : Int) (legs : Int) (lower : Int → Int) (upper : Int → Int) (leng : Int → Int) (reach : Int → Int) (meter : Int → Int) (cnt : Int) (strt : Int → Int) (goal : Int → Int) (money : Int → Int) (litN : Int → Int) (darkN : Int → Int) (rng : Int) (nights : Int) (fog : Int) (fund : Int) (refd : Int) (brt : Int) (o_ports : Int) (o_legs : Int) (o_lower : Int → Int) (o_upper : Int → Int) (o_leng : Int → Int) (o_reach : Int → Int) (o_meter : Int → Int) (o_cnt : Int) (o_strt : Int → Int) (o_goal : Int → Int) (o_money : Int → Int) (o_litN : Int → Int) (o_darkN : Int → Int) (o_rng : Int) (o_nights : Int) (o_fog : Int) (o_fund : Int) (o_refd : Int) (o_brt : Int) : zMv l yX9_copyFrom wsX9_copyFrom ({ frames := 2, cells := 0, slots := 0, locals := 61 }) D tA [.ref a0, .ref b0] (bState tA a0 a1 a2 a3 a4 a5 a6 a7 a8 a9 a10 a11 a12 ports legs lower upper leng reach meter cnt strt goal money litN darkN rng nights fog fund refd brt ++ bState tA b0 b1 b2 b3 b4 b5 b6 b7 b8 b9 b10 b11 b12 o_ports o_legs o_lower o_upper o_leng o_reach o_meter o_cnt o_strt o_goal o_money o_litN o_darkN o_rng o_nights o_fog o_fund o_refd o_brt) sz (fun (u : Unit) => True) (fun (u : Unit) => bState tA a0 a1 a2 a3 a4 a5 a6 a7 a8 a9 a10 a11 a12 o_ports o_legs o_lower o_upper o_leng o_reach o_meter o_cnt o_strt o_goal o_money o_litN o_darkN o_rng o_nights o_fog o_fund o_refd o_brt ++ bState tA b0 b1 b2 b3 b4 b5 b6 b7 b8 b9 b10 b11 b12 o_ports o_legs o_lower o_upper o_leng o_reach o_meter o_cnt o_strt o_goal o_money o_litN o_darkN o_rng o_nights o_fog o_fund o_refd o_brt) 0 0 := by
  refine zMv_of (cc := cX9_copyFrom) (maxL := 2) (by decide) rfl (Nat.le_of_ble_eq_true rfl) ?_
  intro p e s m args below meth c A Q ls hx hb hml hts hown hK hP hD hA hret hl
  obtain ⟨H, hHe⟩ : ∃ H : Heap, H = s.heap := ⟨_, rfl⟩
  have hS : va_S A s.heap H [] := by rw [hHe]; exact va_S.rf
  rw [← hHe] at hP ⊢
  have hl : lv_has ls 2 [(0, .ref a0), (1, .ref b0)] := hl
  have iX9 : ∀ v ∈ wsX90, v ∈ wsX9_copyFrom := by decide +kernel
  have f_10 := hts (.fieldLink RX9 10 "HarborLights$State" "chart" "LHarborLights$Chart;") (by decide +kernel)
  have f_19 := hts (.fieldLink RX9 19 "HarborLights$State" "ships" "LHarborLights$Ships;") (by decide +kernel)
  have f_30 := hts (.fieldLink RX9 30 "HarborLights$State" "range" "I") (by decide +kernel)
  have f_34 := hts (.fieldLink RX9 34 "HarborLights$State" "nights" "I") (by decide +kernel)
  have f_37 := hts (.fieldLink RX9 37 "HarborLights$State" "fog" "I") (by decide +kernel)
  have f_40 := hts (.fieldLink RX9 40 "HarborLights$State" "fund" "J") (by decide +kernel)
  have f_44 := hts (.fieldLink RX9 44 "HarborLights$State" "refunded" "J") (by decide +kernel)
  have f_47 := hts (.fieldLink RX9 47 "HarborLights$State" "broughtIn" "J") (by decide +kernel)
  refine lv_aload_n hx hb dX9_copyFrom_0 rfl (lv_at hl 0 rfl) ?_
  refine va_get (D := D) (ci := 11) (v := .ref a1) (C := RX9) (T := TX9) (N := 8) hx hb hts iX9 hown hK hP 0 rfl rfl 0 (by decide) f_10 (fun _ h9 => h9) rfl dX9_copyFrom_1 ?_
  refine lv_aload_n hx hb dX9_copyFrom_4 rfl (lv_at hl 1 rfl) ?_
  refine va_get (D := D) (ci := 11) (v := .ref b1) (C := RX9) (T := TX9) (N := 8) hx hb hts iX9 hown hK hP 13 rfl rfl 0 (by decide) f_10 (fun _ h9 => h9) rfl dX9_copyFrom_5 ?_
  refine zz_callVv (As := [.ref b1]) (rest := []) (wf := fun u => bState tA a0 a1 a2 a3 a4 a5 a6 a7 a8 a9 a10 a11 a12 o_ports o_legs o_lower o_upper o_leng o_reach o_meter cnt strt goal money litN darkN rng nights fog fund refd brt ++ bState tA b0 b1 b2 b3 b4 b5 b6 b7 b8 b9 b10 b11 b12 o_ports o_legs o_lower o_upper o_leng o_reach o_meter o_cnt o_strt o_goal o_money o_litN o_darkN o_rng o_nights o_fog o_fund o_refd o_brt) ⟨hx, hb, hml, hown, hts⟩ (c_X1_copyFrom l D tA a1 a2 a3 a4 a5 a6 b1 b2 b3 b4 b5 b6 H.size ports legs lower upper leng reach meter o_ports o_legs o_lower o_upper o_leng o_reach o_meter) (cwV 1 hts gX9_copyFrom_X1_copyFrom rfl rfl rfl (by decide +kernel) ⟨Nat.le_of_ble_eq_true rfl, Nat.le_of_ble_eq_true rfl⟩) hK hP hD hS hA [1, 2, 3, 4, 5, 6, 14, 15, 16, 17, 18, 19] [0, 7, 8, 9, 10, 11, 12, 13, 20, 21, 22, 23, 24, 25] [0, 14, 15, 16, 17, 18, 19, 1, 2, 3, 4, 5, 6, 7, 20, 21, 22, 23, 24, 25, 8, 9, 10, 11, 12, 13] rfl rfl (by decide) (by decide) (by decide) (by decide) (fun _ => rfl) (ci := 4) (q0 := 0) rfl rfl rfl rfl rfl hl.1 (Nat.le_of_ble_eq_true rfl) dX9_copyFrom_8 ⟨Nat.le_of_ble_eq_true rfl, Nat.le_of_ble_eq_true rfl⟩ ?_
  intro u H locs p8_1 hP hD hS
  have hP : va_P D vwCl (bState tA a0 a1 a2 a3 a4 a5 a6 a7 a8 a9 a10 a11 a12 o_ports o_legs o_lower o_upper o_leng o_reach o_meter cnt strt goal money litN darkN rng nights fog fund refd brt ++ bState tA b0 b1 b2 b3 b4 b5 b6 b7 b8 b9 b10 b11 b12 o_ports o_legs o_lower o_upper o_leng o_reach o_meter o_cnt o_strt o_goal o_money o_litN o_darkN o_rng o_nights o_fog o_fund o_refd o_brt) H := hP
  have hD : va_D A (bState tA a0 a1 a2 a3 a4 a5 a6 a7 a8 a9 a10 a11 a12 o_ports o_legs o_lower o_upper o_leng o_reach o_meter cnt strt goal money litN darkN rng nights fog fund refd brt ++ bState tA b0 b1 b2 b3 b4 b5 b6 b7 b8 b9 b10 b11 b12 o_ports o_legs o_lower o_upper o_leng o_reach o_meter o_cnt o_strt o_goal o_money o_litN o_darkN o_rng o_nights o_fog o_fund o_refd o_brt) := hD
  refine lv_aload_n hx hb dX9_copyFrom_11 rfl (lv_at hl 0 rfl) ?_
  refine va_get (D := D) (ci := 11) (v := .ref a7) (C := RX9) (T := TX9) (N := 8) hx hb hts iX9 hown hK hP 0 rfl rfl 1 (by decide) f_19 (fun _ h9 => h9) rfl dX9_copyFrom_12 ?_
  refine lv_aload_n hx hb dX9_copyFrom_15 rfl (lv_at hl 1 rfl) ?_
  refine va_get (D := D) (ci := 11) (v := .ref b7) (C := RX9) (T := TX9) (N := 8) hx hb hts iX9 hown hK hP 13 rfl rfl 1 (by decide) f_19 (fun _ h9 => h9) rfl dX9_copyFrom_16 ?_
  refine zz_callVv (As := [.ref b7]) (rest := []) (wf := fun u => bState tA a0 a1 a2 a3 a4 a5 a6 a7 a8 a9 a10 a11 a12 o_ports o_legs o_lower o_upper o_leng o_reach o_meter o_cnt o_strt o_goal o_money o_litN o_darkN rng nights fog fund refd brt ++ bState tA b0 b1 b2 b3 b4 b5 b6 b7 b8 b9 b10 b11 b12 o_ports o_legs o_lower o_upper o_leng o_reach o_meter o_cnt o_strt o_goal o_money o_litN o_darkN o_rng o_nights o_fog o_fund o_refd o_brt) ⟨hx, hb, hml, hown, hts⟩ (c_X8_copyFrom l D tA a7 a8 a9 a10 a11 a12 b7 b8 b9 b10 b11 b12 H.size cnt strt goal money litN darkN o_cnt o_strt o_goal o_money o_litN o_darkN) (cwV 1 hts gX9_copyFrom_X8_copyFrom rfl rfl rfl (by decide +kernel) ⟨Nat.le_of_ble_eq_true rfl, Nat.le_of_ble_eq_true rfl⟩) hK hP hD hS hA [7, 8, 9, 10, 11, 12, 20, 21, 22, 23, 24, 25] [0, 1, 2, 3, 4, 5, 6, 13, 14, 15, 16, 17, 18, 19] [0, 1, 2, 3, 4, 5, 6, 14, 15, 16, 17, 18, 19, 7, 8, 9, 10, 11, 12, 13, 20, 21, 22, 23, 24, 25] rfl rfl (by decide) (by decide) (by decide) (by decide) (fun _ => rfl) (ci := 10) (q0 := 0) rfl rfl rfl rfl rfl hl.1 (Nat.le_of_ble_eq_true rfl) dX9_copyFrom_19 ⟨Nat.le_of_ble_eq_true rfl, Nat.le_of_ble_eq_true rfl⟩ ?_
  intro u H locs p19_2 hP hD hS
  have hP : va_P D vwCl (bState tA a0 a1 a2 a3 a4 a5 a6 a7 a8 a9 a10 a11 a12 o_ports o_legs o_lower o_upper o_leng o_reach o_meter o_cnt o_strt o_goal o_money o_litN o_darkN rng nights fog fund refd brt ++ bState tA b0 b1 b2 b3 b4 b5 b6 b7 b8 b9 b10 b11 b12 o_ports o_legs o_lower o_upper o_leng o_reach o_meter o_cnt o_strt o_goal o_money o_litN o_darkN o_rng o_nights o_fog o_fund o_refd o_brt) H := hP
  have hD : va_D A (bState tA a0 a1 a2 a3 a4 a5 a6 a7 a8 a9 a10 a11 a12 o_ports o_legs o_lower o_upper o_leng o_reach o_meter o_cnt o_strt o_goal o_money o_litN o_darkN rng nights fog fund refd brt ++ bState tA b0 b1 b2 b3 b4 b5 b6 b7 b8 b9 b10 b11 b12 o_ports o_legs o_lower o_upper o_leng o_reach o_meter o_cnt o_strt o_goal o_money o_litN o_darkN o_rng o_nights o_fog o_fund o_refd o_brt) := hD
  refine lv_aload_n hx hb dX9_copyFrom_22 rfl (lv_at hl 0 rfl) ?_
  refine lv_aload_n hx hb dX9_copyFrom_23 rfl (lv_at hl 1 rfl) ?_
  refine va_get (D := D) (ci := 11) (v := .int (iI o_rng)) (C := RX9) (T := TX9) (N := 8) hx hb hts iX9 hown hK hP 13 rfl rfl 2 (by decide) f_30 (fun _ h9 => h9) rfl dX9_copyFrom_24 ?_
  refine va_put (D := D) (ci := 11) (v := .int (iI o_rng)) (ty := .int) (C := RX9) (T := TX9) (N := 8) hx hb hts iX9 tyX9 tyX9_ok nmX9 hown hK hP hD hS 0 rfl rfl 2 (by decide) f_30 (fun _ h9 => h9) rfl (by decide +kernel) rfl rfl (Nat.le_of_ble_eq_true rfl) dX9_copyFrom_27 (fun H locs hP hD hS => ?_)
  have hP : va_P D vwCl (bState tA a0 a1 a2 a3 a4 a5 a6 a7 a8 a9 a10 a11 a12 o_ports o_legs o_lower o_upper o_leng o_reach o_meter o_cnt o_strt o_goal o_money o_litN o_darkN o_rng nights fog fund refd brt ++ bState tA b0 b1 b2 b3 b4 b5 b6 b7 b8 b9 b10 b11 b12 o_ports o_legs o_lower o_upper o_leng o_reach o_meter o_cnt o_strt o_goal o_money o_litN o_darkN o_rng o_nights o_fog o_fund o_refd o_brt) H := hP
  have hD : va_D A (bState tA a0 a1 a2 a3 a4 a5 a6 a7 a8 a9 a10 a11 a12 o_ports o_legs o_lower o_upper o_leng o_reach o_meter o_cnt o_strt o_goal o_money o_litN o_darkN o_rng nights fog fund refd brt ++ bState tA b0 b1 b2 b3 b4 b5 b6 b7 b8 b9 b10 b11 b12 o_ports o_legs o_lower o_upper o_leng o_reach o_meter o_cnt o_strt o_goal o_money o_litN o_darkN o_rng o_nights o_fog o_fund o_refd o_brt) := hD
  refine lv_aload_n hx hb dX9_copyFrom_30 rfl (lv_at hl 0 rfl) ?_
  refine lv_aload_n hx hb dX9_copyFrom_31 rfl (lv_at hl 1 rfl) ?_
  refine va_get (D := D) (ci := 11) (v := .int (iI o_nights)) (C := RX9) (T := TX9) (N := 8) hx hb hts iX9 hown hK hP 13 rfl rfl 3 (by decide) f_34 (fun _ h9 => h9) rfl dX9_copyFrom_32 ?_
  refine va_put (D := D) (ci := 11) (v := .int (iI o_nights)) (ty := .int) (C := RX9) (T := TX9) (N := 8) hx hb hts iX9 tyX9 tyX9_ok nmX9 hown hK hP hD hS 0 rfl rfl 3 (by decide) f_34 (fun _ h9 => h9) rfl (by decide +kernel) rfl rfl (Nat.le_of_ble_eq_true rfl) dX9_copyFrom_35 (fun H locs hP hD hS => ?_)
  have hP : va_P D vwCl (bState tA a0 a1 a2 a3 a4 a5 a6 a7 a8 a9 a10 a11 a12 o_ports o_legs o_lower o_upper o_leng o_reach o_meter o_cnt o_strt o_goal o_money o_litN o_darkN o_rng o_nights fog fund refd brt ++ bState tA b0 b1 b2 b3 b4 b5 b6 b7 b8 b9 b10 b11 b12 o_ports o_legs o_lower o_upper o_leng o_reach o_meter o_cnt o_strt o_goal o_money o_litN o_darkN o_rng o_nights o_fog o_fund o_refd o_brt) H := hP
  have hD : va_D A (bState tA a0 a1 a2 a3 a4 a5 a6 a7 a8 a9 a10 a11 a12 o_ports o_legs o_lower o_upper o_leng o_reach o_meter o_cnt o_strt o_goal o_money o_litN o_darkN o_rng o_nights fog fund refd brt ++ bState tA b0 b1 b2 b3 b4 b5 b6 b7 b8 b9 b10 b11 b12 o_ports o_legs o_lower o_upper o_leng o_reach o_meter o_cnt o_strt o_goal o_money o_litN o_darkN o_rng o_nights o_fog o_fund o_refd o_brt) := hD
  refine lv_aload_n hx hb dX9_copyFrom_38 rfl (lv_at hl 0 rfl) ?_
  refine lv_aload_n hx hb dX9_copyFrom_39 rfl (lv_at hl 1 rfl) ?_
  refine va_get (D := D) (ci := 11) (v := .int (iI o_fog)) (C := RX9) (T := TX9) (N := 8) hx hb hts iX9 hown hK hP 13 rfl rfl 4 (by decide) f_37 (fun _ h9 => h9) rfl dX9_copyFrom_40 ?_
  refine va_put (D := D) (ci := 11) (v := .int (iI o_fog)) (ty := .int) (C := RX9) (T := TX9) (N := 8) hx hb hts iX9 tyX9 tyX9_ok nmX9 hown hK hP hD hS 0 rfl rfl 4 (by decide) f_37 (fun _ h9 => h9) rfl (by decide +kernel) rfl rfl (Nat.le_of_ble_eq_true rfl) dX9_copyFrom_43 (fun H locs hP hD hS => ?_)
  have hP : va_P D vwCl (bState tA a0 a1 a2 a3 a4 a5 a6 a7 a8 a9 a10 a11 a12 o_ports o_legs o_lower o_upper o_leng o_reach o_meter o_cnt o_strt o_goal o_money o_litN o_darkN o_rng o_nights o_fog fund refd brt ++ bState tA b0 b1 b2 b3 b4 b5 b6 b7 b8 b9 b10 b11 b12 o_ports o_legs o_lower o_upper o_leng o_reach o_meter o_cnt o_strt o_goal o_money o_litN o_darkN o_rng o_nights o_fog o_fund o_refd o_brt) H := hP
  have hD : va_D A (bState tA a0 a1 a2 a3 a4 a5 a6 a7 a8 a9 a10 a11 a12 o_ports o_legs o_lower o_upper o_leng o_reach o_meter o_cnt o_strt o_goal o_money o_litN o_darkN o_rng o_nights o_fog fund refd brt ++ bState tA b0 b1 b2 b3 b4 b5 b6 b7 b8 b9 b10 b11 b12 o_ports o_legs o_lower o_upper o_leng o_reach o_meter o_cnt o_strt o_goal o_money o_litN o_darkN o_rng o_nights o_fog o_fund o_refd o_brt) := hD
  refine lv_aload_n hx hb dX9_copyFrom_46 rfl (lv_at hl 0 rfl) ?_
  refine lv_aload_n hx hb dX9_copyFrom_47 rfl (lv_at hl 1 rfl) ?_
  refine va_get (D := D) (ci := 11) (v := .long (lI o_fund)) (C := RX9) (T := TX9) (N := 8) hx hb hts iX9 hown hK hP 13 rfl rfl 5 (by decide) f_40 (fun _ h9 => h9) rfl dX9_copyFrom_48 ?_
  refine va_put (D := D) (ci := 11) (v := .long (lI o_fund)) (ty := .long) (C := RX9) (T := TX9) (N := 8) hx hb hts iX9 tyX9 tyX9_ok nmX9 hown hK hP hD hS 0 rfl rfl 5 (by decide) f_40 (fun _ h9 => h9) rfl (by decide +kernel) rfl rfl (Nat.le_of_ble_eq_true rfl) dX9_copyFrom_51 (fun H locs hP hD hS => ?_)
  have hP : va_P D vwCl (bState tA a0 a1 a2 a3 a4 a5 a6 a7 a8 a9 a10 a11 a12 o_ports o_legs o_lower o_upper o_leng o_reach o_meter o_cnt o_strt o_goal o_money o_litN o_darkN o_rng o_nights o_fog o_fund refd brt ++ bState tA b0 b1 b2 b3 b4 b5 b6 b7 b8 b9 b10 b11 b12 o_ports o_legs o_lower o_upper o_leng o_reach o_meter o_cnt o_strt o_goal o_money o_litN o_darkN o_rng o_nights o_fog o_fund o_refd o_brt) H := hP
  have hD : va_D A (bState tA a0 a1 a2 a3 a4 a5 a6 a7 a8 a9 a10 a11 a12 o_ports o_legs o_lower o_upper o_leng o_reach o_meter o_cnt o_strt o_goal o_money o_litN o_darkN o_rng o_nights o_fog o_fund refd brt ++ bState tA b0 b1 b2 b3 b4 b5 b6 b7 b8 b9 b10 b11 b12 o_ports o_legs o_lower o_upper o_leng o_reach o_meter o_cnt o_strt o_goal o_money o_litN o_darkN o_rng o_nights o_fog o_fund o_refd o_brt) := hD
  refine lv_aload_n hx hb dX9_copyFrom_54 rfl (lv_at hl 0 rfl) ?_
  refine lv_aload_n hx hb dX9_copyFrom_55 rfl (lv_at hl 1 rfl) ?_
  refine va_get (D := D) (ci := 11) (v := .long (lI o_refd)) (C := RX9) (T := TX9) (N := 8) hx hb hts iX9 hown hK hP 13 rfl rfl 6 (by decide) f_44 (fun _ h9 => h9) rfl dX9_copyFrom_56 ?_
  refine va_put (D := D) (ci := 11) (v := .long (lI o_refd)) (ty := .long) (C := RX9) (T := TX9) (N := 8) hx hb hts iX9 tyX9 tyX9_ok nmX9 hown hK hP hD hS 0 rfl rfl 6 (by decide) f_44 (fun _ h9 => h9) rfl (by decide +kernel) rfl rfl (Nat.le_of_ble_eq_true rfl) dX9_copyFrom_59 (fun H locs hP hD hS => ?_)
  have hP : va_P D vwCl (bState tA a0 a1 a2 a3 a4 a5 a6 a7 a8 a9 a10 a11 a12 o_ports o_legs o_lower o_upper o_leng o_reach o_meter o_cnt o_strt o_goal o_money o_litN o_darkN o_rng o_nights o_fog o_fund o_refd brt ++ bState tA b0 b1 b2 b3 b4 b5 b6 b7 b8 b9 b10 b11 b12 o_ports o_legs o_lower o_upper o_leng o_reach o_meter o_cnt o_strt o_goal o_money o_litN o_darkN o_rng o_nights o_fog o_fund o_refd o_brt) H := hP
  have hD : va_D A (bState tA a0 a1 a2 a3 a4 a5 a6 a7 a8 a9 a10 a11 a12 o_ports o_legs o_lower o_upper o_leng o_reach o_meter o_cnt o_strt o_goal o_money o_litN o_darkN o_rng o_nights o_fog o_fund o_refd brt ++ bState tA b0 b1 b2 b3 b4 b5 b6 b7 b8 b9 b10 b11 b12 o_ports o_legs o_lower o_upper o_leng o_reach o_meter o_cnt o_strt o_goal o_money o_litN o_darkN o_rng o_nights o_fog o_fund o_refd o_brt) := hD
  refine lv_aload_n hx hb dX9_copyFrom_62 rfl (lv_at hl 0 rfl) ?_
  refine lv_aload_n hx hb dX9_copyFrom_63 rfl (lv_at hl 1 rfl) ?_
  refine va_get (D := D) (ci := 11) (v := .long (lI o_brt)) (C := RX9) (T := TX9) (N := 8) hx hb hts iX9 hown hK hP 13 rfl rfl 7 (by decide) f_47 (fun _ h9 => h9) rfl dX9_copyFrom_64 ?_
  refine va_put (D := D) (ci := 11) (v := .long (lI o_brt)) (ty := .long) (C := RX9) (T := TX9) (N := 8) hx hb hts iX9 tyX9 tyX9_ok nmX9 hown hK hP hD hS 0 rfl rfl 7 (by decide) f_47 (fun _ h9 => h9) rfl (by decide +kernel) rfl rfl (Nat.le_of_ble_eq_true rfl) dX9_copyFrom_67 (fun H locs hP hD hS => ?_)
  have hP : va_P D vwCl (bState tA a0 a1 a2 a3 a4 a5 a6 a7 a8 a9 a10 a11 a12 o_ports o_legs o_lower o_upper o_leng o_reach o_meter o_cnt o_strt o_goal o_money o_litN o_darkN o_rng o_nights o_fog o_fund o_refd o_brt ++ bState tA b0 b1 b2 b3 b4 b5 b6 b7 b8 b9 b10 b11 b12 o_ports o_legs o_lower o_upper o_leng o_reach o_meter o_cnt o_strt o_goal o_money o_litN o_darkN o_rng o_nights o_fog o_fund o_refd o_brt) H := hP
  have hD : va_D A (bState tA a0 a1 a2 a3 a4 a5 a6 a7 a8 a9 a10 a11 a12 o_ports o_legs o_lower o_upper o_leng o_reach o_meter o_cnt o_strt o_goal o_money o_litN o_darkN o_rng o_nights o_fog o_fund o_refd o_brt ++ bState tA b0 b1 b2 b3 b4 b5 b6 b7 b8 b9 b10 b11 b12 o_ports o_legs o_lower o_upper o_leng o_reach o_meter o_cnt o_strt o_goal o_money o_litN o_darkN o_rng o_nights o_fog o_fund o_refd o_brt) := hD
  exact hret () _ _ _ _ dX9_copyFrom_70 True.intro hP hD hS
