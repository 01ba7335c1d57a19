/-! ===== HarborLights.Shares ===== -/
set_option maxHeartbeats 4000000 in
set_option maxRecDepth 100000 in
theorem c_X7_cost (l : Launch) (D : va_G) (tA : Nat → ClassId) (sz : Nat) (r : Int) (r_r : -2147483648 ≤ r ∧ r ≤ 2147483647) : zMi l yX7_cost wsX7_cost ({ frames := 0, cells := 0, slots := 0, locals := 0 }) D tA [.int (iI r)] ([]) sz (fun (z : Int) (u : Unit) => (z = 60 * r * r)) (fun (u : Unit) => []) 0 0 := by
  refine zMi_of (cc := cX7_cost) (maxL := 1) (by decide) rfl (fun z u h => rfl) (Nat.le_of_ble_eq_true rfl) ?_
  intro p e s m args below meth c A Q ls hx hb hml hts hown hK hP hD hA hret hl
  obtain ⟨H, hHe⟩ : ∃ H : Heap, H = s.heap := ⟨_, rfl⟩
  have hS : va_S A s.heap H [] := by rw [hHe]; exact va_S.rf
  rw [← hHe] at hP ⊢
  have hl : lv_has ls 1 [(0, .int (iI r))] := hl
  refine zz_bipush hx hb dX7_cost_0 (by decide) ?_
  refine lv_iload_n hx hb dX7_cost_2 rfl (lv_at hl 0 rfl) ?_
  refine zz_imul hx hb dX7_cost_3 ?_
  refine lv_iload_n hx hb dX7_cost_4 rfl (lv_at hl 0 rfl) ?_
  refine zz_imul hx hb dX7_cost_5 ?_
  exact hret ((60 * r) * r) () _ _ _ _ dX7_cost_6 (show ((60 * r) * r) = 60 * r * r from by omega) hP hD hS

set_option maxHeartbeats 4000000 in
set_option maxRecDepth 100000 in
theorem c_X7_clear (l : Launch) (D : va_G) (tA : Nat → ClassId) (a0 a1 a2 a3 a4 : Nat) (sz : Nat) (tp : Int → Int) (shr : Int → Int) (need : Int → Int) (ordr : Int → Int) (size : Int) : zMv l yX7_clear wsX7_clear ({ frames := 0, cells := 0, slots := 0, locals := 0 }) D tA [.ref a0] (bShares tA a0 a1 a2 a3 a4 tp shr need ordr size) sz (fun (u : (Int → Int)) => (∀ j, 0 ≤ j → j < 6 → u j = 0)) (fun (u : (Int → Int)) => bShares tA a0 a1 a2 a3 a4 u shr need ordr size) 0 0 := by
  refine zMv_of (cc := cX7_clear) (maxL := 2) (by decide) rfl (Nat.le_of_ble_eq_true rfl) ?_
  intro p e s m args below meth c A Q ls hx hb hml hts hown hK hP hD hA hret hl
  obtain ⟨H, hHe⟩ : ∃ H : Heap, H = s.heap := ⟨_, rfl⟩
  have hS : va_S A s.heap H [] := by rw [hHe]; exact va_S.rf
  rw [← hHe] at hP ⊢
  have hl : lv_has ls 2 [(0, .ref a0)] := hl
  have iX7 : ∀ v ∈ wsX70, v ∈ wsX7_clear := by decide +kernel
  have f_9 := hts (.fieldLink RX7 9 "HarborLights$Shares" "takesPart" "[Z") (by decide +kernel)
  refine zz_iconst hx hb dX7_clear_0 ?_
  refine lv_istore_n (lv' := [(1, .int (iI 0)), (0, .ref a0)]) hx hb dX7_clear_1 rfl hl (by decide) rfl (fun ls hl => ?_)
  have L2 : ∀ (n : Nat) (i : Int) (t9 : Int → Int) (H : Heap) (locs : List Loc) (ls : Array Slot), (0 ≤ i ∧ i ≤ 6) → (∀ j, 0 ≤ j → j < i → t9 j = 0) → (6 - i).toNat < n → va_P D vwCl (bShares tA a0 a1 a2 a3 a4 t9 shr need ordr size) H → va_D A (bShares tA a0 a1 a2 a3 a4 t9 shr need ordr size) → va_S A s.heap H locs → lv_has ls 2 [(1, .int (iI i)), (0, .ref a0)] → W p l e (headSpec wsX7_clear ({ frames := 0, cells := 0, slots := 0, locals := 0 })).room s m args below meth c H locs 0 0 Q (F0 m 2 ls []) := by
    intro n
    induction n with
    | zero => intro i t9 H locs ls i0 i1 hmz; exact absurd hmz (Nat.not_lt_zero _)
    | succ n ih2 =>
      intro i t9 H locs ls i0 i1 hmz hP hD hS hl
      refine lv_iload_n hx hb dX7_clear_2 rfl (lv_at hl 0 rfl) ?_
      refine zz_bipush hx hb dX7_clear_3 (by decide) ?_
      refine zz_icmp_ge (tgt := 21) hx hb dX7_clear_5 (by decide) (by omega) (by decide) (fun c_5 => ?_) (fun c_5 => ?_)
      · exact hret t9 _ _ _ _ dX7_clear_21 (show ∀ j, 0 ≤ j → j < 6 → t9 j = 0 from by exact fun j h0 h1 => i1 j h0 (by omega)) hP hD hS
      · refine lv_aload_n hx hb dX7_clear_8 rfl (lv_at hl 1 rfl) ?_
        refine va_get (D := D) (ci := 9) (v := .ref a1) (C := RX7) (T := TX7) (N := 5) hx hb hts iX7 hown hK hP 0 rfl rfl 0 (by decide) f_9 (fun _ h9 => h9) rfl dX7_clear_9 ?_
        refine lv_iload_n hx hb dX7_clear_12 rfl (lv_at hl 0 rfl) ?_
        refine zz_iconst hx hb dX7_clear_13 ?_
        refine zz_zast hx hb hK hP hD hS 1 rfl (by decide) (by omega) (by omega) dX7_clear_14 (fun H locs hP hD hS => ?_)
        have hP : va_P D vwCl (bShares tA a0 a1 a2 a3 a4 (zU t9 i 0) shr need ordr size) H := hP
        have hD : va_D A (bShares tA a0 a1 a2 a3 a4 (zU t9 i 0) shr need ordr size) := hD
        refine zz_iinc (lv' := [(1, .int (iI (i + 1))), (0, .ref a0)]) hx hb dX7_clear_15 hl (k := 0) rfl (by decide) rfl (fun ls hl => ?_)
        refine lv_goto (tgt := 2) hx hb dX7_clear_18 (by decide) ?_
        exact ih2 (i + 1) (zU t9 i 0) _ _ _ (by omega) (by exact upd_all (P := fun _ x => x = 0) i1 rfl) (by omega) hP hD hS (lv_sub hl [0, 1] rfl)
  exact L2 _ 0 tp _ _ _ (by omega) (by exact nothing_yet) (Nat.lt_succ_self _) hP hD hS (lv_sub hl [0, 1] rfl)

set_option maxHeartbeats 4000000 in
set_option maxRecDepth 100000 in
theorem c_X7_enter (l : Launch) (D : va_G) (tA : Nat → ClassId) (a0 a1 a2 a3 a4 : Nat) (sz : Nat) (tp : Int → Int) (shr : Int → Int) (need : Int → Int) (ordr : Int → Int) (size : Int) (ship : Int) (nn : Int) (r_ship : -2147483648 ≤ ship ∧ ship ≤ 2147483647) (r_nn : -2147483648 ≤ nn ∧ nn ≤ 2147483647) (hs : 0 ≤ ship ∧ ship < 6) : zMv l yX7_enter wsX7_enter ({ frames := 0, cells := 0, slots := 0, locals := 0 }) D tA [.ref a0, .int (iI ship), .int (iI nn)] (bShares tA a0 a1 a2 a3 a4 tp shr need ordr size) sz (fun (u : Unit) => True) (fun (u : Unit) => bShares tA a0 a1 a2 a3 a4 (zU tp ship (if nn = -1 then 0 else 1)) shr (zU need ship nn) ordr size) 0 0 := by
  refine zMv_of (cc := cX7_enter) (maxL := 3) (by decide) rfl (Nat.le_of_ble_eq_true rfl) ?_
  intro p e s m args below meth c A Q ls hx hb hml hts hown hK hP hD hA hret hl
  obtain ⟨H, hHe⟩ : ∃ H : Heap, H = s.heap := ⟨_, rfl⟩
  have hS : va_S A s.heap H [] := by rw [hHe]; exact va_S.rf
  rw [← hHe] at hP ⊢
  have hl : lv_has ls 3 [(0, .ref a0), (1, .int (iI ship)), (2, .int (iI nn))] := hl
  have iX7 : ∀ v ∈ wsX70, v ∈ wsX7_enter := by decide +kernel
  have f_9 := hts (.fieldLink RX7 9 "HarborLights$Shares" "takesPart" "[Z") (by decide +kernel)
  have f_19 := hts (.fieldLink RX7 19 "HarborLights$Shares" "need" "[I") (by decide +kernel)
  refine lv_aload_n hx hb dX7_enter_0 rfl (lv_at hl 0 rfl) ?_
  refine va_get (D := D) (ci := 9) (v := .ref a3) (C := RX7) (T := TX7) (N := 5) hx hb hts iX7 hown hK hP 0 rfl rfl 2 (by decide) f_19 (fun _ h9 => h9) rfl dX7_enter_1 ?_
  refine lv_iload_n hx hb dX7_enter_4 rfl (lv_at hl 1 rfl) ?_
  refine lv_iload_n hx hb dX7_enter_5 rfl (lv_at hl 2 rfl) ?_
  refine zz_iast hx hb hK hP hD hS 3 rfl (by decide) (by omega) dX7_enter_6 (fun H locs hP hD hS => ?_)
  have hP : va_P D vwCl (bShares tA a0 a1 a2 a3 a4 tp shr (zU need ship nn) ordr size) H := hP
  have hD : va_D A (bShares tA a0 a1 a2 a3 a4 tp shr (zU need ship nn) ordr size) := hD
  refine lv_aload_n hx hb dX7_enter_7 rfl (lv_at hl 0 rfl) ?_
  refine va_get (D := D) (ci := 9) (v := .ref a1) (C := RX7) (T := TX7) (N := 5) hx hb hts iX7 hown hK hP 0 rfl rfl 0 (by decide) f_9 (fun _ h9 => h9) rfl dX7_enter_8 ?_
  refine lv_iload_n hx hb dX7_enter_11 rfl (lv_at hl 1 rfl) ?_
  refine lv_iload_n hx hb dX7_enter_12 rfl (lv_at hl 2 rfl) ?_
  refine zz_iconst hx hb dX7_enter_13 ?_
  refine zz_icmp_eq (tgt := 21) hx hb dX7_enter_14 (by decide) (by omega) (by decide) (fun c_14 => ?_) (fun c_14 => ?_)
  · refine zz_iconst hx hb dX7_enter_21 ?_
    refine zz_zast hx hb hK hP hD hS 1 rfl (by decide) (by omega) (by omega) dX7_enter_22 (fun H locs hP hD hS => ?_)
    have hP : va_P D vwCl (bShares tA a0 a1 a2 a3 a4 (zU tp ship 0) shr (zU need ship nn) ordr size) H := hP
    have hD : va_D A (bShares tA a0 a1 a2 a3 a4 (zU tp ship 0) shr (zU need ship nn) ordr size) := hD
    have e_tp : (zU tp ship 0) = (zU tp ship (if nn = -1 then 0 else 1)) := by first | rw [if_pos c_14] | rw [if_neg c_14]
    rw [e_tp] at hP hD
    exact hret () _ _ _ _ dX7_enter_23 True.intro hP hD hS
  · refine zz_iconst hx hb dX7_enter_17 ?_
    refine lv_goto (tgt := 22) hx hb dX7_enter_18 (by decide) ?_
    refine zz_zast hx hb hK hP hD hS 1 rfl (by decide) (by omega) (by omega) dX7_enter_22 (fun H locs hP hD hS => ?_)
    have hP : va_P D vwCl (bShares tA a0 a1 a2 a3 a4 (zU tp ship 1) shr (zU need ship nn) ordr size) H := hP
    have hD : va_D A (bShares tA a0 a1 a2 a3 a4 (zU tp ship 1) shr (zU need ship nn) ordr size) := hD
    have e_tp : (zU tp ship 1) = (zU tp ship (if nn = -1 then 0 else 1)) := by first | rw [if_pos c_14] | rw [if_neg c_14]
    rw [e_tp] at hP hD
    exact hret () _ _ _ _ dX7_enter_23 True.intro hP hD hS

set_option maxHeartbeats 4000000 in
set_option maxRecDepth 100000 in
theorem c_X7_greatestNeed (l : Launch) (D : va_G) (tA : Nat → ClassId) (a0 a1 a2 a3 a4 : Nat) (sz : Nat) (tp : Int → Int) (shr : Int → Int) (need : Int → Int) (ordr : Int → Int) (size : Int) (hv : TpV tp need) : zMi l yX7_greatestNeed wsX7_greatestNeed ({ frames := 0, cells := 0, slots := 0, locals := 0 }) D tA [.ref a0] (bShares tA a0 a1 a2 a3 a4 tp shr need ordr size) sz (fun (z : Int) (u : Unit) => (isGr tp need z)) (fun (u : Unit) => bShares tA a0 a1 a2 a3 a4 tp shr need ordr size) 0 0 := by
  refine zMi_of (cc := cX7_greatestNeed) (maxL := 3) (by decide) rfl (fun z u h => rfl) (Nat.le_of_ble_eq_true rfl) ?_
  intro p e s m args below meth c A Q ls hx hb hml hts hown hK hP hD hA hret hl
  obtain ⟨H, hHe⟩ : ∃ H : Heap, H = s.heap := ⟨_, rfl⟩
  have hS : va_S A s.heap H [] := by rw [hHe]; exact va_S.rf
  rw [← hHe] at hP ⊢
  have hl : lv_has ls 3 [(0, .ref a0)] := hl
  have iX7 : ∀ v ∈ wsX70, v ∈ wsX7_greatestNeed := by decide +kernel
  have f_9 := hts (.fieldLink RX7 9 "HarborLights$Shares" "takesPart" "[Z") (by decide +kernel)
  have f_19 := hts (.fieldLink RX7 19 "HarborLights$Shares" "need" "[I") (by decide +kernel)
  refine zz_iconst hx hb dX7_greatestNeed_0 ?_
  refine lv_istore_n (lv' := [(1, .int (iI 0)), (0, .ref a0)]) hx hb dX7_greatestNeed_1 rfl hl (by decide) rfl (fun ls hl => ?_)
  refine zz_iconst hx hb dX7_greatestNeed_2 ?_
  refine lv_istore_n (lv' := [(2, .int (iI 0)), (1, .int (iI 0)), (0, .ref a0)]) hx hb dX7_greatestNeed_3 rfl hl (by decide) rfl (fun ls hl => ?_)
  have L4 : ∀ (n : Nat) (i : Int) (g : Int) (H : Heap) (locs : List Loc) (ls : Array Slot), (0 ≤ i ∧ i ≤ 6) → (0 ≤ g ∧ g ≤ 20) → (GrK tp need i g) → (6 - i).toNat < n → va_P D vwCl (bShares tA a0 a1 a2 a3 a4 tp shr need ordr size) H → va_D A (bShares tA a0 a1 a2 a3 a4 tp shr need ordr size) → va_S A s.heap H locs → lv_has ls 3 [(2, .int (iI i)), (1, .int (iI g)), (0, .ref a0)] → W p l e (headSpec wsX7_greatestNeed ({ frames := 0, cells := 0, slots := 0, locals := 0 })).room s m args below meth c H locs 0 0 Q (F0 m 4 ls []) := by
    intro n
    induction n with
    | zero => intro i g H locs ls i0 ig i1 hmz; exact absurd hmz (Nat.not_lt_zero _)
    | succ n ih4 =>
      intro i g H locs ls i0 ig i1 hmz hP hD hS hl
      refine lv_iload_n hx hb dX7_greatestNeed_4 rfl (lv_at hl 0 rfl) ?_
      refine zz_bipush hx hb dX7_greatestNeed_5 (by decide) ?_
      refine zz_icmp_ge (tgt := 42) hx hb dX7_greatestNeed_7 (by decide) (by omega) (by decide) (fun c_7 => ?_) (fun c_7 => ?_)
      · refine lv_iload_n hx hb dX7_greatestNeed_42 rfl (lv_at hl 1 rfl) ?_
        exact hret g () _ _ _ _ dX7_greatestNeed_43 (show isGr tp need g from by exact ⟨i1.1, i1.2.1, fun j h0 h1 => i1.2.2.1 j h0 (by omega), i1.2.2.2⟩) hP hD hS
      · refine lv_aload_n hx hb dX7_greatestNeed_10 rfl (lv_at hl 2 rfl) ?_
        refine va_get (D := D) (ci := 9) (v := .ref a1) (C := RX7) (T := TX7) (N := 5) hx hb hts iX7 hown hK hP 0 rfl rfl 0 (by decide) f_9 (fun _ h9 => h9) rfl dX7_greatestNeed_11 ?_
        refine lv_iload_n hx hb dX7_greatestNeed_14 rfl (lv_at hl 0 rfl) ?_
        refine zz_zald hx hb hK hP 1 rfl (by decide) (by omega) dX7_greatestNeed_15 ?_
        have r_15 := hv.1 i (by omega) (by omega)
        refine zz_if_eq (tgt := 36) hx hb dX7_greatestNeed_16 (by decide) (by omega) (fun c_16 => ?_) (fun c_16 => ?_)
        · refine zz_iinc (lv' := [(2, .int (iI (i + 1))), (1, .int (iI g)), (0, .ref a0)]) hx hb dX7_greatestNeed_36 hl (k := 0) rfl (by decide) rfl (fun ls hl => ?_)
          refine lv_goto (tgt := 4) hx hb dX7_greatestNeed_39 (by decide) ?_
          exact ih4 (i + 1) g _ _ _ (by omega) (by omega) (by first | exact GrK_take hv (by omega) i1 (by omega) (by omega) | exact GrK_keep i1 (fun h => by omega)) (by omega) hP hD hS (lv_sub hl [0, 1, 2] rfl)
        · refine lv_aload_n hx hb dX7_greatestNeed_19 rfl (lv_at hl 2 rfl) ?_
          refine va_get (D := D) (ci := 9) (v := .ref a3) (C := RX7) (T := TX7) (N := 5) hx hb hts iX7 hown hK hP 0 rfl rfl 2 (by decide) f_19 (fun _ h9 => h9) rfl dX7_greatestNeed_20 ?_
          refine lv_iload_n hx hb dX7_greatestNeed_23 rfl (lv_at hl 0 rfl) ?_
          refine zz_iald hx hb hK hP 3 rfl (by decide) (by omega) dX7_greatestNeed_24 ?_
          have r_24 := hv.2 i (by omega) (by omega) (by omega)
          refine lv_iload_n hx hb dX7_greatestNeed_25 rfl (lv_at hl 1 rfl) ?_
          refine zz_icmp_le (tgt := 36) hx hb dX7_greatestNeed_26 (by decide) (by omega) (by omega) (fun c_26 => ?_) (fun c_26 => ?_)
          · refine zz_iinc (lv' := [(2, .int (iI (i + 1))), (1, .int (iI g)), (0, .ref a0)]) hx hb dX7_greatestNeed_36 hl (k := 0) rfl (by decide) rfl (fun ls hl => ?_)
            refine lv_goto (tgt := 4) hx hb dX7_greatestNeed_39 (by decide) ?_
            exact ih4 (i + 1) g _ _ _ (by omega) (by omega) (by first | exact GrK_take hv (by omega) i1 (by omega) (by omega) | exact GrK_keep i1 (fun h => by omega)) (by omega) hP hD hS (lv_sub hl [0, 1, 2] rfl)
          · refine lv_aload_n hx hb dX7_greatestNeed_29 rfl (lv_at hl 2 rfl) ?_
            refine va_get (D := D) (ci := 9) (v := .ref a3) (C := RX7) (T := TX7) (N := 5) hx hb hts iX7 hown hK hP 0 rfl rfl 2 (by decide) f_19 (fun _ h9 => h9) rfl dX7_greatestNeed_30 ?_
            refine lv_iload_n hx hb dX7_greatestNeed_33 rfl (lv_at hl 0 rfl) ?_
            refine zz_iald hx hb hK hP 3 rfl (by decide) (by omega) dX7_greatestNeed_34 ?_
            have r_34 := hv.2 i (by omega) (by omega) (by omega)
            refine lv_istore_n (lv' := [(1, .int (iI (need i))), (2, .int (iI i)), (0, .ref a0)]) hx hb dX7_greatestNeed_35 rfl hl (by decide) rfl (fun ls hl => ?_)
            refine zz_iinc (lv' := [(2, .int (iI (i + 1))), (1, .int (iI (need i))), (0, .ref a0)]) hx hb dX7_greatestNeed_36 hl (k := 1) rfl (by decide) rfl (fun ls hl => ?_)
            refine lv_goto (tgt := 4) hx hb dX7_greatestNeed_39 (by decide) ?_
            exact ih4 (i + 1) (need i) _ _ _ (by omega) (by omega) (by first | exact GrK_take hv (by omega) i1 (by omega) (by omega) | exact GrK_keep i1 (fun h => by omega)) (by omega) hP hD hS (lv_sub hl [0, 1, 2] rfl)
  exact L4 _ 0 0 _ _ _ (by omega) (by omega) (by exact GrK_0) (Nat.lt_succ_self _) hP hD hS (lv_sub hl [0, 1, 2] rfl)

set_option maxHeartbeats 4000000 in
set_option maxRecDepth 100000 in
theorem c_X7_leastNeedAbove (l : Launch) (D : va_G) (tA : Nat → ClassId) (a0 a1 a2 a3 a4 : Nat) (sz : Nat) (tp : Int → Int) (shr : Int → Int) (need : Int → Int) (ordr : Int → Int) (size : Int) (paid : Int) (gr : Int) (r_paid : -2147483648 ≤ paid ∧ paid ≤ 2147483647) (r_gr : -2147483648 ≤ gr ∧ gr ≤ 2147483647) (hv : TpV tp need) (hg : isGr tp need gr) (hp : 0 ≤ paid ∧ paid < gr) : zMi l yX7_leastNeedAbove wsX7_leastNeedAbove ({ frames := 0, cells := 0, slots := 0, locals := 0 }) D tA [.ref a0, .int (iI paid), .int (iI gr)] (bShares tA a0 a1 a2 a3 a4 tp shr need ordr size) sz (fun (z : Int) (u : Unit) => (isNx tp need paid z) ∧ (z ≤ gr)) (fun (u : Unit) => bShares tA a0 a1 a2 a3 a4 tp shr need ordr size) 0 0 := by
  refine zMi_of (cc := cX7_leastNeedAbove) (maxL := 5) (by decide) rfl (fun z u h => rfl) (Nat.le_of_ble_eq_true rfl) ?_
  intro p e s m args below meth c A Q ls hx hb hml hts hown hK hP hD hA hret hl
  obtain ⟨H, hHe⟩ : ∃ H : Heap, H = s.heap := ⟨_, rfl⟩
  have hS : va_S A s.heap H [] := by rw [hHe]; exact va_S.rf
  rw [← hHe] at hP ⊢
  have hl : lv_has ls 5 [(0, .ref a0), (1, .int (iI paid)), (2, .int (iI gr))] := hl
  have iX7 : ∀ v ∈ wsX70, v ∈ wsX7_leastNeedAbove := by decide +kernel
  have f_9 := hts (.fieldLink RX7 9 "HarborLights$Shares" "takesPart" "[Z") (by decide +kernel)
  have f_19 := hts (.fieldLink RX7 19 "HarborLights$Shares" "need" "[I") (by decide +kernel)
  have hgr := hg.2.1
  refine lv_iload_n hx hb dX7_leastNeedAbove_0 rfl (lv_at hl 2 rfl) ?_
  refine lv_istore_n (lv' := [(3, .int (iI gr)), (0, .ref a0), (1, .int (iI paid)), (2, .int (iI gr))]) hx hb dX7_leastNeedAbove_1 rfl hl (by decide) rfl (fun ls hl => ?_)
  refine zz_iconst hx hb dX7_leastNeedAbove_2 ?_
  refine lv_istore (lv' := [(4, .int (iI 0)), (3, .int (iI gr)), (0, .ref a0), (1, .int (iI paid)), (2, .int (iI gr))]) hx hb dX7_leastNeedAbove_3 hl (by decide) rfl (fun ls hl => ?_)
  have L5 : ∀ (n : Nat) (i : Int) (x : Int) (H : Heap) (locs : List Loc) (ls : Array Slot), (0 ≤ i ∧ i ≤ 6) → (paid < x ∧ x ≤ gr) → (NxK tp need paid gr i x) → (6 - i).toNat < n → va_P D vwCl (bShares tA a0 a1 a2 a3 a4 tp shr need ordr size) H → va_D A (bShares tA a0 a1 a2 a3 a4 tp shr need ordr size) → va_S A s.heap H locs → lv_has ls 5 [(4, .int (iI i)), (3, .int (iI x)), (0, .ref a0), (1, .int (iI paid)), (2, .int (iI gr))] → W p l e (headSpec wsX7_leastNeedAbove ({ frames := 0, cells := 0, slots := 0, locals := 0 })).room s m args below meth c H locs 0 0 Q (F0 m 5 ls []) := by
    intro n
    induction n with
    | zero => intro i x H locs ls i0 ix i1 hmz; exact absurd hmz (Nat.not_lt_zero _)
    | succ n ih5 =>
      intro i x H locs ls i0 ix i1 hmz hP hD hS hl
      refine lv_iload hx hb dX7_leastNeedAbove_5 (lv_at hl 0 rfl) ?_
      refine zz_bipush hx hb dX7_leastNeedAbove_7 (by decide) ?_
      refine zz_icmp_ge (tgt := 58) hx hb dX7_leastNeedAbove_9 (by decide) (by omega) (by decide) (fun c_9 => ?_) (fun c_9 => ?_)
      · refine lv_iload_n hx hb dX7_leastNeedAbove_58 rfl (lv_at hl 1 rfl) ?_
        exact hret x () _ _ _ _ dX7_leastNeedAbove_59 ⟨(show isNx tp need paid x from by exact ⟨i1.1, fun j h0 h1 => i1.2.2.1 j h0 (by omega), i1.2.2.2⟩), (show x ≤ gr from by omega)⟩ hP hD hS
      · refine lv_aload_n hx hb dX7_leastNeedAbove_12 rfl (lv_at hl 2 rfl) ?_
        refine va_get (D := D) (ci := 9) (v := .ref a1) (C := RX7) (T := TX7) (N := 5) hx hb hts iX7 hown hK hP 0 rfl rfl 0 (by decide) f_9 (fun _ h9 => h9) rfl dX7_leastNeedAbove_13 ?_
        refine lv_iload hx hb dX7_leastNeedAbove_16 (lv_at hl 0 rfl) ?_
        refine zz_zald hx hb hK hP 1 rfl (by decide) (by omega) dX7_leastNeedAbove_18 ?_
        have r_18 := hv.1 i (by omega) (by omega)
        refine zz_if_eq (tgt := 52) hx hb dX7_leastNeedAbove_19 (by decide) (by omega) (fun c_19 => ?_) (fun c_19 => ?_)
        · refine zz_iinc (lv' := [(4, .int (iI (i + 1))), (3, .int (iI x)), (0, .ref a0), (1, .int (iI paid)), (2, .int (iI gr))]) hx hb dX7_leastNeedAbove_52 hl (k := 0) rfl (by decide) rfl (fun ls hl => ?_)
          refine lv_goto (tgt := 5) hx hb dX7_leastNeedAbove_55 (by decide) ?_
          exact ih5 (i + 1) x _ _ _ (by omega) (by omega) (by first | exact NxK_take (by omega) i1 (by omega) (by omega) (by omega) | exact NxK_keep i1 (fun h => by omega)) (by omega) hP hD hS (lv_sub hl [0, 1, 2, 3, 4] rfl)
        · refine lv_aload_n hx hb dX7_leastNeedAbove_22 rfl (lv_at hl 2 rfl) ?_
          refine va_get (D := D) (ci := 9) (v := .ref a3) (C := RX7) (T := TX7) (N := 5) hx hb hts iX7 hown hK hP 0 rfl rfl 2 (by decide) f_19 (fun _ h9 => h9) rfl dX7_leastNeedAbove_23 ?_
          refine lv_iload hx hb dX7_leastNeedAbove_26 (lv_at hl 0 rfl) ?_
          refine zz_iald hx hb hK hP 3 rfl (by decide) (by omega) dX7_leastNeedAbove_28 ?_
          have r_28 := hv.2 i (by omega) (by omega) (by omega)
          refine lv_iload_n hx hb dX7_leastNeedAbove_29 rfl (lv_at hl 3 rfl) ?_
          refine zz_icmp_le (tgt := 52) hx hb dX7_leastNeedAbove_30 (by decide) (by omega) (by omega) (fun c_30 => ?_) (fun c_30 => ?_)
          · refine zz_iinc (lv' := [(4, .int (iI (i + 1))), (3, .int (iI x)), (0, .ref a0), (1, .int (iI paid)), (2, .int (iI gr))]) hx hb dX7_leastNeedAbove_52 hl (k := 0) rfl (by decide) rfl (fun ls hl => ?_)
            refine lv_goto (tgt := 5) hx hb dX7_leastNeedAbove_55 (by decide) ?_
            exact ih5 (i + 1) x _ _ _ (by omega) (by omega) (by first | exact NxK_take (by omega) i1 (by omega) (by omega) (by omega) | exact NxK_keep i1 (fun h => by omega)) (by omega) hP hD hS (lv_sub hl [0, 1, 2, 3, 4] rfl)
          · refine lv_aload_n hx hb dX7_leastNeedAbove_33 rfl (lv_at hl 2 rfl) ?_
            refine va_get (D := D) (ci := 9) (v := .ref a3) (C := RX7) (T := TX7) (N := 5) hx hb hts iX7 hown hK hP 0 rfl rfl 2 (by decide) f_19 (fun _ h9 => h9) rfl dX7_leastNeedAbove_34 ?_
            refine lv_iload hx hb dX7_leastNeedAbove_37 (lv_at hl 0 rfl) ?_
            refine zz_iald hx hb hK hP 3 rfl (by decide) (by omega) dX7_leastNeedAbove_39 ?_
            have r_39 := hv.2 i (by omega) (by omega) (by omega)
            refine lv_iload_n hx hb dX7_leastNeedAbove_40 rfl (lv_at hl 1 rfl) ?_
            refine zz_icmp_ge (tgt := 52) hx hb dX7_leastNeedAbove_41 (by decide) (by omega) (by omega) (fun c_41 => ?_) (fun c_41 => ?_)
            · refine zz_iinc (lv' := [(4, .int (iI (i + 1))), (3, .int (iI x)), (0, .ref a0), (1, .int (iI paid)), (2, .int (iI gr))]) hx hb dX7_leastNeedAbove_52 hl (k := 0) rfl (by decide) rfl (fun ls hl => ?_)
              refine lv_goto (tgt := 5) hx hb dX7_leastNeedAbove_55 (by decide) ?_
              exact ih5 (i + 1) x _ _ _ (by omega) (by omega) (by first | exact NxK_take (by omega) i1 (by omega) (by omega) (by omega) | exact NxK_keep i1 (fun h => by omega)) (by omega) hP hD hS (lv_sub hl [0, 1, 2, 3, 4] rfl)
            · refine lv_aload_n hx hb dX7_leastNeedAbove_44 rfl (lv_at hl 2 rfl) ?_
              refine va_get (D := D) (ci := 9) (v := .ref a3) (C := RX7) (T := TX7) (N := 5) hx hb hts iX7 hown hK hP 0 rfl rfl 2 (by decide) f_19 (fun _ h9 => h9) rfl dX7_leastNeedAbove_45 ?_
              refine lv_iload hx hb dX7_leastNeedAbove_48 (lv_at hl 0 rfl) ?_
              refine zz_iald hx hb hK hP 3 rfl (by decide) (by omega) dX7_leastNeedAbove_50 ?_
              have r_50 := hv.2 i (by omega) (by omega) (by omega)
              refine lv_istore_n (lv' := [(3, .int (iI (need i))), (4, .int (iI i)), (0, .ref a0), (1, .int (iI paid)), (2, .int (iI gr))]) hx hb dX7_leastNeedAbove_51 rfl hl (by decide) rfl (fun ls hl => ?_)
              refine zz_iinc (lv' := [(4, .int (iI (i + 1))), (3, .int (iI (need i))), (0, .ref a0), (1, .int (iI paid)), (2, .int (iI gr))]) hx hb dX7_leastNeedAbove_52 hl (k := 1) rfl (by decide) rfl (fun ls hl => ?_)
              refine lv_goto (tgt := 5) hx hb dX7_leastNeedAbove_55 (by decide) ?_
              exact ih5 (i + 1) (need i) _ _ _ (by omega) (by omega) (by first | exact NxK_take (by omega) i1 (by omega) (by omega) (by omega) | exact NxK_keep i1 (fun h => by omega)) (by omega) hP hD hS (lv_sub hl [0, 1, 2, 3, 4] rfl)
  exact L5 _ 0 gr _ _ _ (by omega) (by omega) (by exact NxK_0 hg (by omega) (by omega)) (Nat.lt_succ_self _) hP hD hS (lv_sub hl [0, 1, 2, 3, 4] rfl)

set_option maxHeartbeats 4000000 in
set_option maxRecDepth 100000 in
theorem c_X7_countNeeding (l : Launch) (D : va_G) (tA : Nat → ClassId) (a0 a1 a2 a3 a4 : Nat) (sz : Nat) (tp : Int → Int) (shr : Int → Int) (need : Int → Int) (ordr : Int → Int) (size : Int) (rg : Int) (r_rg : -2147483648 ≤ rg ∧ rg ≤ 2147483647) (hv : TpV tp need) : zMi l yX7_countNeeding wsX7_countNeeding ({ frames := 0, cells := 0, slots := 0, locals := 0 }) D tA [.ref a0, .int (iI rg)] (bShares tA a0 a1 a2 a3 a4 tp shr need ordr size) sz (fun (z : Int) (u : Unit) => (z = cntN tp need rg)) (fun (u : Unit) => bShares tA a0 a1 a2 a3 a4 tp shr need ordr size) 0 0 := by
  refine zMi_of (cc := cX7_countNeeding) (maxL := 4) (by decide) rfl (fun z u h => rfl) (Nat.le_of_ble_eq_true rfl) ?_
  intro p e s m args below meth c A Q ls hx hb hml hts hown hK hP hD hA hret hl
  obtain ⟨H, hHe⟩ : ∃ H : Heap, H = s.heap := ⟨_, rfl⟩
  have hS : va_S A s.heap H [] := by rw [hHe]; exact va_S.rf
  rw [← hHe] at hP ⊢
  have hl : lv_has ls 4 [(0, .ref a0), (1, .int (iI rg))] := hl
  have iX7 : ∀ v ∈ wsX70, v ∈ wsX7_countNeeding := by decide +kernel
  have f_9 := hts (.fieldLink RX7 9 "HarborLights$Shares" "takesPart" "[Z") (by decide +kernel)
  have f_19 := hts (.fieldLink RX7 19 "HarborLights$Shares" "need" "[I") (by decide +kernel)
  refine zz_iconst hx hb dX7_countNeeding_0 ?_
  refine lv_istore_n (lv' := [(2, .int (iI 0)), (0, .ref a0), (1, .int (iI rg))]) hx hb dX7_countNeeding_1 rfl hl (by decide) rfl (fun ls hl => ?_)
  refine zz_iconst hx hb dX7_countNeeding_2 ?_
  refine lv_istore_n (lv' := [(3, .int (iI 0)), (2, .int (iI 0)), (0, .ref a0), (1, .int (iI rg))]) hx hb dX7_countNeeding_3 rfl hl (by decide) rfl (fun ls hl => ?_)
  have L4 : ∀ (n : Nat) (i : Int) (k : Int) (H : Heap) (locs : List Loc) (ls : Array Slot), (0 ≤ i ∧ i ≤ 6) → (k = sm (fun j => if tp j = 1 ∧ rg ≤ need j then 1 else 0) i.toNat) → (6 - i).toNat < n → va_P D vwCl (bShares tA a0 a1 a2 a3 a4 tp shr need ordr size) H → va_D A (bShares tA a0 a1 a2 a3 a4 tp shr need ordr size) → va_S A s.heap H locs → lv_has ls 4 [(3, .int (iI i)), (2, .int (iI k)), (0, .ref a0), (1, .int (iI rg))] → W p l e (headSpec wsX7_countNeeding ({ frames := 0, cells := 0, slots := 0, locals := 0 })).room s m args below meth c H locs 0 0 Q (F0 m 4 ls []) := by
    intro n
    induction n with
    | zero => intro i k H locs ls i0 i1 hmz; exact absurd hmz (Nat.not_lt_zero _)
    | succ n ih4 =>
      intro i k H locs ls i0 i1 hmz hP hD hS hl
      refine lv_iload_n hx hb dX7_countNeeding_4 rfl (lv_at hl 0 rfl) ?_
      refine zz_bipush hx hb dX7_countNeeding_5 (by decide) ?_
      refine zz_icmp_ge (tgt := 38) hx hb dX7_countNeeding_7 (by decide) (by omega) (by decide) (fun c_7 => ?_) (fun c_7 => ?_)
      · refine lv_iload_n hx hb dX7_countNeeding_38 rfl (lv_at hl 1 rfl) ?_
        exact hret k () _ _ _ _ dX7_countNeeding_39 (show k = cntN tp need rg from by rw [i1, show i = 6 by omega]; rfl) hP hD hS
      · refine lv_aload_n hx hb dX7_countNeeding_10 rfl (lv_at hl 2 rfl) ?_
        refine va_get (D := D) (ci := 9) (v := .ref a1) (C := RX7) (T := TX7) (N := 5) hx hb hts iX7 hown hK hP 0 rfl rfl 0 (by decide) f_9 (fun _ h9 => h9) rfl dX7_countNeeding_11 ?_
        refine lv_iload_n hx hb dX7_countNeeding_14 rfl (lv_at hl 0 rfl) ?_
        refine zz_zald hx hb hK hP 1 rfl (by decide) (by omega) dX7_countNeeding_15 ?_
        have r_15 := hv.1 i (by omega) (by omega)
        refine zz_if_eq (tgt := 32) hx hb dX7_countNeeding_16 (by decide) (by omega) (fun c_16 => ?_) (fun c_16 => ?_)
        · refine zz_iinc (lv' := [(3, .int (iI (i + 1))), (2, .int (iI k)), (0, .ref a0), (1, .int (iI rg))]) hx hb dX7_countNeeding_32 hl (k := 0) rfl (by decide) rfl (fun ls hl => ?_)
          refine lv_goto (tgt := 4) hx hb dX7_countNeeding_35 (by decide) ?_
          exact ih4 (i + 1) k _ _ _ (by omega) (by rw [i1]; first | exact sm_next1 (by omega) (if_pos (by omega)) | exact sm_next0 (by omega) (if_neg (by omega))) (by omega) hP hD hS (lv_sub hl [0, 1, 2, 3] rfl)
        · refine lv_aload_n hx hb dX7_countNeeding_19 rfl (lv_at hl 2 rfl) ?_
          refine va_get (D := D) (ci := 9) (v := .ref a3) (C := RX7) (T := TX7) (N := 5) hx hb hts iX7 hown hK hP 0 rfl rfl 2 (by decide) f_19 (fun _ h9 => h9) rfl dX7_countNeeding_20 ?_
          refine lv_iload_n hx hb dX7_countNeeding_23 rfl (lv_at hl 0 rfl) ?_
          refine zz_iald hx hb hK hP 3 rfl (by decide) (by omega) dX7_countNeeding_24 ?_
          have r_24 := hv.2 i (by omega) (by omega) (by omega)
          refine lv_iload_n hx hb dX7_countNeeding_25 rfl (lv_at hl 3 rfl) ?_
          refine zz_icmp_lt (tgt := 32) hx hb dX7_countNeeding_26 (by decide) (by omega) (by omega) (fun c_26 => ?_) (fun c_26 => ?_)
          · refine zz_iinc (lv' := [(3, .int (iI (i + 1))), (2, .int (iI k)), (0, .ref a0), (1, .int (iI rg))]) hx hb dX7_countNeeding_32 hl (k := 0) rfl (by decide) rfl (fun ls hl => ?_)
            refine lv_goto (tgt := 4) hx hb dX7_countNeeding_35 (by decide) ?_
            exact ih4 (i + 1) k _ _ _ (by omega) (by rw [i1]; first | exact sm_next1 (by omega) (if_pos (by omega)) | exact sm_next0 (by omega) (if_neg (by omega))) (by omega) hP hD hS (lv_sub hl [0, 1, 2, 3] rfl)
          · refine zz_iinc (lv' := [(2, .int (iI (k + 1))), (3, .int (iI i)), (0, .ref a0), (1, .int (iI rg))]) hx hb dX7_countNeeding_29 hl (k := 1) rfl (by decide) rfl (fun ls hl => ?_)
            refine zz_iinc (lv' := [(3, .int (iI (i + 1))), (2, .int (iI (k + 1))), (0, .ref a0), (1, .int (iI rg))]) hx hb dX7_countNeeding_32 hl (k := 1) rfl (by decide) rfl (fun ls hl => ?_)
            refine lv_goto (tgt := 4) hx hb dX7_countNeeding_35 (by decide) ?_
            exact ih4 (i + 1) (k + 1) _ _ _ (by omega) (by rw [i1]; first | exact sm_next1 (by omega) (if_pos (by omega)) | exact sm_next0 (by omega) (if_neg (by omega))) (by omega) hP hD hS (lv_sub hl [0, 1, 2, 3] rfl)
  exact L4 _ 0 0 _ _ _ (by omega) (by rfl) (Nat.lt_succ_self _) hP hD hS (lv_sub hl [0, 1, 2, 3] rfl)

set_option maxHeartbeats 4000000 in
set_option maxRecDepth 100000 in
theorem c_X7_addToShares (l : Launch) (D : va_G) (tA : Nat → ClassId) (a0 a1 a2 a3 a4 : Nat) (sz : Nat) (tp : Int → Int) (shr : Int → Int) (need : Int → Int) (ordr : Int → Int) (size : Int) (rg : Int) (part : Int) (r_rg : -2147483648 ≤ rg ∧ rg ≤ 2147483647) (r_part : -2147483648 ≤ part ∧ part ≤ 2147483647) (hv : TpV tp need) : zMv l yX7_addToShares wsX7_addToShares ({ frames := 0, cells := 0, slots := 0, locals := 0 }) D tA [.ref a0, .int (iI rg), .int (iI part)] (bShares tA a0 a1 a2 a3 a4 tp shr need ordr size) sz (fun (u : (Int → Int)) => (∀ j, 0 ≤ j → j < 6 → u j = if tp j = 1 ∧ rg ≤ need j then shr j + part else shr j)) (fun (u : (Int → Int)) => bShares tA a0 a1 a2 a3 a4 tp u need ordr size) 0 0 := by
  refine zMv_of (cc := cX7_addToShares) (maxL := 4) (by decide) rfl (Nat.le_of_ble_eq_true rfl) ?_
  intro p e s m args below meth c A Q ls hx hb hml hts hown hK hP hD hA hret hl
  obtain ⟨H, hHe⟩ : ∃ H : Heap, H = s.heap := ⟨_, rfl⟩
  have hS : va_S A s.heap H [] := by rw [hHe]; exact va_S.rf
  rw [← hHe] at hP ⊢
  have hl : lv_has ls 4 [(0, .ref a0), (1, .int (iI rg)), (2, .int (iI part))] := hl
  have iX7 : ∀ v ∈ wsX70, v ∈ wsX7_addToShares := by decide +kernel
  have f_9 := hts (.fieldLink RX7 9 "HarborLights$Shares" "takesPart" "[Z") (by decide +kernel)
  have f_15 := hts (.fieldLink RX7 15 "HarborLights$Shares" "share" "[I") (by decide +kernel)
  have f_19 := hts (.fieldLink RX7 19 "HarborLights$Shares" "need" "[I") (by decide +kernel)
  refine zz_iconst hx hb dX7_addToShares_0 ?_
  refine lv_istore_n (lv' := [(3, .int (iI 0)), (0, .ref a0), (1, .int (iI rg)), (2, .int (iI part))]) hx hb dX7_addToShares_1 rfl hl (by decide) rfl (fun ls hl => ?_)
  have L2 : ∀ (n : Nat) (i : Int) (s9 : Int → Int) (H : Heap) (locs : List Loc) (ls : Array Slot), (0 ≤ i ∧ i ≤ 6) → (∀ j, 0 ≤ j → j < i → s9 j = if tp j = 1 ∧ rg ≤ need j then shr j + part else shr j) → (∀ j, i ≤ j → j < 6 → s9 j = shr j) → (6 - i).toNat < n → va_P D vwCl (bShares tA a0 a1 a2 a3 a4 tp s9 need ordr size) H → va_D A (bShares tA a0 a1 a2 a3 a4 tp s9 need ordr size) → va_S A s.heap H locs → lv_has ls 4 [(3, .int (iI i)), (0, .ref a0), (1, .int (iI rg)), (2, .int (iI part))] → W p l e (headSpec wsX7_addToShares ({ frames := 0, cells := 0, slots := 0, locals := 0 })).room s m args below meth c H locs 0 0 Q (F0 m 2 ls []) := by
    intro n
    induction n with
    | zero => intro i s9 H locs ls i0 i1 i2 hmz; exact absurd hmz (Nat.not_lt_zero _)
    | succ n ih2 =>
      intro i s9 H locs ls i0 i1 i2 hmz hP hD hS hl
      refine lv_iload_n hx hb dX7_addToShares_2 rfl (lv_at hl 0 rfl) ?_
      refine zz_bipush hx hb dX7_addToShares_3 (by decide) ?_
      refine zz_icmp_ge (tgt := 43) hx hb dX7_addToShares_5 (by decide) (by omega) (by decide) (fun c_5 => ?_) (fun c_5 => ?_)
      · exact hret s9 _ _ _ _ dX7_addToShares_43 (show ∀ j, 0 ≤ j → j < 6 → s9 j = if tp j = 1 ∧ rg ≤ need j then shr j + part else shr j from by exact fun j h0 h1 => i1 j h0 (by omega)) hP hD hS
      · refine lv_aload_n hx hb dX7_addToShares_8 rfl (lv_at hl 1 rfl) ?_
        refine va_get (D := D) (ci := 9) (v := .ref a1) (C := RX7) (T := TX7) (N := 5) hx hb hts iX7 hown hK hP 0 rfl rfl 0 (by decide) f_9 (fun _ h9 => h9) rfl dX7_addToShares_9 ?_
        refine lv_iload_n hx hb dX7_addToShares_12 rfl (lv_at hl 0 rfl) ?_
        refine zz_zald hx hb hK hP 1 rfl (by decide) (by omega) dX7_addToShares_13 ?_
        have r_13 := hv.1 i (by omega) (by omega)
        refine zz_if_eq (tgt := 37) hx hb dX7_addToShares_14 (by decide) (by omega) (fun c_14 => ?_) (fun c_14 => ?_)
        · refine zz_iinc (lv' := [(3, .int (iI (i + 1))), (0, .ref a0), (1, .int (iI rg)), (2, .int (iI part))]) hx hb dX7_addToShares_37 hl (k := 0) rfl (by decide) rfl (fun ls hl => ?_)
          refine lv_goto (tgt := 2) hx hb dX7_addToShares_40 (by decide) ?_
          exact ih2 (i + 1) s9 _ _ _ (by omega) (by first | exact upd_all (P := fun j x => x = if tp j = 1 ∧ rg ≤ need j then shr j + part else shr j) i1 (by rw [if_pos (by omega), i2 i (by omega) (by omega)]) | exact upd_keep (P := fun j x => x = if tp j = 1 ∧ rg ≤ need j then shr j + part else shr j) i1 (by rw [if_neg (by omega)]; exact i2 i (by omega) (by omega))) (by intro j h0 h1; first | (rw [zU_ne (by omega)]; exact i2 j (by omega) h1) | exact i2 j (by omega) h1) (by omega) hP hD hS (lv_sub hl [0, 1, 2, 3] rfl)
        · refine lv_aload_n hx hb dX7_addToShares_17 rfl (lv_at hl 1 rfl) ?_
          refine va_get (D := D) (ci := 9) (v := .ref a3) (C := RX7) (T := TX7) (N := 5) hx hb hts iX7 hown hK hP 0 rfl rfl 2 (by decide) f_19 (fun _ h9 => h9) rfl dX7_addToShares_18 ?_
          refine lv_iload_n hx hb dX7_addToShares_21 rfl (lv_at hl 0 rfl) ?_
          refine zz_iald hx hb hK hP 3 rfl (by decide) (by omega) dX7_addToShares_22 ?_
          have r_22 := hv.2 i (by omega) (by omega) (by omega)
          refine lv_iload_n hx hb dX7_addToShares_23 rfl (lv_at hl 2 rfl) ?_
          refine zz_icmp_lt (tgt := 37) hx hb dX7_addToShares_24 (by decide) (by omega) (by omega) (fun c_24 => ?_) (fun c_24 => ?_)
          · refine zz_iinc (lv' := [(3, .int (iI (i + 1))), (0, .ref a0), (1, .int (iI rg)), (2, .int (iI part))]) hx hb dX7_addToShares_37 hl (k := 0) rfl (by decide) rfl (fun ls hl => ?_)
            refine lv_goto (tgt := 2) hx hb dX7_addToShares_40 (by decide) ?_
            exact ih2 (i + 1) s9 _ _ _ (by omega) (by first | exact upd_all (P := fun j x => x = if tp j = 1 ∧ rg ≤ need j then shr j + part else shr j) i1 (by rw [if_pos (by omega), i2 i (by omega) (by omega)]) | exact upd_keep (P := fun j x => x = if tp j = 1 ∧ rg ≤ need j then shr j + part else shr j) i1 (by rw [if_neg (by omega)]; exact i2 i (by omega) (by omega))) (by intro j h0 h1; first | (rw [zU_ne (by omega)]; exact i2 j (by omega) h1) | exact i2 j (by omega) h1) (by omega) hP hD hS (lv_sub hl [0, 1, 2, 3] rfl)
          · refine lv_aload_n hx hb dX7_addToShares_27 rfl (lv_at hl 1 rfl) ?_
            refine va_get (D := D) (ci := 9) (v := .ref a2) (C := RX7) (T := TX7) (N := 5) hx hb hts iX7 hown hK hP 0 rfl rfl 1 (by decide) f_15 (fun _ h9 => h9) rfl dX7_addToShares_28 ?_
            refine lv_iload_n hx hb dX7_addToShares_31 rfl (lv_at hl 0 rfl) ?_
            refine lv_dup2_11 hx hb dX7_addToShares_32 rfl rfl ?_
            refine zz_iald hx hb hK hP 2 rfl (by decide) (by omega) dX7_addToShares_33 ?_
            refine lv_iload_n hx hb dX7_addToShares_34 rfl (lv_at hl 3 rfl) ?_
            refine zz_iadd hx hb dX7_addToShares_35 ?_
            refine zz_iast hx hb hK hP hD hS 2 rfl (by decide) (by omega) dX7_addToShares_36 (fun H locs hP hD hS => ?_)
            have hP : va_P D vwCl (bShares tA a0 a1 a2 a3 a4 tp (zU s9 i ((s9 i) + part)) need ordr size) H := hP
            have hD : va_D A (bShares tA a0 a1 a2 a3 a4 tp (zU s9 i ((s9 i) + part)) need ordr size) := hD
            refine zz_iinc (lv' := [(3, .int (iI (i + 1))), (0, .ref a0), (1, .int (iI rg)), (2, .int (iI part))]) hx hb dX7_addToShares_37 hl (k := 0) rfl (by decide) rfl (fun ls hl => ?_)
            refine lv_goto (tgt := 2) hx hb dX7_addToShares_40 (by decide) ?_
            exact ih2 (i + 1) (zU s9 i ((s9 i) + part)) _ _ _ (by omega) (by first | exact upd_all (P := fun j x => x = if tp j = 1 ∧ rg ≤ need j then shr j + part else shr j) i1 (by rw [if_pos (by omega), i2 i (by omega) (by omega)]) | exact upd_keep (P := fun j x => x = if tp j = 1 ∧ rg ≤ need j then shr j + part else shr j) i1 (by rw [if_neg (by omega)]; exact i2 i (by omega) (by omega))) (by intro j h0 h1; first | (rw [zU_ne (by omega)]; exact i2 j (by omega) h1) | exact i2 j (by omega) h1) (by omega) hP hD hS (lv_sub hl [0, 1, 2, 3] rfl)
  exact L2 _ 0 shr _ _ _ (by omega) (by exact nothing_yet) (by exact fun _ _ _ => rfl) (Nat.lt_succ_self _) hP hD hS (lv_sub hl [0, 1, 2, 3] rfl)

set_option maxHeartbeats 4000000 in
set_option maxRecDepth 100000 in
theorem c_X7_divide (l : Launch) (D : va_G) (tA : Nat → ClassId) (a0 a1 a2 a3 a4 : Nat) (sz : Nat) (tp : Int → Int) (shr : Int → Int) (need : Int → Int) (ordr : Int → Int) (size : Int) (hv : TpV tp need) : zMv l yX7_divide wsX7_divide ({ frames := 1, cells := 0, slots := 0, locals := 24 }) D tA [.ref a0] (bShares tA a0 a1 a2 a3 a4 tp shr need ordr size) sz (fun (u : (Int → Int)) => (isSh tp need u)) (fun (u : (Int → Int)) => bShares tA a0 a1 a2 a3 a4 tp u need ordr size) 0 0 := by
  refine zMv_of (cc := cX7_divide) (maxL := 6) (by decide) rfl (Nat.le_of_ble_eq_true rfl) ?_
  intro p e s m args below meth c A Q ls hx hb hml hts hown hK hP hD hA hret hl
  obtain ⟨H, hHe⟩ : ∃ H : Heap, H = s.heap := ⟨_, rfl⟩
  have hS : va_S A s.heap H [] := by rw [hHe]; exact va_S.rf
  rw [← hHe] at hP ⊢
  have hl : lv_has ls 6 [(0, .ref a0)] := hl
  have iX7 : ∀ v ∈ wsX70, v ∈ wsX7_divide := by decide +kernel
  have f_9 := hts (.fieldLink RX7 9 "HarborLights$Shares" "takesPart" "[Z") (by decide +kernel)
  have f_15 := hts (.fieldLink RX7 15 "HarborLights$Shares" "share" "[I") (by decide +kernel)
  refine zz_iconst hx hb dX7_divide_0 ?_
  refine lv_istore_n (lv' := [(1, .int (iI 0)), (0, .ref a0)]) hx hb dX7_divide_1 rfl hl (by decide) rfl (fun ls hl => ?_)
  have L2 : ∀ (n : Nat) (i : Int) (s9 : Int → Int) (H : Heap) (locs : List Loc) (ls : Array Slot), (0 ≤ i ∧ i ≤ 6) → (∀ j, 0 ≤ j → j < i → s9 j = if tp j = 1 then 0 else -1) → (6 - i).toNat < n → va_P D vwCl (bShares tA a0 a1 a2 a3 a4 tp s9 need ordr size) H → va_D A (bShares tA a0 a1 a2 a3 a4 tp s9 need ordr size) → va_S A s.heap H locs → lv_has ls 6 [(1, .int (iI i)), (0, .ref a0)] → W p l e (headSpec wsX7_divide ({ frames := 1, cells := 0, slots := 0, locals := 24 })).room s m args below meth c H locs 0 0 Q (F0 m 2 ls []) := by
    intro n
    induction n with
    | zero => intro i s9 H locs ls i0 i1 hmz; exact absurd hmz (Nat.not_lt_zero _)
    | succ n ih2 =>
      intro i s9 H locs ls i0 i1 hmz hP hD hS hl
      refine lv_iload_n hx hb dX7_divide_2 rfl (lv_at hl 0 rfl) ?_
      refine zz_bipush hx hb dX7_divide_3 (by decide) ?_
      refine zz_icmp_ge (tgt := 34) hx hb dX7_divide_5 (by decide) (by omega) (by decide) (fun c_5 => ?_) (fun c_5 => ?_)
      · refine zz_iconst hx hb dX7_divide_34 ?_
        refine lv_istore_n (lv' := [(1, .int (iI 0)), (0, .ref a0)]) hx hb dX7_divide_35 rfl hl (by decide) rfl (fun ls hl => ?_)
        refine lv_aload_n hx hb dX7_divide_36 rfl (lv_at hl 1 rfl) ?_
        refine zz_callVi (As := []) (rest := []) (wf := fun u => bShares tA a0 a1 a2 a3 a4 tp s9 need ordr size) ⟨hx, hb, hml, hown, hts⟩ (c_X7_greatestNeed l D tA a0 a1 a2 a3 a4 H.size tp s9 need ordr size (by first | assumption | omega)) (cwV 0 hts gX7_divide_X7_greatestNeed rfl rfl rfl (by decide +kernel) ⟨Nat.le_of_ble_eq_true rfl, Nat.le_of_ble_eq_true rfl⟩) hK hP hD hS hA [0, 1, 2, 3, 4] [] [0, 1, 2, 3, 4] rfl rfl (by decide) (by decide) (by decide) (by decide) (fun _ => rfl) (ci := 9) (q0 := 0) rfl rfl rfl rfl rfl hl.1 (Nat.le_of_ble_eq_true rfl) dX7_divide_37 ⟨Nat.le_of_ble_eq_true rfl, Nat.le_of_ble_eq_true rfl⟩ ?_
        intro z37_1 u H locs p37_2 hP hD hS
        have hP : va_P D vwCl (bShares tA a0 a1 a2 a3 a4 tp s9 need ordr size) H := hP
        have hD : va_D A (bShares tA a0 a1 a2 a3 a4 tp s9 need ordr size) := hD
        have q_37 : isGr tp need z37_1 := p37_2
        have hgz := q_37.1
        have hgz2 := q_37.2.1
        refine lv_istore_n (lv' := [(2, .int (iI z37_1)), (1, .int (iI 0)), (0, .ref a0)]) hx hb dX7_divide_40 rfl hl (by decide) rfl (fun ls hl => ?_)
        refine zz_iconst hx hb dX7_divide_41 ?_
        refine lv_istore_n (lv' := [(3, .int (iI 0)), (2, .int (iI z37_1)), (1, .int (iI 0)), (0, .ref a0)]) hx hb dX7_divide_42 rfl hl (by decide) rfl (fun ls hl => ?_)
        have L43 : ∀ (n : Nat) (st : Int) (paid : Int) (s9 : Int → Int) (H : Heap) (locs : List Loc) (ls : Array Slot), (0 ≤ st ∧ st ≤ 6 ∧ 0 ≤ paid ∧ paid ≤ 20) → (DvS tp need paid s9) → (st ≤ covN tp need paid) → (6 - st).toNat < n → va_P D vwCl (bShares tA a0 a1 a2 a3 a4 tp s9 need ordr size) H → va_D A (bShares tA a0 a1 a2 a3 a4 tp s9 need ordr size) → va_S A s.heap H locs → lv_has ls 6 [(3, .int (iI st)), (2, .int (iI z37_1)), (1, .int (iI paid)), (0, .ref a0)] → W p l e (headSpec wsX7_divide ({ frames := 1, cells := 0, slots := 0, locals := 24 })).room s m args below meth c H locs 0 0 Q (F0 m 43 ls []) := by
          intro n
          induction n with
          | zero => intro st paid s9 H locs ls k0 k1 k2 hmz; exact absurd hmz (Nat.not_lt_zero _)
          | succ n ih43 =>
            intro st paid s9 H locs ls k0 k1 k2 hmz hP hD hS hl
            refine lv_iload_n hx hb dX7_divide_43 rfl (lv_at hl 2 rfl) ?_
            refine lv_iload_n hx hb dX7_divide_44 rfl (lv_at hl 1 rfl) ?_
            refine zz_icmp_ge (tgt := 103) hx hb dX7_divide_45 (by decide) (by omega) (by omega) (fun c_45 => ?_) (fun c_45 => ?_)
            · exact hret s9 _ _ _ _ dX7_divide_103 (show isSh tp need s9 from by first | exact DvS_end q_37 k1 (by omega) | exact DvS_end q_37 k1 (cov_full q_37 (by omega) (by omega))) hP hD hS
            · refine lv_iload_n hx hb dX7_divide_48 rfl (lv_at hl 0 rfl) ?_
              refine zz_bipush hx hb dX7_divide_49 (by decide) ?_
              refine zz_icmp_ge (tgt := 103) hx hb dX7_divide_51 (by decide) (by omega) (by decide) (fun c_51 => ?_) (fun c_51 => ?_)
              · exact hret s9 _ _ _ _ dX7_divide_103 (show isSh tp need s9 from by first | exact DvS_end q_37 k1 (by omega) | exact DvS_end q_37 k1 (cov_full q_37 (by omega) (by omega))) hP hD hS
              · refine lv_aload_n hx hb dX7_divide_54 rfl (lv_at hl 3 rfl) ?_
                refine lv_iload_n hx hb dX7_divide_55 rfl (lv_at hl 2 rfl) ?_
                refine lv_iload_n hx hb dX7_divide_56 rfl (lv_at hl 1 rfl) ?_
                refine zz_callVi (As := [.int (iI paid), .int (iI z37_1)]) (rest := []) (wf := fun u => bShares tA a0 a1 a2 a3 a4 tp s9 need ordr size) ⟨hx, hb, hml, hown, hts⟩ (c_X7_leastNeedAbove l D tA a0 a1 a2 a3 a4 H.size tp s9 need ordr size paid z37_1 (by first | assumption | omega) (by first | assumption | omega) (by first | assumption | omega) q_37 (by first | assumption | omega)) (cwV 2 hts gX7_divide_X7_leastNeedAbove rfl rfl rfl (by decide +kernel) ⟨Nat.le_of_ble_eq_true rfl, Nat.le_of_ble_eq_true rfl⟩) hK hP hD hS hA [0, 1, 2, 3, 4] [] [0, 1, 2, 3, 4] rfl rfl (by decide) (by decide) (by decide) (by decide) (fun _ => rfl) (ci := 9) (q0 := 0) rfl rfl rfl rfl rfl hl.1 (Nat.le_of_ble_eq_true rfl) dX7_divide_57 ⟨Nat.le_of_ble_eq_true rfl, Nat.le_of_ble_eq_true rfl⟩ ?_
                intro z57_3 u H locs p57_4 hP hD hS
                have hP : va_P D vwCl (bShares tA a0 a1 a2 a3 a4 tp s9 need ordr size) H := hP
                have hD : va_D A (bShares tA a0 a1 a2 a3 a4 tp s9 need ordr size) := hD
                have q_57 : isNx tp need paid z57_3 := p57_4.1
                have q2_57 : z57_3 ≤ z37_1 := p57_4.2
                have hnx := q_57.1
                refine lv_istore (lv' := [(4, .int (iI z57_3)), (3, .int (iI st)), (2, .int (iI z37_1)), (1, .int (iI paid)), (0, .ref a0)]) hx hb dX7_divide_60 hl (by decide) rfl (fun ls hl => ?_)
                refine lv_aload_n hx hb dX7_divide_62 rfl (lv_at hl 4 rfl) ?_
                refine lv_iload hx hb dX7_divide_63 (lv_at hl 0 rfl) ?_
                refine zz_callVi (As := [.int (iI z57_3)]) (rest := []) (wf := fun u => bShares tA a0 a1 a2 a3 a4 tp s9 need ordr size) ⟨hx, hb, hml, hown, hts⟩ (c_X7_countNeeding l D tA a0 a1 a2 a3 a4 H.size tp s9 need ordr size z57_3 (by first | assumption | omega) (by first | assumption | omega)) (cwV 1 hts gX7_divide_X7_countNeeding rfl rfl rfl (by decide +kernel) ⟨Nat.le_of_ble_eq_true rfl, Nat.le_of_ble_eq_true rfl⟩) hK hP hD hS hA [0, 1, 2, 3, 4] [] [0, 1, 2, 3, 4] rfl rfl (by decide) (by decide) (by decide) (by decide) (fun _ => rfl) (ci := 9) (q0 := 0) rfl rfl rfl rfl rfl hl.1 (Nat.le_of_ble_eq_true rfl) dX7_divide_65 ⟨Nat.le_of_ble_eq_true rfl, Nat.le_of_ble_eq_true rfl⟩ ?_
                intro z65_5 u H locs p65_6 hP hD hS
                have hP : va_P D vwCl (bShares tA a0 a1 a2 a3 a4 tp s9 need ordr size) H := hP
                have hD : va_D A (bShares tA a0 a1 a2 a3 a4 tp s9 need ordr size) := hD
                have q_65 : z65_5 = cntN tp need z57_3 := p65_6
                have hcn := cntN_in tp need z57_3
                have hcp : 1 ≤ cntN tp need z57_3 := by obtain ⟨y1, y2, k, k0, k1, k2, k3⟩ := q_57; exact cntN_pos k0 k1 k2 (by omega)
                refine lv_istore (lv' := [(5, .int (iI z65_5)), (4, .int (iI z57_3)), (3, .int (iI st)), (2, .int (iI z37_1)), (1, .int (iI paid)), (0, .ref a0)]) hx hb dX7_divide_68 hl (by decide) rfl (fun ls hl => ?_)
                refine lv_iload hx hb dX7_divide_70 (lv_at hl 0 rfl) ?_
                refine zz_if_le (tgt := 94) hx hb dX7_divide_72 (by decide) (by omega) (fun c_72 => ?_) (fun c_72 => ?_)
                · refine lv_iload hx hb dX7_divide_94 (lv_at hl 1 rfl) ?_
                  refine lv_istore_n (lv' := [(1, .int (iI z57_3)), (5, .int (iI z65_5)), (4, .int (iI z57_3)), (3, .int (iI st)), (2, .int (iI z37_1)), (0, .ref a0)]) hx hb dX7_divide_96 rfl hl (by decide) rfl (fun ls hl => ?_)
                  refine zz_iinc (lv' := [(3, .int (iI (st + 1))), (1, .int (iI z57_3)), (5, .int (iI z65_5)), (4, .int (iI z57_3)), (2, .int (iI z37_1)), (0, .ref a0)]) hx hb dX7_divide_97 hl (k := 3) rfl (by decide) rfl (fun ls hl => ?_)
                  refine lv_goto (tgt := 43) hx hb dX7_divide_100 (by decide) ?_
                  exact ih43 (st + 1) z57_3 s9 _ _ _ (by omega) (by first | exact DvS_step (by omega) hv k1 q_57 (by rw [← q_65, ← q_80, ← q_84]; exact q_91) | exact absurd c_72 (by omega)) (by have := cov_step q_57; omega) (by omega) hP hD hS (lv_sub hl [0, 4, 1, 5] rfl)
                · refine lv_aload_n hx hb dX7_divide_75 rfl (lv_at hl 5 rfl) ?_
                  refine lv_iload hx hb dX7_divide_76 (lv_at hl 1 rfl) ?_
                  refine lv_iload hx hb dX7_divide_78 (lv_at hl 1 rfl) ?_
                  refine zz_callSi (As := [.int (iI z57_3)]) (rest := [.int (iI z57_3), .ref a0]) (wf := fun u => bShares tA a0 a1 a2 a3 a4 tp s9 need ordr size) ⟨hx, hb, hml, hown, hts⟩ (c_X7_cost l D tA  H.size z57_3 (by first | assumption | omega)) (cwS 1 hts gX7_divide_X7_cost rfl rfl rfl (by decide +kernel) ⟨Nat.le_of_ble_eq_true rfl, Nat.le_of_ble_eq_true rfl⟩) hK hP hD hS hA [] [0, 1, 2, 3, 4] [0, 1, 2, 3, 4] rfl rfl (by decide) (by decide) (by decide) (by decide) (fun _ => rfl) rfl rfl hl.1 (Nat.le_of_ble_eq_true rfl) dX7_divide_80 ⟨Nat.le_of_ble_eq_true rfl, Nat.le_of_ble_eq_true rfl⟩ ?_
                  intro z80_7 u H locs p80_8 hP hD hS
                  have hP : va_P D vwCl (bShares tA a0 a1 a2 a3 a4 tp s9 need ordr size) H := hP
                  have hD : va_D A (bShares tA a0 a1 a2 a3 a4 tp s9 need ordr size) := hD
                  have q_80 : z80_7 = 60 * z57_3 * z57_3 := p80_8
                  refine lv_iload_n hx hb dX7_divide_83 rfl (lv_at hl 4 rfl) ?_
                  refine zz_callSi (As := [.int (iI paid)]) (rest := [.int (iI z80_7), .int (iI z57_3), .ref a0]) (wf := fun u => bShares tA a0 a1 a2 a3 a4 tp s9 need ordr size) ⟨hx, hb, hml, hown, hts⟩ (c_X7_cost l D tA  H.size paid (by first | assumption | omega)) (cwS 1 hts gX7_divide_X7_cost rfl rfl rfl (by decide +kernel) ⟨Nat.le_of_ble_eq_true rfl, Nat.le_of_ble_eq_true rfl⟩) hK hP hD hS hA [] [0, 1, 2, 3, 4] [0, 1, 2, 3, 4] rfl rfl (by decide) (by decide) (by decide) (by decide) (fun _ => rfl) rfl rfl hl.1 (Nat.le_of_ble_eq_true rfl) dX7_divide_84 ⟨Nat.le_of_ble_eq_true rfl, Nat.le_of_ble_eq_true rfl⟩ ?_
                  intro z84_9 u H locs p84_10 hP hD hS
                  have hP : va_P D vwCl (bShares tA a0 a1 a2 a3 a4 tp s9 need ordr size) H := hP
                  have hD : va_D A (bShares tA a0 a1 a2 a3 a4 tp s9 need ordr size) := hD
                  have q_84 : z84_9 = 60 * paid * paid := p84_10
                  refine zz_isub hx hb dX7_divide_87 ?_
                  refine lv_iload hx hb dX7_divide_88 (lv_at hl 0 rfl) ?_
                  have hcm := cost_mono (a := paid) (b := z57_3) (by omega) (by omega) (by omega)
                  have hdi := div_in (x := z80_7 - z84_9) (c := z65_5) (by omega) (by omega)
                  refine zz_idiv hx hb dX7_divide_90 (by omega) (by omega) ?_
                  refine zz_callVv (As := [.int (iI z57_3), .int (iI ((z80_7 - z84_9) / z65_5))]) (rest := []) (wf := fun u => bShares tA a0 a1 a2 a3 a4 tp u need ordr size) ⟨hx, hb, hml, hown, hts⟩ (c_X7_addToShares l D tA a0 a1 a2 a3 a4 H.size tp s9 need ordr size z57_3 ((z80_7 - z84_9) / z65_5) (by first | assumption | omega) (by first | assumption | omega) (by first | assumption | omega)) (cwV 2 hts gX7_divide_X7_addToShares rfl rfl rfl (by decide +kernel) ⟨Nat.le_of_ble_eq_true rfl, Nat.le_of_ble_eq_true rfl⟩) hK hP hD hS hA [0, 1, 2, 3, 4] [] [0, 1, 2, 3, 4] rfl rfl (by decide) (by decide) (by decide) (by decide) (fun _ => rfl) (ci := 9) (q0 := 0) rfl rfl rfl rfl rfl hl.1 (Nat.le_of_ble_eq_true rfl) dX7_divide_91 ⟨Nat.le_of_ble_eq_true rfl, Nat.le_of_ble_eq_true rfl⟩ ?_
                  intro u H locs p91_12 hP hD hS
                  obtain ⟨shr_11, rfl⟩ : ∃ q, q = u := ⟨_, rfl⟩
                  have hP : va_P D vwCl (bShares tA a0 a1 a2 a3 a4 tp shr_11 need ordr size) H := hP
                  have hD : va_D A (bShares tA a0 a1 a2 a3 a4 tp shr_11 need ordr size) := hD
                  have q_91 : ∀ j, 0 ≤ j → j < 6 → shr_11 j = if tp j = 1 ∧ z57_3 ≤ need j then s9 j + ((z80_7 - z84_9) / z65_5) else s9 j := p91_12
                  refine lv_iload hx hb dX7_divide_94 (lv_at hl 1 rfl) ?_
                  refine lv_istore_n (lv' := [(1, .int (iI z57_3)), (5, .int (iI z65_5)), (4, .int (iI z57_3)), (3, .int (iI st)), (2, .int (iI z37_1)), (0, .ref a0)]) hx hb dX7_divide_96 rfl hl (by decide) rfl (fun ls hl => ?_)
                  refine zz_iinc (lv' := [(3, .int (iI (st + 1))), (1, .int (iI z57_3)), (5, .int (iI z65_5)), (4, .int (iI z57_3)), (2, .int (iI z37_1)), (0, .ref a0)]) hx hb dX7_divide_97 hl (k := 3) rfl (by decide) rfl (fun ls hl => ?_)
                  refine lv_goto (tgt := 43) hx hb dX7_divide_100 (by decide) ?_
                  exact ih43 (st + 1) z57_3 shr_11 _ _ _ (by omega) (by first | exact DvS_step (by omega) hv k1 q_57 (by rw [← q_65, ← q_80, ← q_84]; exact q_91) | exact absurd c_72 (by omega)) (by have := cov_step q_57; omega) (by omega) hP hD hS (lv_sub hl [0, 4, 1, 5] rfl)
        exact L43 _ 0 0 s9 _ _ _ (by omega) (by exact DvS_0 hv (fun j h0 h1 => i1 j h0 (by omega))) (by exact (sm_in (n := 6) (fun _ _ _ => b01 _)).1) (Nat.lt_succ_self _) hP hD hS (lv_sub hl [0, 1, 2, 3] rfl)
      · refine lv_aload_n hx hb dX7_divide_8 rfl (lv_at hl 1 rfl) ?_
        refine va_get (D := D) (ci := 9) (v := .ref a2) (C := RX7) (T := TX7) (N := 5) hx hb hts iX7 hown hK hP 0 rfl rfl 1 (by decide) f_15 (fun _ h9 => h9) rfl dX7_divide_9 ?_
        refine lv_iload_n hx hb dX7_divide_12 rfl (lv_at hl 0 rfl) ?_
        refine lv_aload_n hx hb dX7_divide_13 rfl (lv_at hl 1 rfl) ?_
        refine va_get (D := D) (ci := 9) (v := .ref a1) (C := RX7) (T := TX7) (N := 5) hx hb hts iX7 hown hK hP 0 rfl rfl 0 (by decide) f_9 (fun _ h9 => h9) rfl dX7_divide_14 ?_
        refine lv_iload_n hx hb dX7_divide_17 rfl (lv_at hl 0 rfl) ?_
        refine zz_zald hx hb hK hP 1 rfl (by decide) (by omega) dX7_divide_18 ?_
        have r_18 := hv.1 i (by omega) (by omega)
        refine zz_if_eq (tgt := 26) hx hb dX7_divide_19 (by decide) (by omega) (fun c_19 => ?_) (fun c_19 => ?_)
        · refine zz_iconst hx hb dX7_divide_26 ?_
          refine zz_iast hx hb hK hP hD hS 2 rfl (by decide) (by omega) dX7_divide_27 (fun H locs hP hD hS => ?_)
          have hP : va_P D vwCl (bShares tA a0 a1 a2 a3 a4 tp (zU s9 i (-1)) need ordr size) H := hP
          have hD : va_D A (bShares tA a0 a1 a2 a3 a4 tp (zU s9 i (-1)) need ordr size) := hD
          refine zz_iinc (lv' := [(1, .int (iI (i + 1))), (0, .ref a0)]) hx hb dX7_divide_28 hl (k := 0) rfl (by decide) rfl (fun ls hl => ?_)
          refine lv_goto (tgt := 2) hx hb dX7_divide_31 (by decide) ?_
          exact ih2 (i + 1) (zU s9 i (-1)) _ _ _ (by omega) (by first | exact upd_all (P := fun j x => x = if tp j = 1 then 0 else -1) i1 (by rw [if_pos (by omega)]) | exact upd_all (P := fun j x => x = if tp j = 1 then 0 else -1) i1 (by rw [if_neg (by omega)])) (by omega) hP hD hS (lv_sub hl [0, 1] rfl)
        · refine zz_iconst hx hb dX7_divide_22 ?_
          refine lv_goto (tgt := 27) hx hb dX7_divide_23 (by decide) ?_
          refine zz_iast hx hb hK hP hD hS 2 rfl (by decide) (by omega) dX7_divide_27 (fun H locs hP hD hS => ?_)
          have hP : va_P D vwCl (bShares tA a0 a1 a2 a3 a4 tp (zU s9 i 0) need ordr size) H := hP
          have hD : va_D A (bShares tA a0 a1 a2 a3 a4 tp (zU s9 i 0) need ordr size) := hD
          refine zz_iinc (lv' := [(1, .int (iI (i + 1))), (0, .ref a0)]) hx hb dX7_divide_28 hl (k := 0) rfl (by decide) rfl (fun ls hl => ?_)
          refine lv_goto (tgt := 2) hx hb dX7_divide_31 (by decide) ?_
          exact ih2 (i + 1) (zU s9 i 0) _ _ _ (by omega) (by first | exact upd_all (P := fun j x => x = if tp j = 1 then 0 else -1) i1 (by rw [if_pos (by omega)]) | exact upd_all (P := fun j x => x = if tp j = 1 then 0 else -1) i1 (by rw [if_neg (by omega)])) (by omega) hP hD hS (lv_sub hl [0, 1] rfl)
  exact L2 _ 0 shr _ _ _ (by omega) (by exact nothing_yet) (Nat.lt_succ_self _) hP hD hS (lv_sub hl [0, 1] rfl)

set_option maxHeartbeats 4000000 in
set_option maxRecDepth 100000 in
theorem c_X7_firstWhoCannotPay (l : Launch) (D : va_G) (tA : Nat → ClassId) (a0 a1 a2 a3 a4 b0 b1 b2 b3 b4 b5 : Nat) (sz : Nat) (tp : Int → Int) (shr : Int → Int) (need : Int → Int) (ordr : Int → Int) (size : Int) (cnt : Int) (strt : Int → Int) (goal : Int → Int) (money : Int → Int) (litN : Int → Int) (darkN : Int → Int) (hv : TpV tp need) (hc : 0 ≤ cnt ∧ cnt ≤ 6) (hsh : isSh tp need shr) (Rm : ∀ j, 0 ≤ j → j < cnt → -2147483648 ≤ money j ∧ money j ≤ 2147483647) : zMi l yX7_firstWhoCannotPay wsX7_firstWhoCannotPay ({ frames := 0, cells := 0, slots := 0, locals := 0 }) D tA [.ref a0, .ref b0] (bShares tA a0 a1 a2 a3 a4 tp shr need ordr size ++ bShips tA b0 b1 b2 b3 b4 b5 cnt strt goal money litN darkN) sz (fun (z : Int) (u : Unit) => (isPoor tp need money cnt z)) (fun (u : Unit) => bShares tA a0 a1 a2 a3 a4 tp shr need ordr size ++ bShips tA b0 b1 b2 b3 b4 b5 cnt strt goal money litN darkN) 0 0 := by
  refine zMi_of (cc := cX7_firstWhoCannotPay) (maxL := 3) (by decide) rfl (fun z u h => rfl) (Nat.le_of_ble_eq_true rfl) ?_
  intro p e s m args below meth c A Q ls hx hb hml hts hown hK hP hD hA hret hl
  obtain ⟨H, hHe⟩ : ∃ H : Heap, H = s.heap := ⟨_, rfl⟩
  have hS : va_S A s.heap H [] := by rw [hHe]; exact va_S.rf
  rw [← hHe] at hP ⊢
  have hl : lv_has ls 3 [(0, .ref a0), (1, .ref b0)] := hl
  have iX7 : ∀ v ∈ wsX70, v ∈ wsX7_firstWhoCannotPay := by decide +kernel
  have iX8 : ∀ v ∈ wsX80, v ∈ wsX7_firstWhoCannotPay := by decide +kernel
  have f_9 := hts (.fieldLink RX7 9 "HarborLights$Shares" "takesPart" "[Z") (by decide +kernel)
  have f_15 := hts (.fieldLink RX7 15 "HarborLights$Shares" "share" "[I") (by decide +kernel)
  have f_61 := hts (.fieldLink RX7 61 "HarborLights$Ships" "count" "I") (by decide +kernel)
  have f_67 := hts (.fieldLink RX7 67 "HarborLights$Ships" "money" "[I") (by decide +kernel)
  refine zz_iconst hx hb dX7_firstWhoCannotPay_0 ?_
  refine lv_istore_n (lv' := [(2, .int (iI 0)), (0, .ref a0), (1, .ref b0)]) hx hb dX7_firstWhoCannotPay_1 rfl hl (by decide) rfl (fun ls hl => ?_)
  have L2 : ∀ (n : Nat) (i : Int) (H : Heap) (locs : List Loc) (ls : Array Slot), (0 ≤ i ∧ i ≤ cnt) → (∀ j, 0 ≤ j → j < i → ¬ (tp j = 1 ∧ money j < shR tp need (need j).toNat)) → (cnt - i).toNat < n → va_P D vwCl (bShares tA a0 a1 a2 a3 a4 tp shr need ordr size ++ bShips tA b0 b1 b2 b3 b4 b5 cnt strt goal money litN darkN) H → va_D A (bShares tA a0 a1 a2 a3 a4 tp shr need ordr size ++ bShips tA b0 b1 b2 b3 b4 b5 cnt strt goal money litN darkN) → va_S A s.heap H locs → lv_has ls 3 [(2, .int (iI i)), (0, .ref a0), (1, .ref b0)] → W p l e (headSpec wsX7_firstWhoCannotPay ({ frames := 0, cells := 0, slots := 0, locals := 0 })).room s m args below meth c H locs 0 0 Q (F0 m 2 ls []) := by
    intro n
    induction n with
    | zero => intro i H locs ls i0 i1 hmz; exact absurd hmz (Nat.not_lt_zero _)
    | succ n ih2 =>
      intro i H locs ls i0 i1 hmz hP hD hS hl
      refine lv_iload_n hx hb dX7_firstWhoCannotPay_2 rfl (lv_at hl 0 rfl) ?_
      refine lv_aload_n hx hb dX7_firstWhoCannotPay_3 rfl (lv_at hl 2 rfl) ?_
      refine va_get (D := D) (ci := 10) (v := .int (iI cnt)) (C := RX8) (T := TX8) (N := 6) hx hb hts iX8 hown hK hP 5 rfl rfl 0 (by decide) f_61 (fun _ h9 => h9) rfl dX7_firstWhoCannotPay_4 ?_
      refine zz_icmp_ge (tgt := 42) hx hb dX7_firstWhoCannotPay_7 (by decide) (by omega) (by omega) (fun c_7 => ?_) (fun c_7 => ?_)
      · refine zz_iconst hx hb dX7_firstWhoCannotPay_42 ?_
        exact hret (-1) () _ _ _ _ dX7_firstWhoCannotPay_43 (show isPoor tp need money cnt ((-1) : Int) from by exact Or.inl ⟨rfl, fun j h0 h1 => i1 j h0 (by omega)⟩) hP hD hS
      · refine lv_aload_n hx hb dX7_firstWhoCannotPay_10 rfl (lv_at hl 1 rfl) ?_
        refine va_get (D := D) (ci := 9) (v := .ref a1) (C := RX7) (T := TX7) (N := 5) hx hb hts iX7 hown hK hP 0 rfl rfl 0 (by decide) f_9 (fun _ h9 => h9) rfl dX7_firstWhoCannotPay_11 ?_
        refine lv_iload_n hx hb dX7_firstWhoCannotPay_14 rfl (lv_at hl 0 rfl) ?_
        refine zz_zald hx hb hK hP 1 rfl (by decide) (by omega) dX7_firstWhoCannotPay_15 ?_
        have r_15 := hv.1 i (by omega) (by omega)
        refine zz_if_eq (tgt := 36) hx hb dX7_firstWhoCannotPay_16 (by decide) (by omega) (fun c_16 => ?_) (fun c_16 => ?_)
        · refine zz_iinc (lv' := [(2, .int (iI (i + 1))), (0, .ref a0), (1, .ref b0)]) hx hb dX7_firstWhoCannotPay_36 hl (k := 0) rfl (by decide) rfl (fun ls hl => ?_)
          refine lv_goto (tgt := 2) hx hb dX7_firstWhoCannotPay_39 (by decide) ?_
          exact ih2 (i + 1) _ _ _ (by omega) (by exact upd_keep (P := fun j _ => ¬ (tp j = 1 ∧ money j < shR tp need (need j).toNat)) (g := fun z => z) i1 (by first | (rw [← e_30]; omega) | (intro h; omega))) (by omega) hP hD hS (lv_sub hl [0, 1, 2] rfl)
        · refine lv_aload_n hx hb dX7_firstWhoCannotPay_19 rfl (lv_at hl 2 rfl) ?_
          refine va_get (D := D) (ci := 10) (v := .ref b3) (C := RX8) (T := TX8) (N := 6) hx hb hts iX8 hown hK hP 5 rfl rfl 3 (by decide) f_67 (fun _ h9 => h9) rfl dX7_firstWhoCannotPay_20 ?_
          refine lv_iload_n hx hb dX7_firstWhoCannotPay_23 rfl (lv_at hl 0 rfl) ?_
          refine zz_iald hx hb hK hP 8 rfl (by decide) (by omega) dX7_firstWhoCannotPay_24 ?_
          have r_24 := Rm i (by omega) (by omega)
          refine lv_aload_n hx hb dX7_firstWhoCannotPay_25 rfl (lv_at hl 1 rfl) ?_
          refine va_get (D := D) (ci := 9) (v := .ref a2) (C := RX7) (T := TX7) (N := 5) hx hb hts iX7 hown hK hP 0 rfl rfl 1 (by decide) f_15 (fun _ h9 => h9) rfl dX7_firstWhoCannotPay_26 ?_
          refine lv_iload_n hx hb dX7_firstWhoCannotPay_29 rfl (lv_at hl 0 rfl) ?_
          refine zz_iald hx hb hK hP 2 rfl (by decide) (by omega) dX7_firstWhoCannotPay_30 ?_
          have r_30 := isSh_rng hv hsh i (by omega) (by omega)
          have e_30 : shr i = shR tp need (need i).toNat := by rw [hsh i (by omega) (by omega), if_pos (by omega)]
          refine zz_icmp_ge (tgt := 36) hx hb dX7_firstWhoCannotPay_31 (by decide) (by omega) (by omega) (fun c_31 => ?_) (fun c_31 => ?_)
          · refine zz_iinc (lv' := [(2, .int (iI (i + 1))), (0, .ref a0), (1, .ref b0)]) hx hb dX7_firstWhoCannotPay_36 hl (k := 0) rfl (by decide) rfl (fun ls hl => ?_)
            refine lv_goto (tgt := 2) hx hb dX7_firstWhoCannotPay_39 (by decide) ?_
            exact ih2 (i + 1) _ _ _ (by omega) (by exact upd_keep (P := fun j _ => ¬ (tp j = 1 ∧ money j < shR tp need (need j).toNat)) (g := fun z => z) i1 (by first | (rw [← e_30]; omega) | (intro h; omega))) (by omega) hP hD hS (lv_sub hl [0, 1, 2] rfl)
          · refine lv_iload_n hx hb dX7_firstWhoCannotPay_34 rfl (lv_at hl 0 rfl) ?_
            exact hret i () _ _ _ _ dX7_firstWhoCannotPay_35 (show isPoor tp need money cnt i from by exact Or.inr ⟨by omega, by omega, by omega, by rw [← e_30]; omega, i1⟩) hP hD hS
  exact L2 _ 0 _ _ _ (by omega) (by exact nothing_yet) (Nat.lt_succ_self _) hP hD hS (lv_sub hl [0, 1, 2] rfl)

set_option maxHeartbeats 4000000 in
set_option maxRecDepth 100000 in
theorem c_X7_swap (l : Launch) (D : va_G) (tA : Nat → ClassId) (a0 a1 a2 a3 a4 : Nat) (sz : Nat) (tp : Int → Int) (shr : Int → Int) (need : Int → Int) (ordr : Int → Int) (size : Int) (x : Int) (y : Int) (r_x : -2147483648 ≤ x ∧ x ≤ 2147483647) (r_y : -2147483648 ≤ y ∧ y ≤ 2147483647) (h1 : 0 ≤ x ∧ x < 6) (h2 : 0 ≤ y ∧ y < 6) : zMv l yX7_swap wsX7_swap ({ frames := 0, cells := 0, slots := 0, locals := 0 }) D tA [.ref a0, .int (iI x), .int (iI y)] (bShares tA a0 a1 a2 a3 a4 tp shr need ordr size) sz (fun (u : Unit) => True) (fun (u : Unit) => bShares tA a0 a1 a2 a3 a4 tp shr need (zU (zU ordr x (ordr y)) y (ordr x)) size) 0 0 := by
  refine zMv_of (cc := cX7_swap) (maxL := 4) (by decide) rfl (Nat.le_of_ble_eq_true rfl) ?_
  intro p e s m args below meth c A Q ls hx hb hml hts hown hK hP hD hA hret hl
  obtain ⟨H, hHe⟩ : ∃ H : Heap, H = s.heap := ⟨_, rfl⟩
  have hS : va_S A s.heap H [] := by rw [hHe]; exact va_S.rf
  rw [← hHe] at hP ⊢
  have hl : lv_has ls 4 [(0, .ref a0), (1, .int (iI x)), (2, .int (iI y))] := hl
  have iX7 : ∀ v ∈ wsX70, v ∈ wsX7_swap := by decide +kernel
  have f_22 := hts (.fieldLink RX7 22 "HarborLights$Shares" "order" "[I") (by decide +kernel)
  refine lv_aload_n hx hb dX7_swap_0 rfl (lv_at hl 0 rfl) ?_
  refine va_get (D := D) (ci := 9) (v := .ref a4) (C := RX7) (T := TX7) (N := 5) hx hb hts iX7 hown hK hP 0 rfl rfl 3 (by decide) f_22 (fun _ h9 => h9) rfl dX7_swap_1 ?_
  refine lv_iload_n hx hb dX7_swap_4 rfl (lv_at hl 1 rfl) ?_
  refine zz_iald hx hb hK hP 4 rfl (by decide) (by omega) dX7_swap_5 ?_
  refine lv_istore_n (lv' := [(3, .int (iI (ordr x))), (0, .ref a0), (1, .int (iI x)), (2, .int (iI y))]) hx hb dX7_swap_6 rfl hl (by decide) rfl (fun ls hl => ?_)
  refine lv_aload_n hx hb dX7_swap_7 rfl (lv_at hl 1 rfl) ?_
  refine va_get (D := D) (ci := 9) (v := .ref a4) (C := RX7) (T := TX7) (N := 5) hx hb hts iX7 hown hK hP 0 rfl rfl 3 (by decide) f_22 (fun _ h9 => h9) rfl dX7_swap_8 ?_
  refine lv_iload_n hx hb dX7_swap_11 rfl (lv_at hl 2 rfl) ?_
  refine lv_aload_n hx hb dX7_swap_12 rfl (lv_at hl 1 rfl) ?_
  refine va_get (D := D) (ci := 9) (v := .ref a4) (C := RX7) (T := TX7) (N := 5) hx hb hts iX7 hown hK hP 0 rfl rfl 3 (by decide) f_22 (fun _ h9 => h9) rfl dX7_swap_13 ?_
  refine lv_iload_n hx hb dX7_swap_16 rfl (lv_at hl 3 rfl) ?_
  refine zz_iald hx hb hK hP 4 rfl (by decide) (by omega) dX7_swap_17 ?_
  refine zz_iast hx hb hK hP hD hS 4 rfl (by decide) (by omega) dX7_swap_18 (fun H locs hP hD hS => ?_)
  have hP : va_P D vwCl (bShares tA a0 a1 a2 a3 a4 tp shr need (zU ordr x (ordr y)) size) H := hP
  have hD : va_D A (bShares tA a0 a1 a2 a3 a4 tp shr need (zU ordr x (ordr y)) size) := hD
  refine lv_aload_n hx hb dX7_swap_19 rfl (lv_at hl 1 rfl) ?_
  refine va_get (D := D) (ci := 9) (v := .ref a4) (C := RX7) (T := TX7) (N := 5) hx hb hts iX7 hown hK hP 0 rfl rfl 3 (by decide) f_22 (fun _ h9 => h9) rfl dX7_swap_20 ?_
  refine lv_iload_n hx hb dX7_swap_23 rfl (lv_at hl 3 rfl) ?_
  refine lv_iload_n hx hb dX7_swap_24 rfl (lv_at hl 0 rfl) ?_
  refine zz_iast hx hb hK hP hD hS 4 rfl (by decide) (by omega) dX7_swap_25 (fun H locs hP hD hS => ?_)
  have hP : va_P D vwCl (bShares tA a0 a1 a2 a3 a4 tp shr need (zU (zU ordr x (ordr y)) y (ordr x)) size) H := hP
  have hD : va_D A (bShares tA a0 a1 a2 a3 a4 tp shr need (zU (zU ordr x (ordr y)) y (ordr x)) size) := hD
  exact hret () _ _ _ _ dX7_swap_26 True.intro hP hD hS
