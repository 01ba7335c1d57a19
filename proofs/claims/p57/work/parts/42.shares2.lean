/-! ===== HarborLights.Shares: orders, the night ===== -/
set_option maxHeartbeats 4000000 in
set_option maxRecDepth 100000 in
theorem c_X7_increaseBy (l : Launch) (D : va_G) (tA : Nat → ClassId) (a0 a1 a2 a3 a4 : Nat) (sz : Nat) (tp : Int → Int) (shr : Int → Int) (need : Int → Int) (ordr : Int → Int) (size : Int) (ship : Int) (r_ship : -2147483648 ≤ ship ∧ ship ≤ 2147483647) (hsz : 0 ≤ size ∧ size ≤ 6) (ho : ∀ j, 0 ≤ j → j < size → (0 ≤ ordr j ∧ ordr j < 6)) (hn2 : ∀ j, 0 ≤ j → j < size → (0 ≤ need (ordr j) ∧ need (ordr j) ≤ 20)) (hin : ∃ j, 0 ≤ j ∧ j < size ∧ ordr j = ship) : zMi l yX7_increaseBy wsX7_increaseBy ({ frames := 1, cells := 0, slots := 0, locals := 20 }) D tA [.ref a0, .int (iI ship)] (bShares tA a0 a1 a2 a3 a4 tp shr need ordr size) sz (fun (z : Int) (u : Unit) => (isInc need ordr size ship z)) (fun (u : Unit) => bShares tA a0 a1 a2 a3 a4 tp shr need ordr size) 0 0 := by
  refine zMi_of (cc := cX7_increaseBy) (maxL := 5) (by decide) rfl (fun z u h => rfl) (Nat.le_of_ble_eq_true rfl) ?_
  intro p e s m args below meth c A Q ls hx hb hml hts hown hK hP hD hA hret hl
  obtain ⟨H, hHe⟩ : ∃ H : Heap, H = s.heap := ⟨_, rfl⟩
  have hS : va_S A s.heap H [] := by rw [hHe]; exact va_S.rf
  rw [← hHe] at hP ⊢
  have hl : lv_has ls 5 [(0, .ref a0), (1, .int (iI ship))] := hl
  have iX7 : ∀ v ∈ wsX70, v ∈ wsX7_increaseBy := by decide +kernel
  have f_19 := hts (.fieldLink RX7 19 "HarborLights$Shares" "need" "[I") (by decide +kernel)
  have f_22 := hts (.fieldLink RX7 22 "HarborLights$Shares" "order" "[I") (by decide +kernel)
  have f_70 := hts (.fieldLink RX7 70 "HarborLights$Shares" "size" "I") (by decide +kernel)
  have l_73 := hts (.methodLink RX7 73 Lib.Math.max.name) (by decide +kernel)
  have ls_73 := hts (.static Lib.Math.max.name) (by decide +kernel)
  have lc_73 := hts (.code Lib.Math.max.name Lib.Math.max.code 2 (some .int)) (by decide +kernel)
  have li_73 := hts (.initialized "java/lang/Math") (by decide +kernel)
  refine zz_iconst hx hb dX7_increaseBy_0 ?_
  refine lv_istore_n (lv' := [(2, .int (iI 0)), (0, .ref a0), (1, .int (iI ship))]) hx hb dX7_increaseBy_1 rfl hl (by decide) rfl (fun ls hl => ?_)
  refine zz_iconst hx hb dX7_increaseBy_2 ?_
  refine lv_istore_n (lv' := [(3, .int (iI 0)), (2, .int (iI 0)), (0, .ref a0), (1, .int (iI ship))]) hx hb dX7_increaseBy_3 rfl hl (by decide) rfl (fun ls hl => ?_)
  have L4 : ∀ (n : Nat) (pl : Int) (g : Int) (H : Heap) (locs : List Loc) (ls : Array Slot), (0 ≤ pl ∧ pl ≤ size) → (IncK need ordr ship pl g) → (size - pl).toNat < n → va_P D vwCl (bShares tA a0 a1 a2 a3 a4 tp shr need ordr size) H → va_D A (bShares tA a0 a1 a2 a3 a4 tp shr need ordr size) → va_S A s.heap H locs → lv_has ls 5 [(3, .int (iI pl)), (2, .int (iI g)), (0, .ref a0), (1, .int (iI ship))] → W p l e (headSpec wsX7_increaseBy ({ frames := 1, cells := 0, slots := 0, locals := 20 })).room s m args below meth c H locs 0 0 Q (F0 m 4 ls []) := by
    intro n
    induction n with
    | zero => intro pl g H locs ls i0 i1 hmz; exact absurd hmz (Nat.not_lt_zero _)
    | succ n ih4 =>
      intro pl g H locs ls i0 i1 hmz hP hD hS hl
      have ig := i1.1
      have ig2 := i1.2.1
      refine lv_iload_n hx hb dX7_increaseBy_4 rfl (lv_at hl 0 rfl) ?_
      refine lv_aload_n hx hb dX7_increaseBy_5 rfl (lv_at hl 2 rfl) ?_
      refine va_get (D := D) (ci := 9) (v := .int (iI size)) (C := RX7) (T := TX7) (N := 5) hx hb hts iX7 hown hK hP 0 rfl rfl 4 (by decide) f_70 (fun _ h9 => h9) rfl dX7_increaseBy_6 ?_
      refine zz_icmp_ge (tgt := 59) hx hb dX7_increaseBy_9 (by decide) (by omega) (by omega) (fun c_9 => ?_) (fun c_9 => ?_)
      · refine zz_iconst hx hb dX7_increaseBy_59 ?_
        exact hret 0 () _ _ _ _ dX7_increaseBy_60 (show isInc need ordr size ship (0 : Int) from by exact (by obtain ⟨j, j0, j1, j2⟩ := hin; exact absurd j2 (i1.2.2.2.2 j j0 (by omega)))) hP hD hS
      · refine lv_iload_n hx hb dX7_increaseBy_12 rfl (lv_at hl 1 rfl) ?_
        refine lv_aload_n hx hb dX7_increaseBy_13 rfl (lv_at hl 2 rfl) ?_
        refine va_get (D := D) (ci := 9) (v := .ref a3) (C := RX7) (T := TX7) (N := 5) hx hb hts iX7 hown hK hP 0 rfl rfl 2 (by decide) f_19 (fun _ h9 => h9) rfl dX7_increaseBy_14 ?_
        refine lv_aload_n hx hb dX7_increaseBy_17 rfl (lv_at hl 2 rfl) ?_
        refine va_get (D := D) (ci := 9) (v := .ref a4) (C := RX7) (T := TX7) (N := 5) hx hb hts iX7 hown hK hP 0 rfl rfl 3 (by decide) f_22 (fun _ h9 => h9) rfl dX7_increaseBy_18 ?_
        refine lv_iload_n hx hb dX7_increaseBy_21 rfl (lv_at hl 0 rfl) ?_
        have ho1 := ho pl (by omega) (by omega)
        have hn1 := hn2 pl (by omega) (by omega)
        refine zz_iald hx hb hK hP 4 rfl (by decide) (by omega) dX7_increaseBy_22 ?_
        refine zz_iald hx hb hK hP 3 rfl (by decide) (by omega) dX7_increaseBy_23 ?_
        refine zz_mmax hx hb (by rw [hml]; exact hl.1.symm) hown l_73 ls_73 li_73 lc_73 (Nat.le_of_ble_eq_true rfl) (Nat.le_of_ble_eq_true rfl) (Nat.le_of_ble_eq_true rfl) (Nat.le_of_ble_eq_true rfl) (by omega) (by omega) dX7_increaseBy_24 ?_
        refine lv_istore (lv' := [(4, .int (iI (max g (need (ordr pl))))), (3, .int (iI pl)), (2, .int (iI g)), (0, .ref a0), (1, .int (iI ship))]) hx hb dX7_increaseBy_27 hl (by decide) rfl (fun ls hl => ?_)
        refine lv_aload_n hx hb dX7_increaseBy_29 rfl (lv_at hl 3 rfl) ?_
        refine va_get (D := D) (ci := 9) (v := .ref a4) (C := RX7) (T := TX7) (N := 5) hx hb hts iX7 hown hK hP 0 rfl rfl 3 (by decide) f_22 (fun _ h9 => h9) rfl dX7_increaseBy_30 ?_
        refine lv_iload_n hx hb dX7_increaseBy_33 rfl (lv_at hl 1 rfl) ?_
        refine zz_iald hx hb hK hP 4 rfl (by decide) (by omega) dX7_increaseBy_34 ?_
        refine lv_iload_n hx hb dX7_increaseBy_35 rfl (lv_at hl 4 rfl) ?_
        refine zz_icmp_ne (tgt := 50) hx hb dX7_increaseBy_36 (by decide) (by omega) (by omega) (fun c_36 => ?_) (fun c_36 => ?_)
        · refine lv_iload hx hb dX7_increaseBy_50 (lv_at hl 0 rfl) ?_
          refine lv_istore_n (lv' := [(2, .int (iI (max g (need (ordr pl))))), (4, .int (iI (max g (need (ordr pl))))), (3, .int (iI pl)), (0, .ref a0), (1, .int (iI ship))]) hx hb dX7_increaseBy_52 rfl hl (by decide) rfl (fun ls hl => ?_)
          refine zz_iinc (lv' := [(3, .int (iI (pl + 1))), (2, .int (iI (max g (need (ordr pl))))), (4, .int (iI (max g (need (ordr pl))))), (0, .ref a0), (1, .int (iI ship))]) hx hb dX7_increaseBy_53 hl (k := 2) rfl (by decide) rfl (fun ls hl => ?_)
          refine lv_goto (tgt := 4) hx hb dX7_increaseBy_56 (by decide) ?_
          exact ih4 (pl + 1) (max g (need (ordr pl))) _ _ _ (by omega) (by exact IncK_s (by omega) i1 (hn2 pl (by omega) (by omega)) c_36) (by omega) hP hD hS (lv_sub hl [0, 1, 3, 4] rfl)
        · refine lv_iload hx hb dX7_increaseBy_39 (lv_at hl 0 rfl) ?_
          refine zz_callSi (As := [.int (iI (max g (need (ordr pl))))]) (rest := []) (wf := fun u => bShares tA a0 a1 a2 a3 a4 tp shr need ordr size) ⟨hx, hb, hml, hown, hts⟩ (c_X7_cost l D tA  H.size (max g (need (ordr pl))) (by first | assumption | omega)) (cwS 1 hts gX7_increaseBy_X7_cost rfl rfl rfl (by decide +kernel) ⟨Nat.le_of_ble_eq_true rfl, Nat.le_of_ble_eq_true rfl⟩) hK hP hD hS hA [] [0, 1, 2, 3, 4] [0, 1, 2, 3, 4] rfl rfl (by decide) (by decide) (by decide) (by decide) (fun _ => rfl) rfl rfl hl.1 (Nat.le_of_ble_eq_true rfl) dX7_increaseBy_41 ⟨Nat.le_of_ble_eq_true rfl, Nat.le_of_ble_eq_true rfl⟩ ?_
          intro z41_1 u H locs p41_2 hP hD hS
          have hP : va_P D vwCl (bShares tA a0 a1 a2 a3 a4 tp shr need ordr size) H := hP
          have hD : va_D A (bShares tA a0 a1 a2 a3 a4 tp shr need ordr size) := hD
          have q_41 : z41_1 = 60 * (max g (need (ordr pl))) * (max g (need (ordr pl))) := p41_2
          refine lv_iload_n hx hb dX7_increaseBy_44 rfl (lv_at hl 2 rfl) ?_
          refine zz_callSi (As := [.int (iI g)]) (rest := [.int (iI z41_1)]) (wf := fun u => bShares tA a0 a1 a2 a3 a4 tp shr need ordr size) ⟨hx, hb, hml, hown, hts⟩ (c_X7_cost l D tA  H.size g (by first | assumption | omega)) (cwS 1 hts gX7_increaseBy_X7_cost rfl rfl rfl (by decide +kernel) ⟨Nat.le_of_ble_eq_true rfl, Nat.le_of_ble_eq_true rfl⟩) hK hP hD hS hA [] [0, 1, 2, 3, 4] [0, 1, 2, 3, 4] rfl rfl (by decide) (by decide) (by decide) (by decide) (fun _ => rfl) rfl rfl hl.1 (Nat.le_of_ble_eq_true rfl) dX7_increaseBy_45 ⟨Nat.le_of_ble_eq_true rfl, Nat.le_of_ble_eq_true rfl⟩ ?_
          intro z45_3 u H locs p45_4 hP hD hS
          have hP : va_P D vwCl (bShares tA a0 a1 a2 a3 a4 tp shr need ordr size) H := hP
          have hD : va_D A (bShares tA a0 a1 a2 a3 a4 tp shr need ordr size) := hD
          have q_45 : z45_3 = 60 * g * g := p45_4
          refine zz_isub hx hb dX7_increaseBy_48 ?_
          exact hret (z41_1 - z45_3) () _ _ _ _ dX7_increaseBy_49 (show isInc need ordr size ship (z41_1 - z45_3) from by exact ⟨pl, g, by omega, by omega, c_36, i1.2.2.2.2, ig, ig2, i1.2.2.1, i1.2.2.2.1, by rw [← c_36, q_41, q_45]; rfl⟩) hP hD hS
  exact L4 _ 0 0 _ _ _ (by omega) (by exact IncK_0) (Nat.lt_succ_self _) hP hD hS (lv_sub hl [0, 1, 2, 3] rfl)

set_option maxHeartbeats 4000000 in
set_option maxRecDepth 100000 in
theorem c_X7_firstOrder (l : Launch) (D : va_G) (tA : Nat → ClassId) (a0 a1 a2 a3 a4 : Nat) (sz : Nat) (tp : Int → Int) (shr : Int → Int) (need : Int → Int) (ordr : Int → Int) (size : Int) (ht : ∀ j, 0 ≤ j → j < 6 → tp j = 0 ∨ tp j = 1) : zMv l yX7_firstOrder wsX7_firstOrder ({ frames := 0, cells := 0, slots := 0, locals := 0 }) D tA [.ref a0] (bShares tA a0 a1 a2 a3 a4 tp shr need ordr size) sz (fun (u : (Int → Int) × (Int)) => (isFst tp u.1 u.2)) (fun (u : (Int → Int) × (Int)) => bShares tA a0 a1 a2 a3 a4 tp shr need u.1 u.2) 0 0 := by
  refine zMv_of (cc := cX7_firstOrder) (maxL := 2) (by decide) rfl (Nat.le_of_ble_eq_true rfl) ?_
  intro p e s m args below meth c A Q ls hx hb hml hts hown hK hP hD hA hret hl
  obtain ⟨H, hHe⟩ : ∃ H : Heap, H = s.heap := ⟨_, rfl⟩
  have hS : va_S A s.heap H [] := by rw [hHe]; exact va_S.rf
  rw [← hHe] at hP ⊢
  have hl : lv_has ls 2 [(0, .ref a0)] := hl
  have iX7 : ∀ v ∈ wsX70, v ∈ wsX7_firstOrder := by decide +kernel
  have f_9 := hts (.fieldLink RX7 9 "HarborLights$Shares" "takesPart" "[Z") (by decide +kernel)
  have f_22 := hts (.fieldLink RX7 22 "HarborLights$Shares" "order" "[I") (by decide +kernel)
  have f_70 := hts (.fieldLink RX7 70 "HarborLights$Shares" "size" "I") (by decide +kernel)
  refine lv_aload_n hx hb dX7_firstOrder_0 rfl (lv_at hl 0 rfl) ?_
  refine zz_iconst hx hb dX7_firstOrder_1 ?_
  refine va_put (D := D) (ci := 9) (v := .int (iI 0)) (ty := .int) (C := RX7) (T := TX7) (N := 5) hx hb hts iX7 tyX7 tyX7_ok nmX7 hown hK hP hD hS 0 rfl rfl 4 (by decide) f_70 (fun _ h9 => h9) rfl (by decide +kernel) rfl rfl (Nat.le_of_ble_eq_true rfl) dX7_firstOrder_2 (fun H locs hP hD hS => ?_)
  have hP : va_P D vwCl (bShares tA a0 a1 a2 a3 a4 tp shr need ordr 0) H := hP
  have hD : va_D A (bShares tA a0 a1 a2 a3 a4 tp shr need ordr 0) := hD
  refine zz_iconst hx hb dX7_firstOrder_5 ?_
  refine lv_istore_n (lv' := [(1, .int (iI 0)), (0, .ref a0)]) hx hb dX7_firstOrder_6 rfl hl (by decide) rfl (fun ls hl => ?_)
  have L7 : ∀ (n : Nat) (i : Int) (n9 : Int) (o9 : Int → Int) (H : Heap) (locs : List Loc) (ls : Array Slot), (0 ≤ i ∧ i ≤ 6) → (n9 = sm tp i.toNat) → (0 ≤ n9 ∧ n9 ≤ i) → (∀ j, 0 ≤ j → j < i → tp j = 1 → o9 (sm tp j.toNat) = j) → (6 - i).toNat < n → va_P D vwCl (bShares tA a0 a1 a2 a3 a4 tp shr need o9 n9) H → va_D A (bShares tA a0 a1 a2 a3 a4 tp shr need o9 n9) → va_S A s.heap H locs → lv_has ls 2 [(1, .int (iI i)), (0, .ref a0)] → W p l e (headSpec wsX7_firstOrder ({ frames := 0, cells := 0, slots := 0, locals := 0 })).room s m args below meth c H locs 0 0 Q (F0 m 7 ls []) := by
    intro n
    induction n with
    | zero => intro i n9 o9 H locs ls i0 i2 i3 i1 hmz; exact absurd hmz (Nat.not_lt_zero _)
    | succ n ih7 =>
      intro i n9 o9 H locs ls i0 i2 i3 i1 hmz hP hD hS hl
      refine lv_iload_n hx hb dX7_firstOrder_7 rfl (lv_at hl 0 rfl) ?_
      refine zz_bipush hx hb dX7_firstOrder_8 (by decide) ?_
      refine zz_icmp_ge (tgt := 48) hx hb dX7_firstOrder_10 (by decide) (by omega) (by decide) (fun c_10 => ?_) (fun c_10 => ?_)
      · exact hret (o9, n9) _ _ _ _ dX7_firstOrder_48 (show isFst tp o9 n9 from by exact ⟨by rw [i2, show i = 6 by omega]; rfl, fun j h0 h1 => i1 j h0 (by omega)⟩) hP hD hS
      · refine lv_aload_n hx hb dX7_firstOrder_13 rfl (lv_at hl 1 rfl) ?_
        refine va_get (D := D) (ci := 9) (v := .ref a1) (C := RX7) (T := TX7) (N := 5) hx hb hts iX7 hown hK hP 0 rfl rfl 0 (by decide) f_9 (fun _ h9 => h9) rfl dX7_firstOrder_14 ?_
        refine lv_iload_n hx hb dX7_firstOrder_17 rfl (lv_at hl 0 rfl) ?_
        refine zz_zald hx hb hK hP 1 rfl (by decide) (by omega) dX7_firstOrder_18 ?_
        have r_18 := ht i (by omega) (by omega)
        refine zz_if_eq (tgt := 42) hx hb dX7_firstOrder_19 (by decide) (by omega) (fun c_19 => ?_) (fun c_19 => ?_)
        · refine zz_iinc (lv' := [(1, .int (iI (i + 1))), (0, .ref a0)]) hx hb dX7_firstOrder_42 hl (k := 0) rfl (by decide) rfl (fun ls hl => ?_)
          refine lv_goto (tgt := 7) hx hb dX7_firstOrder_45 (by decide) ?_
          exact ih7 (i + 1) n9 o9 _ _ _ (by omega) (by rw [i2]; first | exact sm_next1 (by omega) (by omega) | exact sm_next0 (by omega) c_19) (by omega) (by first | (rw [i2]; exact isFst_step (by omega) (by omega) ht i1) | exact (fun j h0 h1 hj => i1 j h0 (by rcases Int.lt_or_eq_of_le (show j ≤ i by omega) with h | h; exact h; subst h; omega) hj)) (by omega) hP hD hS (lv_sub hl [0, 1] rfl)
        · refine lv_aload_n hx hb dX7_firstOrder_22 rfl (lv_at hl 1 rfl) ?_
          refine va_get (D := D) (ci := 9) (v := .ref a4) (C := RX7) (T := TX7) (N := 5) hx hb hts iX7 hown hK hP 0 rfl rfl 3 (by decide) f_22 (fun _ h9 => h9) rfl dX7_firstOrder_23 ?_
          refine lv_aload_n hx hb dX7_firstOrder_26 rfl (lv_at hl 1 rfl) ?_
          refine va_get (D := D) (ci := 9) (v := .int (iI n9)) (C := RX7) (T := TX7) (N := 5) hx hb hts iX7 hown hK hP 0 rfl rfl 4 (by decide) f_70 (fun _ h9 => h9) rfl dX7_firstOrder_27 ?_
          refine lv_iload_n hx hb dX7_firstOrder_30 rfl (lv_at hl 0 rfl) ?_
          refine zz_iast hx hb hK hP hD hS 4 rfl (by decide) (by omega) dX7_firstOrder_31 (fun H locs hP hD hS => ?_)
          have hP : va_P D vwCl (bShares tA a0 a1 a2 a3 a4 tp shr need (zU o9 n9 i) n9) H := hP
          have hD : va_D A (bShares tA a0 a1 a2 a3 a4 tp shr need (zU o9 n9 i) n9) := hD
          refine lv_aload_n hx hb dX7_firstOrder_32 rfl (lv_at hl 1 rfl) ?_
          refine lv_dup hx hb dX7_firstOrder_33 rfl ?_
          refine va_get (D := D) (ci := 9) (v := .int (iI n9)) (C := RX7) (T := TX7) (N := 5) hx hb hts iX7 hown hK hP 0 rfl rfl 4 (by decide) f_70 (fun _ h9 => h9) rfl dX7_firstOrder_34 ?_
          refine zz_iconst hx hb dX7_firstOrder_37 ?_
          refine zz_iadd hx hb dX7_firstOrder_38 ?_
          refine va_put (D := D) (ci := 9) (v := .int (iI (n9 + 1))) (ty := .int) (C := RX7) (T := TX7) (N := 5) hx hb hts iX7 tyX7 tyX7_ok nmX7 hown hK hP hD hS 0 rfl rfl 4 (by decide) f_70 (fun _ h9 => h9) rfl (by decide +kernel) rfl rfl (Nat.le_of_ble_eq_true rfl) dX7_firstOrder_39 (fun H locs hP hD hS => ?_)
          have hP : va_P D vwCl (bShares tA a0 a1 a2 a3 a4 tp shr need (zU o9 n9 i) (n9 + 1)) H := hP
          have hD : va_D A (bShares tA a0 a1 a2 a3 a4 tp shr need (zU o9 n9 i) (n9 + 1)) := hD
          refine zz_iinc (lv' := [(1, .int (iI (i + 1))), (0, .ref a0)]) hx hb dX7_firstOrder_42 hl (k := 0) rfl (by decide) rfl (fun ls hl => ?_)
          refine lv_goto (tgt := 7) hx hb dX7_firstOrder_45 (by decide) ?_
          exact ih7 (i + 1) (n9 + 1) (zU o9 n9 i) _ _ _ (by omega) (by rw [i2]; first | exact sm_next1 (by omega) (by omega) | exact sm_next0 (by omega) c_19) (by omega) (by first | (rw [i2]; exact isFst_step (by omega) (by omega) ht i1) | exact (fun j h0 h1 hj => i1 j h0 (by rcases Int.lt_or_eq_of_le (show j ≤ i by omega) with h | h; exact h; subst h; omega) hj)) (by omega) hP hD hS (lv_sub hl [0, 1] rfl)
  exact L7 _ 0 0 ordr _ _ _ (by omega) (by rfl) (by omega) (by intro j h0 h1; exact absurd h1 (by omega)) (Nat.lt_succ_self _) hP hD hS (lv_sub hl [0, 1] rfl)

set_option maxHeartbeats 4000000 in
set_option maxRecDepth 100000 in
theorem c_X7_nextOrder (l : Launch) (D : va_G) (tA : Nat → ClassId) (a0 a1 a2 a3 a4 : Nat) (sz : Nat) (tp : Int → Int) (shr : Int → Int) (need : Int → Int) (ordr : Int → Int) (size : Int) (hsz : 0 ≤ size ∧ size ≤ 6) (ho : ∀ j, 0 ≤ j → j < size → (0 ≤ ordr j ∧ ordr j < 6)) : zMi l yX7_nextOrder wsX7_nextOrder ({ frames := 1, cells := 0, slots := 0, locals := 23 }) D tA [.ref a0] (bShares tA a0 a1 a2 a3 a4 tp shr need ordr size) sz (fun (z : Int) (u : (Int → Int)) => (nxtP size ordr u z)) (fun (u : (Int → Int)) => bShares tA a0 a1 a2 a3 a4 tp shr need u size) 0 0 := by
  refine zMi_of (cc := cX7_nextOrder) (maxL := 5) (by decide) rfl (fun z u h => zbool z (by rcases h with h | h; exact Or.inl h.1; exact Or.inr h.1)) (Nat.le_of_ble_eq_true rfl) ?_
  intro p e s m args below meth c A Q ls hx hb hml hts hown hK hP hD hA hret hl
  obtain ⟨H, hHe⟩ : ∃ H : Heap, H = s.heap := ⟨_, rfl⟩
  have hS : va_S A s.heap H [] := by rw [hHe]; exact va_S.rf
  rw [← hHe] at hP ⊢
  have hl : lv_has ls 5 [(0, .ref a0)] := hl
  have iX7 : ∀ v ∈ wsX70, v ∈ wsX7_nextOrder := by decide +kernel
  have f_22 := hts (.fieldLink RX7 22 "HarborLights$Shares" "order" "[I") (by decide +kernel)
  have f_70 := hts (.fieldLink RX7 70 "HarborLights$Shares" "size" "I") (by decide +kernel)
  refine lv_aload_n hx hb dX7_nextOrder_0 rfl (lv_at hl 0 rfl) ?_
  refine va_get (D := D) (ci := 9) (v := .int (iI size)) (C := RX7) (T := TX7) (N := 5) hx hb hts iX7 hown hK hP 0 rfl rfl 4 (by decide) f_70 (fun _ h9 => h9) rfl dX7_nextOrder_1 ?_
  refine zz_iconst hx hb dX7_nextOrder_4 ?_
  refine zz_isub hx hb dX7_nextOrder_5 ?_
  refine lv_istore_n (lv' := [(1, .int (iI (size - 2))), (0, .ref a0)]) hx hb dX7_nextOrder_6 rfl hl (by decide) rfl (fun ls hl => ?_)
  have L7 : ∀ (n : Nat) (tn : Int) (H : Heap) (locs : List Loc) (ls : Array Slot), (-2 ≤ tn ∧ tn ≤ size - 2) → (∀ j, tn < j → j ≤ size - 2 → ordr (j + 1) < ordr j) → (tn + 2).toNat < n → va_P D vwCl (bShares tA a0 a1 a2 a3 a4 tp shr need ordr size) H → va_D A (bShares tA a0 a1 a2 a3 a4 tp shr need ordr size) → va_S A s.heap H locs → lv_has ls 5 [(1, .int (iI tn)), (0, .ref a0)] → W p l e (headSpec wsX7_nextOrder ({ frames := 1, cells := 0, slots := 0, locals := 23 })).room s m args below meth c H locs 0 0 Q (F0 m 7 ls []) := by
    intro n
    induction n with
    | zero => intro tn H locs ls i0 i1 hmz; exact absurd hmz (Nat.not_lt_zero _)
    | succ n ih7 =>
      intro tn H locs ls i0 i1 hmz hP hD hS hl
      refine lv_iload_n hx hb dX7_nextOrder_7 rfl (lv_at hl 0 rfl) ?_
      have J34 : ∀  (H : Heap) (locs : List Loc) (ls : Array Slot), (tn < 0 ∨ (0 ≤ tn ∧ ordr tn ≤ ordr (tn + 1))) → va_P D vwCl (bShares tA a0 a1 a2 a3 a4 tp shr need ordr size) H → va_D A (bShares tA a0 a1 a2 a3 a4 tp shr need ordr size) → va_S A s.heap H locs → lv_has ls 5 [(1, .int (iI tn)), (0, .ref a0)] → W p l e (headSpec wsX7_nextOrder ({ frames := 1, cells := 0, slots := 0, locals := 23 })).room s m args below meth c H locs 0 0 Q (F0 m 34 ls []) := by
        intro  H locs ls jj hP hD hS hl
        refine lv_iload_n hx hb dX7_nextOrder_34 rfl (lv_at hl 0 rfl) ?_
        refine zz_if_ge (tgt := 40) hx hb dX7_nextOrder_35 (by decide) (by omega) (fun c_35 => ?_) (fun c_35 => ?_)
        · refine lv_aload_n hx hb dX7_nextOrder_40 rfl (lv_at hl 1 rfl) ?_
          refine va_get (D := D) (ci := 9) (v := .int (iI size)) (C := RX7) (T := TX7) (N := 5) hx hb hts iX7 hown hK hP 0 rfl rfl 4 (by decide) f_70 (fun _ h9 => h9) rfl dX7_nextOrder_41 ?_
          refine zz_iconst hx hb dX7_nextOrder_44 ?_
          refine zz_isub hx hb dX7_nextOrder_45 ?_
          refine lv_istore_n (lv' := [(2, .int (iI (size - 1))), (1, .int (iI tn)), (0, .ref a0)]) hx hb dX7_nextOrder_46 rfl hl (by decide) rfl (fun ls hl => ?_)
          have L47 : ∀ (n : Nat) (gr : Int) (H : Heap) (locs : List Loc) (ls : Array Slot), (tn ≤ gr ∧ gr ≤ size - 1) → (∀ j, gr < j → j ≤ size - 1 → ordr j < ordr tn) → (gr - tn).toNat < n → va_P D vwCl (bShares tA a0 a1 a2 a3 a4 tp shr need ordr size) H → va_D A (bShares tA a0 a1 a2 a3 a4 tp shr need ordr size) → va_S A s.heap H locs → lv_has ls 5 [(2, .int (iI gr)), (1, .int (iI tn)), (0, .ref a0)] → W p l e (headSpec wsX7_nextOrder ({ frames := 1, cells := 0, slots := 0, locals := 23 })).room s m args below meth c H locs 0 0 Q (F0 m 47 ls []) := by
            intro n
            induction n with
            | zero => intro gr H locs ls k0 k1 hmz; exact absurd hmz (Nat.not_lt_zero _)
            | succ n ih47 =>
              intro gr H locs ls k0 k1 hmz hP hD hS hl
              refine lv_iload_n hx hb dX7_nextOrder_47 rfl (lv_at hl 0 rfl) ?_
              refine lv_iload_n hx hb dX7_nextOrder_48 rfl (lv_at hl 1 rfl) ?_
              have J73 : ∀  (H : Heap) (locs : List Loc) (ls : Array Slot), (gr = tn ∨ ordr tn ≤ ordr gr) → va_P D vwCl (bShares tA a0 a1 a2 a3 a4 tp shr need ordr size) H → va_D A (bShares tA a0 a1 a2 a3 a4 tp shr need ordr size) → va_S A s.heap H locs → lv_has ls 5 [(2, .int (iI gr)), (1, .int (iI tn)), (0, .ref a0)] → W p l e (headSpec wsX7_nextOrder ({ frames := 1, cells := 0, slots := 0, locals := 23 })).room s m args below meth c H locs 0 0 Q (F0 m 73 ls []) := by
                intro  H locs ls kk hP hD hS hl
                refine lv_aload_n hx hb dX7_nextOrder_73 rfl (lv_at hl 2 rfl) ?_
                refine lv_iload_n hx hb dX7_nextOrder_74 rfl (lv_at hl 1 rfl) ?_
                refine lv_iload_n hx hb dX7_nextOrder_75 rfl (lv_at hl 0 rfl) ?_
                refine zz_callVv (As := [.int (iI tn), .int (iI gr)]) (rest := []) (wf := fun u => bShares tA a0 a1 a2 a3 a4 tp shr need (zU (zU ordr tn (ordr gr)) gr (ordr tn)) size) ⟨hx, hb, hml, hown, hts⟩ (c_X7_swap l D tA a0 a1 a2 a3 a4 H.size tp shr need ordr size tn gr (by first | assumption | omega) (by first | assumption | omega) (by first | assumption | omega) (by first | assumption | omega)) (cwV 2 hts gX7_nextOrder_X7_swap rfl rfl rfl (by decide +kernel) ⟨Nat.le_of_ble_eq_true rfl, Nat.le_of_ble_eq_true rfl⟩) hK hP hD hS hA [0, 1, 2, 3, 4] [] [0, 1, 2, 3, 4] rfl rfl (by decide) (by decide) (by decide) (by decide) (fun _ => rfl) (ci := 9) (q0 := 0) rfl rfl rfl rfl rfl hl.1 (Nat.le_of_ble_eq_true rfl) dX7_nextOrder_76 ⟨Nat.le_of_ble_eq_true rfl, Nat.le_of_ble_eq_true rfl⟩ ?_
                intro u H locs p76_1 hP hD hS
                have hP : va_P D vwCl (bShares tA a0 a1 a2 a3 a4 tp shr need (zU (zU ordr tn (ordr gr)) gr (ordr tn)) size) H := hP
                have hD : va_D A (bShares tA a0 a1 a2 a3 a4 tp shr need (zU (zU ordr tn (ordr gr)) gr (ordr tn)) size) := hD
                refine lv_iload_n hx hb dX7_nextOrder_79 rfl (lv_at hl 1 rfl) ?_
                refine zz_iconst hx hb dX7_nextOrder_80 ?_
                refine zz_iadd hx hb dX7_nextOrder_81 ?_
                refine lv_istore_n (lv' := [(3, .int (iI (tn + 1))), (2, .int (iI gr)), (1, .int (iI tn)), (0, .ref a0)]) hx hb dX7_nextOrder_82 rfl hl (by decide) rfl (fun ls hl => ?_)
                refine lv_aload_n hx hb dX7_nextOrder_83 rfl (lv_at hl 3 rfl) ?_
                refine va_get (D := D) (ci := 9) (v := .int (iI size)) (C := RX7) (T := TX7) (N := 5) hx hb hts iX7 hown hK hP 0 rfl rfl 4 (by decide) f_70 (fun _ h9 => h9) rfl dX7_nextOrder_84 ?_
                refine zz_iconst hx hb dX7_nextOrder_87 ?_
                refine zz_isub hx hb dX7_nextOrder_88 ?_
                refine lv_istore (lv' := [(4, .int (iI (size - 1))), (3, .int (iI (tn + 1))), (2, .int (iI gr)), (1, .int (iI tn)), (0, .ref a0)]) hx hb dX7_nextOrder_89 hl (by decide) rfl (fun ls hl => ?_)
                have L91 : ∀ (n : Nat) (rt : Int) (lf : Int) (o9 : Int → Int) (H : Heap) (locs : List Loc) (ls : Array Slot), (lf + rt = tn + size) → (tn + 1 ≤ lf ∧ lf ≤ rt + 1 ∧ rt ≤ size - 1) → (o9 = rvO tn size lf (swO ordr tn gr)) → (rt - lf + 1).toNat < n → va_P D vwCl (bShares tA a0 a1 a2 a3 a4 tp shr need o9 size) H → va_D A (bShares tA a0 a1 a2 a3 a4 tp shr need o9 size) → va_S A s.heap H locs → lv_has ls 5 [(4, .int (iI rt)), (3, .int (iI lf)), (2, .int (iI gr)), (1, .int (iI tn)), (0, .ref a0)] → W p l e (headSpec wsX7_nextOrder ({ frames := 1, cells := 0, slots := 0, locals := 23 })).room s m args below meth c H locs 0 0 Q (F0 m 91 ls []) := by
                  intro n
                  induction n with
                  | zero => intro rt lf o9 H locs ls m0 m1 m2 hmz; exact absurd hmz (Nat.not_lt_zero _)
                  | succ n ih91 =>
                    intro rt lf o9 H locs ls m0 m1 m2 hmz hP hD hS hl
                    refine lv_iload_n hx hb dX7_nextOrder_91 rfl (lv_at hl 1 rfl) ?_
                    refine lv_iload hx hb dX7_nextOrder_92 (lv_at hl 0 rfl) ?_
                    refine zz_icmp_ge (tgt := 113) hx hb dX7_nextOrder_94 (by decide) (by omega) (by omega) (fun c_94 => ?_) (fun c_94 => ?_)
                    · refine zz_iconst hx hb dX7_nextOrder_113 ?_
                      exact hret 1 o9 _ _ _ _ dX7_nextOrder_114 (show nxtP size ordr o9 (1 : Int) from by exact Or.inr ⟨rfl, tn, gr, ⟨by omega, by omega, by omega, i1, by omega, by omega, kk, k1⟩, by rw [m2]; exact rvO_end tn size lf rt gr ordr m0 (by omega) (by omega) (by omega)⟩) hP hD hS
                    · refine lv_aload_n hx hb dX7_nextOrder_97 rfl (lv_at hl 4 rfl) ?_
                      refine lv_iload_n hx hb dX7_nextOrder_98 rfl (lv_at hl 1 rfl) ?_
                      refine lv_iload hx hb dX7_nextOrder_99 (lv_at hl 0 rfl) ?_
                      refine zz_callVv (As := [.int (iI lf), .int (iI rt)]) (rest := []) (wf := fun u => bShares tA a0 a1 a2 a3 a4 tp shr need (zU (zU o9 lf (o9 rt)) rt (o9 lf)) size) ⟨hx, hb, hml, hown, hts⟩ (c_X7_swap l D tA a0 a1 a2 a3 a4 H.size tp shr need o9 size lf rt (by first | assumption | omega) (by first | assumption | omega) (by first | assumption | omega) (by first | assumption | omega)) (cwV 2 hts gX7_nextOrder_X7_swap rfl rfl rfl (by decide +kernel) ⟨Nat.le_of_ble_eq_true rfl, Nat.le_of_ble_eq_true rfl⟩) hK hP hD hS hA [0, 1, 2, 3, 4] [] [0, 1, 2, 3, 4] rfl rfl (by decide) (by decide) (by decide) (by decide) (fun _ => rfl) (ci := 9) (q0 := 0) rfl rfl rfl rfl rfl hl.1 (Nat.le_of_ble_eq_true rfl) dX7_nextOrder_101 ⟨Nat.le_of_ble_eq_true rfl, Nat.le_of_ble_eq_true rfl⟩ ?_
                      intro u H locs p101_2 hP hD hS
                      have hP : va_P D vwCl (bShares tA a0 a1 a2 a3 a4 tp shr need (zU (zU o9 lf (o9 rt)) rt (o9 lf)) size) H := hP
                      have hD : va_D A (bShares tA a0 a1 a2 a3 a4 tp shr need (zU (zU o9 lf (o9 rt)) rt (o9 lf)) size) := hD
                      refine zz_iinc (lv' := [(3, .int (iI (lf + 1))), (4, .int (iI rt)), (2, .int (iI gr)), (1, .int (iI tn)), (0, .ref a0)]) hx hb dX7_nextOrder_104 hl (k := 1) rfl (by decide) rfl (fun ls hl => ?_)
                      refine zz_iinc (lv' := [(4, .int (iI (rt + (-1)))), (3, .int (iI (lf + 1))), (2, .int (iI gr)), (1, .int (iI tn)), (0, .ref a0)]) hx hb dX7_nextOrder_107 hl (k := 1) rfl (by decide) rfl (fun ls hl => ?_)
                      refine lv_goto (tgt := 91) hx hb dX7_nextOrder_110 (by decide) ?_
                      exact ih91 (rt + (-1)) (lf + 1) (zU (zU o9 lf (o9 rt)) rt (o9 lf)) _ _ _ (by omega) (by omega) (by subst m2; exact rvO_s tn size lf rt _ m0 (by omega) (by omega) (by omega)) (by omega) hP hD hS (lv_sub hl [0, 1, 2, 3, 4] rfl)
                exact L91 _ (size - 1) (tn + 1) (zU (zU ordr tn (ordr gr)) gr (ordr tn)) _ _ _ (by omega) (by omega) (by exact (rvO_0 tn size _).symm) (Nat.lt_succ_self _) hP hD hS (lv_sub hl [0, 1, 2, 3, 4] rfl)
              refine zz_icmp_le (tgt := 73) hx hb dX7_nextOrder_49 (by decide) (by omega) (by omega) (fun c_49 => ?_) (fun c_49 => ?_)
              · exact J73  _ _ _ (by omega) hP hD hS (lv_sub hl [0, 1, 2] rfl)
              · refine lv_aload_n hx hb dX7_nextOrder_52 rfl (lv_at hl 2 rfl) ?_
                refine va_get (D := D) (ci := 9) (v := .ref a4) (C := RX7) (T := TX7) (N := 5) hx hb hts iX7 hown hK hP 0 rfl rfl 3 (by decide) f_22 (fun _ h9 => h9) rfl dX7_nextOrder_53 ?_
                refine lv_iload_n hx hb dX7_nextOrder_56 rfl (lv_at hl 0 rfl) ?_
                refine zz_iald hx hb hK hP 4 rfl (by decide) (by omega) dX7_nextOrder_57 ?_
                have r_57 := ho gr (by omega) (by omega)
                refine lv_aload_n hx hb dX7_nextOrder_58 rfl (lv_at hl 2 rfl) ?_
                refine va_get (D := D) (ci := 9) (v := .ref a4) (C := RX7) (T := TX7) (N := 5) hx hb hts iX7 hown hK hP 0 rfl rfl 3 (by decide) f_22 (fun _ h9 => h9) rfl dX7_nextOrder_59 ?_
                refine lv_iload_n hx hb dX7_nextOrder_62 rfl (lv_at hl 1 rfl) ?_
                refine zz_iald hx hb hK hP 4 rfl (by decide) (by omega) dX7_nextOrder_63 ?_
                have r_63 := ho tn (by omega) (by omega)
                refine zz_icmp_ge (tgt := 73) hx hb dX7_nextOrder_64 (by decide) (by omega) (by omega) (fun c_64 => ?_) (fun c_64 => ?_)
                · exact J73  _ _ _ (by omega) hP hD hS (lv_sub hl [0, 1, 2] rfl)
                · refine zz_iinc (lv' := [(2, .int (iI (gr + (-1)))), (1, .int (iI tn)), (0, .ref a0)]) hx hb dX7_nextOrder_67 hl (k := 0) rfl (by decide) rfl (fun ls hl => ?_)
                  refine lv_goto (tgt := 47) hx hb dX7_nextOrder_70 (by decide) ?_
                  exact ih47 (gr + (-1)) _ _ _ (by omega) (by intro j h0 h1; rcases Int.lt_or_eq_of_le (show gr ≤ j by omega) with h | h; exact k1 j h h1; subst h; omega) (by omega) hP hD hS (lv_sub hl [0, 1, 2] rfl)
          exact L47 _ (size - 1) _ _ _ (by omega) (by intro j h0 h1; exact absurd h1 (by omega)) (Nat.lt_succ_self _) hP hD hS (lv_sub hl [0, 1, 2] rfl)
        · refine zz_iconst hx hb dX7_nextOrder_38 ?_
          exact hret 0 ordr _ _ _ _ dX7_nextOrder_39 (show nxtP size ordr ordr (0 : Int) from by exact Or.inl ⟨rfl, rfl, fun j j0 j1 => i1 j (by omega) j1⟩) hP hD hS
      refine zz_if_lt (tgt := 34) hx hb dX7_nextOrder_8 (by decide) (by omega) (fun c_8 => ?_) (fun c_8 => ?_)
      · exact J34  _ _ _ (by omega) hP hD hS (lv_sub hl [0, 1] rfl)
      · refine lv_aload_n hx hb dX7_nextOrder_11 rfl (lv_at hl 1 rfl) ?_
        refine va_get (D := D) (ci := 9) (v := .ref a4) (C := RX7) (T := TX7) (N := 5) hx hb hts iX7 hown hK hP 0 rfl rfl 3 (by decide) f_22 (fun _ h9 => h9) rfl dX7_nextOrder_12 ?_
        refine lv_iload_n hx hb dX7_nextOrder_15 rfl (lv_at hl 0 rfl) ?_
        refine zz_iald hx hb hK hP 4 rfl (by decide) (by omega) dX7_nextOrder_16 ?_
        have r_16 := ho tn (by omega) (by omega)
        refine lv_aload_n hx hb dX7_nextOrder_17 rfl (lv_at hl 1 rfl) ?_
        refine va_get (D := D) (ci := 9) (v := .ref a4) (C := RX7) (T := TX7) (N := 5) hx hb hts iX7 hown hK hP 0 rfl rfl 3 (by decide) f_22 (fun _ h9 => h9) rfl dX7_nextOrder_18 ?_
        refine lv_iload_n hx hb dX7_nextOrder_21 rfl (lv_at hl 0 rfl) ?_
        refine zz_iconst hx hb dX7_nextOrder_22 ?_
        refine zz_iadd hx hb dX7_nextOrder_23 ?_
        refine zz_iald hx hb hK hP 4 rfl (by decide) (by omega) dX7_nextOrder_24 ?_
        have r_24 := ho (tn + 1) (by omega) (by omega)
        refine zz_icmp_le (tgt := 34) hx hb dX7_nextOrder_25 (by decide) (by omega) (by omega) (fun c_25 => ?_) (fun c_25 => ?_)
        · exact J34  _ _ _ (by omega) hP hD hS (lv_sub hl [0, 1] rfl)
        · refine zz_iinc (lv' := [(1, .int (iI (tn + (-1)))), (0, .ref a0)]) hx hb dX7_nextOrder_28 hl (k := 0) rfl (by decide) rfl (fun ls hl => ?_)
          refine lv_goto (tgt := 7) hx hb dX7_nextOrder_31 (by decide) ?_
          exact ih7 (tn + (-1)) _ _ _ (by omega) (by intro j h0 h1; rcases Int.lt_or_eq_of_le (show tn ≤ j by omega) with h | h; exact i1 j h h1; subst h; omega) (by omega) hP hD hS (lv_sub hl [0, 1] rfl)
  exact L7 _ (size - 2) _ _ _ (by omega) (by intro j h0 h1; exact absurd h1 (by omega)) (Nat.lt_succ_self _) hP hD hS (lv_sub hl [0, 1] rfl)

set_option maxHeartbeats 4000000 in
set_option maxRecDepth 100000 in
theorem c_X7_meanOverOrders (l : Launch) (D : va_G) (tA : Nat → ClassId) (a0 a1 a2 a3 a4 : Nat) (sz : Nat) (tp : Int → Int) (shr : Int → Int) (need : Int → Int) (ordr : Int → Int) (size : Int) (ship : Int) (r_ship : -2147483648 ≤ ship ∧ ship ≤ 2147483647) (hv : TpV tp need) (hs : 0 ≤ ship ∧ ship < 6) : zMi l yX7_meanOverOrders wsX7_meanOverOrders ({ frames := 2, cells := 0, slots := 0, locals := 47 }) D tA [.ref a0, .int (iI ship)] (bShares tA a0 a1 a2 a3 a4 tp shr need ordr size) sz (fun (z : Int) (u : (Int → Int) × (Int)) => ((tp ship = 0 ∧ z = -1) ∨ (tp ship = 1 ∧ z = shR tp need (need ship).toNat))) (fun (u : (Int → Int) × (Int)) => bShares tA a0 a1 a2 a3 a4 tp shr need u.1 u.2) 0 0 := by
  refine zMi_of (cc := cX7_meanOverOrders) (maxL := 5) (by decide) rfl (fun z u h => rfl) (Nat.le_of_ble_eq_true rfl) ?_
  intro p e s m args below meth c A Q ls hx hb hml hts hown hK hP hD hA hret hl
  obtain ⟨H, hHe⟩ : ∃ H : Heap, H = s.heap := ⟨_, rfl⟩
  have hS : va_S A s.heap H [] := by rw [hHe]; exact va_S.rf
  rw [← hHe] at hP ⊢
  have hl : lv_has ls 5 [(0, .ref a0), (1, .int (iI ship))] := hl
  have iX7 : ∀ v ∈ wsX70, v ∈ wsX7_meanOverOrders := by decide +kernel
  have f_9 := hts (.fieldLink RX7 9 "HarborLights$Shares" "takesPart" "[Z") (by decide +kernel)
  refine lv_aload_n hx hb dX7_meanOverOrders_0 rfl (lv_at hl 0 rfl) ?_
  refine va_get (D := D) (ci := 9) (v := .ref a1) (C := RX7) (T := TX7) (N := 5) hx hb hts iX7 hown hK hP 0 rfl rfl 0 (by decide) f_9 (fun _ h9 => h9) rfl dX7_meanOverOrders_1 ?_
  refine lv_iload_n hx hb dX7_meanOverOrders_4 rfl (lv_at hl 1 rfl) ?_
  refine zz_zald hx hb hK hP 1 rfl (by decide) (by omega) dX7_meanOverOrders_5 ?_
  have r_5 := hv.1 ship (by omega) (by omega)
  refine zz_if_ne (tgt := 11) hx hb dX7_meanOverOrders_6 (by decide) (by omega) (fun c_6 => ?_) (fun c_6 => ?_)
  · refine lv_aload_n hx hb dX7_meanOverOrders_11 rfl (lv_at hl 0 rfl) ?_
    refine zz_callVv (As := []) (rest := []) (wf := fun u => bShares tA a0 a1 a2 a3 a4 tp shr need u.1 u.2) ⟨hx, hb, hml, hown, hts⟩ (c_X7_firstOrder l D tA a0 a1 a2 a3 a4 H.size tp shr need ordr size hv.1) (cwV 0 hts gX7_meanOverOrders_X7_firstOrder rfl rfl rfl (by decide +kernel) ⟨Nat.le_of_ble_eq_true rfl, Nat.le_of_ble_eq_true rfl⟩) hK hP hD hS hA [0, 1, 2, 3, 4] [] [0, 1, 2, 3, 4] rfl rfl (by decide) (by decide) (by decide) (by decide) (fun _ => rfl) (ci := 9) (q0 := 0) rfl rfl rfl rfl rfl hl.1 (Nat.le_of_ble_eq_true rfl) dX7_meanOverOrders_12 ⟨Nat.le_of_ble_eq_true rfl, Nat.le_of_ble_eq_true rfl⟩ ?_
    intro u H locs p12_3 hP hD hS
    obtain ⟨ordr_1, size_2⟩ := u
    have hP : va_P D vwCl (bShares tA a0 a1 a2 a3 a4 tp shr need ordr_1 size_2) H := hP
    have hD : va_D A (bShares tA a0 a1 a2 a3 a4 tp shr need ordr_1 size_2) := hD
    have q_12 : isFst tp ordr_1 size_2 := p12_3
    have hsz0 := q_12.1
    have hsz1 := sm_in (f := tp) (n := 6) (fun j j0 j1 => by rcases hv.1 j j0 j1 with q | q <;> omega)
    refine zz_iconst hx hb dX7_meanOverOrders_15 ?_
    refine lv_istore_n (lv' := [(2, .int (iI 0)), (0, .ref a0), (1, .int (iI ship))]) hx hb dX7_meanOverOrders_16 rfl hl (by decide) rfl (fun ls hl => ?_)
    refine zz_iconst hx hb dX7_meanOverOrders_17 ?_
    refine lv_istore_n (lv' := [(3, .int (iI 0)), (2, .int (iI 0)), (0, .ref a0), (1, .int (iI ship))]) hx hb dX7_meanOverOrders_18 rfl hl (by decide) rfl (fun ls hl => ?_)
    refine zz_iconst hx hb dX7_meanOverOrders_19 ?_
    refine lv_istore (lv' := [(4, .int (iI 1)), (3, .int (iI 0)), (2, .int (iI 0)), (0, .ref a0), (1, .int (iI ship))]) hx hb dX7_meanOverOrders_20 hl (by decide) rfl (fun ls hl => ?_)
    have L22 : ∀ (n : Nat) (mo : Int) (oc : Int) (tot : Int) (o9 : Int → Int) (H : Heap) (locs : List Loc) (ls : Array Slot), (OrdI tp need size_2 ship o9 tot oc mo) → (720 - oc).toNat < n → va_P D vwCl (bShares tA a0 a1 a2 a3 a4 tp shr need o9 size_2) H → va_D A (bShares tA a0 a1 a2 a3 a4 tp shr need o9 size_2) → va_S A s.heap H locs → lv_has ls 5 [(4, .int (iI mo)), (3, .int (iI oc)), (2, .int (iI tot)), (0, .ref a0), (1, .int (iI ship))] → W p l e (headSpec wsX7_meanOverOrders ({ frames := 2, cells := 0, slots := 0, locals := 47 })).room s m args below meth c H locs 0 0 Q (F0 m 22 ls []) := by
      intro n
      induction n with
      | zero => intro mo oc tot o9 H locs ls i1 hmz; exact absurd hmz (Nat.not_lt_zero _)
      | succ n ih22 =>
        intro mo oc tot o9 H locs ls i1 hmz hP hD hS hl
        have w0 := (oC_len (msk tp) (msk_lt tp)).2
        have w1 := i1.1.1
        have w4 := i1.1.2.1
        have w2 := i1.1.2.2.2
        have w3 : mo = 0 ∨ mo = 1 := by rcases i1.2 with h | h <;> omega
        refine lv_iload hx hb dX7_meanOverOrders_22 (lv_at hl 0 rfl) ?_
        refine zz_if_eq (tgt := 54) hx hb dX7_meanOverOrders_24 (by decide) (by omega) (fun c_24 => ?_) (fun c_24 => ?_)
        · refine lv_iload_n hx hb dX7_meanOverOrders_54 rfl (lv_at hl 1 rfl) ?_
          refine zz_if_le (tgt := 64) hx hb dX7_meanOverOrders_55 (by decide) (by omega) (fun c_55 => ?_) (fun c_55 => ?_)
          · refine zz_iconst hx hb dX7_meanOverOrders_64 ?_
            exact hret (-1) (o9, size_2) _ _ _ _ dX7_meanOverOrders_65 (show (tp ship = 0 ∧ ((-1) : Int) = -1) ∨ (tp ship = 1 ∧ ((-1) : Int) = shR tp need (need ship).toNat) from by first | (have e := OrdI_end hv hs (by omega) i1 (by omega); exact Or.inr ⟨by omega, e.2⟩) | (exfalso; have e := OrdI_end hv hs (by omega) i1 (by omega); omega)) hP hD hS
          · refine lv_iload_n hx hb dX7_meanOverOrders_58 rfl (lv_at hl 2 rfl) ?_
            refine lv_iload_n hx hb dX7_meanOverOrders_59 rfl (lv_at hl 1 rfl) ?_
            refine zz_idiv hx hb dX7_meanOverOrders_60 (by omega) (by omega) ?_
            refine lv_goto (tgt := 65) hx hb dX7_meanOverOrders_61 (by decide) ?_
            exact hret (tot / oc) (o9, size_2) _ _ _ _ dX7_meanOverOrders_65 (show (tp ship = 0 ∧ (tot / oc) = -1) ∨ (tp ship = 1 ∧ (tot / oc) = shR tp need (need ship).toNat) from by first | (have e := OrdI_end hv hs (by omega) i1 (by omega); exact Or.inr ⟨by omega, e.2⟩) | (exfalso; have e := OrdI_end hv hs (by omega) i1 (by omega); omega)) hP hD hS
        · refine lv_iload_n hx hb dX7_meanOverOrders_27 rfl (lv_at hl 1 rfl) ?_
          refine zz_sipush hx hb dX7_meanOverOrders_28 (by decide) ?_
          refine zz_icmp_ge (tgt := 54) hx hb dX7_meanOverOrders_31 (by decide) (by omega) (by decide) (fun c_31 => ?_) (fun c_31 => ?_)
          · refine lv_iload_n hx hb dX7_meanOverOrders_54 rfl (lv_at hl 1 rfl) ?_
            refine zz_if_le (tgt := 64) hx hb dX7_meanOverOrders_55 (by decide) (by omega) (fun c_55 => ?_) (fun c_55 => ?_)
            · refine zz_iconst hx hb dX7_meanOverOrders_64 ?_
              exact hret (-1) (o9, size_2) _ _ _ _ dX7_meanOverOrders_65 (show (tp ship = 0 ∧ ((-1) : Int) = -1) ∨ (tp ship = 1 ∧ ((-1) : Int) = shR tp need (need ship).toNat) from by first | (have e := OrdI_end hv hs (by omega) i1 (by omega); exact Or.inr ⟨by omega, e.2⟩) | (exfalso; have e := OrdI_end hv hs (by omega) i1 (by omega); omega)) hP hD hS
            · refine lv_iload_n hx hb dX7_meanOverOrders_58 rfl (lv_at hl 2 rfl) ?_
              refine lv_iload_n hx hb dX7_meanOverOrders_59 rfl (lv_at hl 1 rfl) ?_
              refine zz_idiv hx hb dX7_meanOverOrders_60 (by omega) (by omega) ?_
              refine lv_goto (tgt := 65) hx hb dX7_meanOverOrders_61 (by decide) ?_
              exact hret (tot / oc) (o9, size_2) _ _ _ _ dX7_meanOverOrders_65 (show (tp ship = 0 ∧ (tot / oc) = -1) ∨ (tp ship = 1 ∧ (tot / oc) = shR tp need (need ship).toNat) from by first | (have e := OrdI_end hv hs (by omega) i1 (by omega); exact Or.inr ⟨by omega, e.2⟩) | (exfalso; have e := OrdI_end hv hs (by omega) i1 (by omega); omega)) hP hD hS
          · refine lv_iload_n hx hb dX7_meanOverOrders_34 rfl (lv_at hl 2 rfl) ?_
            refine lv_aload_n hx hb dX7_meanOverOrders_35 rfl (lv_at hl 3 rfl) ?_
            refine lv_iload_n hx hb dX7_meanOverOrders_36 rfl (lv_at hl 4 rfl) ?_
            refine zz_callVi (As := [.int (iI ship)]) (rest := [.int (iI tot)]) (wf := fun u => bShares tA a0 a1 a2 a3 a4 tp shr need o9 size_2) ⟨hx, hb, hml, hown, hts⟩ (c_X7_increaseBy l D tA a0 a1 a2 a3 a4 H.size tp shr need o9 size_2 ship (by first | assumption | omega) (by first | assumption | omega) (fun j j0 j1 => by have d := (OrdI_dig hv q_12.1 i1 c_24).1 j j0 j1; exact ⟨d.1, d.2.1⟩) (fun j j0 j1 => by have d := (OrdI_dig hv q_12.1 i1 c_24).1 j j0 j1; exact hv.2 _ d.1 d.2.1 d.2.2) ((OrdI_dig hv q_12.1 i1 c_24).2 ship hs.1 hs.2 (by omega))) (cwV 1 hts gX7_meanOverOrders_X7_increaseBy rfl rfl rfl (by decide +kernel) ⟨Nat.le_of_ble_eq_true rfl, Nat.le_of_ble_eq_true rfl⟩) hK hP hD hS hA [0, 1, 2, 3, 4] [] [0, 1, 2, 3, 4] rfl rfl (by decide) (by decide) (by decide) (by decide) (fun _ => rfl) (ci := 9) (q0 := 0) rfl rfl rfl rfl rfl hl.1 (Nat.le_of_ble_eq_true rfl) dX7_meanOverOrders_37 ⟨Nat.le_of_ble_eq_true rfl, Nat.le_of_ble_eq_true rfl⟩ ?_
            intro z37_4 u H locs p37_5 hP hD hS
            have hP : va_P D vwCl (bShares tA a0 a1 a2 a3 a4 tp shr need o9 size_2) H := hP
            have hD : va_D A (bShares tA a0 a1 a2 a3 a4 tp shr need o9 size_2) := hD
            have q_37 : isInc need o9 size_2 ship z37_4 := p37_5
            have zin := isInc_in (hv.2 ship hs.1 hs.2 (by omega)) q_37
            refine zz_iadd hx hb dX7_meanOverOrders_40 ?_
            refine lv_istore_n (lv' := [(2, .int (iI (tot + z37_4))), (4, .int (iI mo)), (3, .int (iI oc)), (0, .ref a0), (1, .int (iI ship))]) hx hb dX7_meanOverOrders_41 rfl hl (by decide) rfl (fun ls hl => ?_)
            refine zz_iinc (lv' := [(3, .int (iI (oc + 1))), (2, .int (iI (tot + z37_4))), (4, .int (iI mo)), (0, .ref a0), (1, .int (iI ship))]) hx hb dX7_meanOverOrders_42 hl (k := 2) rfl (by decide) rfl (fun ls hl => ?_)
            refine lv_aload_n hx hb dX7_meanOverOrders_45 rfl (lv_at hl 3 rfl) ?_
            refine zz_callVi (As := []) (rest := []) (wf := fun u => bShares tA a0 a1 a2 a3 a4 tp shr need u size_2) ⟨hx, hb, hml, hown, hts⟩ (c_X7_nextOrder l D tA a0 a1 a2 a3 a4 H.size tp shr need o9 size_2 (by first | assumption | omega) (fun j j0 j1 => by have d := (OrdI_dig hv q_12.1 i1 c_24).1 j j0 j1; exact ⟨d.1, d.2.1⟩)) (cwV 0 hts gX7_meanOverOrders_X7_nextOrder rfl rfl rfl (by decide +kernel) ⟨Nat.le_of_ble_eq_true rfl, Nat.le_of_ble_eq_true rfl⟩) hK hP hD hS hA [0, 1, 2, 3, 4] [] [0, 1, 2, 3, 4] rfl rfl (by decide) (by decide) (by decide) (by decide) (fun _ => rfl) (ci := 9) (q0 := 0) rfl rfl rfl rfl rfl hl.1 (Nat.le_of_ble_eq_true rfl) dX7_meanOverOrders_46 ⟨Nat.le_of_ble_eq_true rfl, Nat.le_of_ble_eq_true rfl⟩ ?_
            intro z46_7 u H locs p46_8 hP hD hS
            obtain ⟨ordr_6, rfl⟩ : ∃ q, q = u := ⟨_, rfl⟩
            have hP : va_P D vwCl (bShares tA a0 a1 a2 a3 a4 tp shr need ordr_6 size_2) H := hP
            have hD : va_D A (bShares tA a0 a1 a2 a3 a4 tp shr need ordr_6 size_2) := hD
            have q_46 : nxtP size_2 o9 ordr_6 z46_7 := p46_8
            refine lv_istore (lv' := [(4, .int (iI z46_7)), (3, .int (iI (oc + 1))), (2, .int (iI (tot + z37_4))), (0, .ref a0), (1, .int (iI ship))]) hx hb dX7_meanOverOrders_49 hl (by decide) rfl (fun ls hl => ?_)
            refine lv_goto (tgt := 22) hx hb dX7_meanOverOrders_51 (by decide) ?_
            exact ih22 z46_7 (oc + 1) (tot + z37_4) ordr_6 _ _ _ (by exact OrdI_step hv q_12.1 hs (by omega) i1 c_24 q_37 q_46) (by omega) hP hD hS (lv_sub hl [0, 1, 2, 3, 4] rfl)
    exact L22 _ 1 0 0 ordr_1 _ _ _ (by exact OrdI_init hv q_12) (Nat.lt_succ_self _) hP hD hS (lv_sub hl [0, 1, 2, 3, 4] rfl)
  · refine zz_iconst hx hb dX7_meanOverOrders_9 ?_
    exact hret (-1) (ordr, size) _ _ _ _ dX7_meanOverOrders_10 (show (tp ship = 0 ∧ ((-1) : Int) = -1) ∨ (tp ship = 1 ∧ ((-1) : Int) = shR tp need (need ship).toNat) from by omega) hP hD hS

set_option maxHeartbeats 4000000 in
set_option maxRecDepth 100000 in
theorem c_X7_dropThoseWhoCannotPay (l : Launch) (D : va_G) (tA : Nat → ClassId) (a0 a1 a2 a3 a4 b0 b1 b2 b3 b4 b5 : Nat) (sz : Nat) (tp : Int → Int) (shr : Int → Int) (need : Int → Int) (ordr : Int → Int) (size : Int) (cnt : Int) (strt : Int → Int) (goal : Int → Int) (money : Int → Int) (litN : Int → Int) (darkN : Int → Int) (hv : TpV tp need) (hc : 0 ≤ cnt ∧ cnt ≤ 6) (Rm : ∀ j, 0 ≤ j → j < cnt → -2147483648 ≤ money j ∧ money j ≤ 2147483647) : zMv l yX7_dropThoseWhoCannotPay wsX7_dropThoseWhoCannotPay ({ frames := 2, cells := 0, slots := 0, locals := 49 }) D tA [.ref a0, .ref b0] (bShares tA a0 a1 a2 a3 a4 tp shr need ordr size ++ bShips tA b0 b1 b2 b3 b4 b5 cnt strt goal money litN darkN) sz (fun (u : (Int → Int) × (Int → Int)) => (∃ k, isLeft need money cnt k tp u.1) ∧ (isSh u.1 need u.2) ∧ (TpV u.1 need)) (fun (u : (Int → Int) × (Int → Int)) => bShares tA a0 a1 a2 a3 a4 u.1 u.2 need ordr size ++ bShips tA b0 b1 b2 b3 b4 b5 cnt strt goal money litN darkN) 0 0 := by
  refine zMv_of (cc := cX7_dropThoseWhoCannotPay) (maxL := 4) (by decide) rfl (Nat.le_of_ble_eq_true rfl) ?_
  intro p e s m args below meth c A Q ls hx hb hml hts hown hK hP hD hA hret hl
  obtain ⟨H, hHe⟩ : ∃ H : Heap, H = s.heap := ⟨_, rfl⟩
  have hS : va_S A s.heap H [] := by rw [hHe]; exact va_S.rf
  rw [← hHe] at hP ⊢
  have hl : lv_has ls 4 [(0, .ref a0), (1, .ref b0)] := hl
  have iX7 : ∀ v ∈ wsX70, v ∈ wsX7_dropThoseWhoCannotPay := by decide +kernel
  have f_9 := hts (.fieldLink RX7 9 "HarborLights$Shares" "takesPart" "[Z") (by decide +kernel)
  refine lv_aload_n hx hb dX7_dropThoseWhoCannotPay_0 rfl (lv_at hl 0 rfl) ?_
  refine zz_callVv (As := []) (rest := []) (wf := fun u => bShares tA a0 a1 a2 a3 a4 tp u need ordr size ++ bShips tA b0 b1 b2 b3 b4 b5 cnt strt goal money litN darkN) ⟨hx, hb, hml, hown, hts⟩ (c_X7_divide l D tA a0 a1 a2 a3 a4 H.size tp shr need ordr size (by first | assumption | omega)) (cwV 0 hts gX7_dropThoseWhoCannotPay_X7_divide rfl rfl rfl (by decide +kernel) ⟨Nat.le_of_ble_eq_true rfl, Nat.le_of_ble_eq_true rfl⟩) hK hP hD hS hA [0, 1, 2, 3, 4] [5, 6, 7, 8, 9, 10] [6, 7, 8, 9, 10, 0, 1, 2, 3, 4, 5] rfl rfl (by decide) (by decide) (by decide) (by decide) (fun _ => rfl) (ci := 9) (q0 := 0) rfl rfl rfl rfl rfl hl.1 (Nat.le_of_ble_eq_true rfl) dX7_dropThoseWhoCannotPay_1 ⟨Nat.le_of_ble_eq_true rfl, Nat.le_of_ble_eq_true rfl⟩ ?_
  intro u H locs p1_2 hP hD hS
  obtain ⟨shr_1, rfl⟩ : ∃ q, q = u := ⟨_, rfl⟩
  have hP : va_P D vwCl (bShares tA a0 a1 a2 a3 a4 tp shr_1 need ordr size ++ bShips tA b0 b1 b2 b3 b4 b5 cnt strt goal money litN darkN) H := hP
  have hD : va_D A (bShares tA a0 a1 a2 a3 a4 tp shr_1 need ordr size ++ bShips tA b0 b1 b2 b3 b4 b5 cnt strt goal money litN darkN) := hD
  have q_1 : isSh tp need shr_1 := p1_2
  refine lv_aload_n hx hb dX7_dropThoseWhoCannotPay_4 rfl (lv_at hl 0 rfl) ?_
  refine lv_aload_n hx hb dX7_dropThoseWhoCannotPay_5 rfl (lv_at hl 1 rfl) ?_
  refine zz_callVi (As := [.ref b0]) (rest := []) (wf := fun u => bShares tA a0 a1 a2 a3 a4 tp shr_1 need ordr size ++ bShips tA b0 b1 b2 b3 b4 b5 cnt strt goal money litN darkN) ⟨hx, hb, hml, hown, hts⟩ (c_X7_firstWhoCannotPay l D tA a0 a1 a2 a3 a4 b0 b1 b2 b3 b4 b5 H.size tp shr_1 need ordr size cnt strt goal money litN darkN (by first | assumption | omega) (by first | assumption | omega) q_1 (by first | assumption | omega)) (cwV 1 hts gX7_dropThoseWhoCannotPay_X7_firstWhoCannotPay rfl rfl rfl (by decide +kernel) ⟨Nat.le_of_ble_eq_true rfl, Nat.le_of_ble_eq_true rfl⟩) hK hP hD hS hA [0, 1, 2, 3, 4, 5, 6, 7, 8, 9, 10] [] [0, 1, 2, 3, 4, 5, 6, 7, 8, 9, 10] rfl rfl (by decide) (by decide) (by decide) (by decide) (fun _ => rfl) (ci := 9) (q0 := 0) rfl rfl rfl rfl rfl hl.1 (Nat.le_of_ble_eq_true rfl) dX7_dropThoseWhoCannotPay_6 ⟨Nat.le_of_ble_eq_true rfl, Nat.le_of_ble_eq_true rfl⟩ ?_
  intro z6_3 u H locs p6_4 hP hD hS
  have hP : va_P D vwCl (bShares tA a0 a1 a2 a3 a4 tp shr_1 need ordr size ++ bShips tA b0 b1 b2 b3 b4 b5 cnt strt goal money litN darkN) H := hP
  have hD : va_D A (bShares tA a0 a1 a2 a3 a4 tp shr_1 need ordr size ++ bShips tA b0 b1 b2 b3 b4 b5 cnt strt goal money litN darkN) := hD
  have q_6 : isPoor tp need money cnt z6_3 := p6_4
  refine lv_istore_n (lv' := [(2, .int (iI z6_3)), (0, .ref a0), (1, .ref b0)]) hx hb dX7_dropThoseWhoCannotPay_9 rfl hl (by decide) rfl (fun ls hl => ?_)
  refine zz_iconst hx hb dX7_dropThoseWhoCannotPay_10 ?_
  refine lv_istore_n (lv' := [(3, .int (iI 0)), (2, .int (iI z6_3)), (0, .ref a0), (1, .ref b0)]) hx hb dX7_dropThoseWhoCannotPay_11 rfl hl (by decide) rfl (fun ls hl => ?_)
  have L12 : ∀ (n : Nat) (rd : Int) (poor : Int) (t9 : Int → Int) (s9 : Int → Int) (H : Heap) (locs : List Loc) (ls : Array Slot), (0 ≤ rd ∧ rd + sm t9 6 ≤ 6) → (TpV t9 need) → (isSh t9 need s9) → (isPoor t9 need money cnt poor) → (∀ k t', isLeft need money cnt k t9 t' → isLeft need money cnt (k + rd.toNat) tp t') → (6 - rd).toNat < n → va_P D vwCl (bShares tA a0 a1 a2 a3 a4 t9 s9 need ordr size ++ bShips tA b0 b1 b2 b3 b4 b5 cnt strt goal money litN darkN) H → va_D A (bShares tA a0 a1 a2 a3 a4 t9 s9 need ordr size ++ bShips tA b0 b1 b2 b3 b4 b5 cnt strt goal money litN darkN) → va_S A s.heap H locs → lv_has ls 4 [(3, .int (iI rd)), (2, .int (iI poor)), (0, .ref a0), (1, .ref b0)] → W p l e (headSpec wsX7_dropThoseWhoCannotPay ({ frames := 2, cells := 0, slots := 0, locals := 49 })).room s m args below meth c H locs 0 0 Q (F0 m 12 ls []) := by
    intro n
    induction n with
    | zero => intro rd poor t9 s9 H locs ls i0 i1 i2 i3 i4 hmz; exact absurd hmz (Nat.not_lt_zero _)
    | succ n ih12 =>
      intro rd poor t9 s9 H locs ls i0 i1 i2 i3 i4 hmz hP hD hS hl
      have ip : -1 ≤ poor ∧ poor < 6 := by rcases i3 with h | h <;> omega
      have is := sm_in (f := t9) (n := 6) (fun j j0 j1 => by rcases i1.1 j j0 j1 with q | q <;> omega)
      refine lv_iload_n hx hb dX7_dropThoseWhoCannotPay_12 rfl (lv_at hl 1 rfl) ?_
      refine zz_iconst hx hb dX7_dropThoseWhoCannotPay_13 ?_
      refine zz_icmp_eq (tgt := 46) hx hb dX7_dropThoseWhoCannotPay_14 (by decide) (by omega) (by decide) (fun c_14 => ?_) (fun c_14 => ?_)
      · exact hret (t9, s9) _ _ _ _ dX7_dropThoseWhoCannotPay_46 ⟨(show ∃ k, isLeft need money cnt k tp t9 from by exact ⟨0 + rd.toNat, i4 0 t9 ⟨by first | (rw [← c_14]; exact i3) | (have e := none_left i1 hc.2 i3 (by omega); rw [← e]; exact i3), fun _ _ _ => rfl⟩⟩), (show isSh t9 need s9 from by exact i2), (show TpV t9 need from by exact i1)⟩ hP hD hS
      · refine lv_iload_n hx hb dX7_dropThoseWhoCannotPay_17 rfl (lv_at hl 0 rfl) ?_
        refine zz_bipush hx hb dX7_dropThoseWhoCannotPay_18 (by decide) ?_
        refine zz_icmp_ge (tgt := 46) hx hb dX7_dropThoseWhoCannotPay_20 (by decide) (by omega) (by decide) (fun c_20 => ?_) (fun c_20 => ?_)
        · exact hret (t9, s9) _ _ _ _ dX7_dropThoseWhoCannotPay_46 ⟨(show ∃ k, isLeft need money cnt k tp t9 from by exact ⟨0 + rd.toNat, i4 0 t9 ⟨by first | (rw [← c_14]; exact i3) | (have e := none_left i1 hc.2 i3 (by omega); rw [← e]; exact i3), fun _ _ _ => rfl⟩⟩), (show isSh t9 need s9 from by exact i2), (show TpV t9 need from by exact i1)⟩ hP hD hS
        · refine lv_aload_n hx hb dX7_dropThoseWhoCannotPay_23 rfl (lv_at hl 2 rfl) ?_
          refine va_get (D := D) (ci := 9) (v := .ref a1) (C := RX7) (T := TX7) (N := 5) hx hb hts iX7 hown hK hP 0 rfl rfl 0 (by decide) f_9 (fun _ h9 => h9) rfl dX7_dropThoseWhoCannotPay_24 ?_
          refine lv_iload_n hx hb dX7_dropThoseWhoCannotPay_27 rfl (lv_at hl 1 rfl) ?_
          refine zz_iconst hx hb dX7_dropThoseWhoCannotPay_28 ?_
          have hpp : 0 ≤ poor ∧ poor < cnt ∧ t9 poor = 1 := by rcases i3 with h | h; exact absurd h.1 c_14; exact ⟨h.1, h.2.1, h.2.2.1⟩
          have hdc := drop_cnt hpp.1 (by omega) hpp.2.2
          refine zz_zast hx hb hK hP hD hS 1 rfl (by decide) (by omega) (by omega) dX7_dropThoseWhoCannotPay_29 (fun H locs hP hD hS => ?_)
          have hP : va_P D vwCl (bShares tA a0 a1 a2 a3 a4 (zU t9 poor 0) s9 need ordr size ++ bShips tA b0 b1 b2 b3 b4 b5 cnt strt goal money litN darkN) H := hP
          have hD : va_D A (bShares tA a0 a1 a2 a3 a4 (zU t9 poor 0) s9 need ordr size ++ bShips tA b0 b1 b2 b3 b4 b5 cnt strt goal money litN darkN) := hD
          refine lv_aload_n hx hb dX7_dropThoseWhoCannotPay_30 rfl (lv_at hl 2 rfl) ?_
          refine zz_callVv (As := []) (rest := []) (wf := fun u => bShares tA a0 a1 a2 a3 a4 (zU t9 poor 0) u need ordr size ++ bShips tA b0 b1 b2 b3 b4 b5 cnt strt goal money litN darkN) ⟨hx, hb, hml, hown, hts⟩ (c_X7_divide l D tA a0 a1 a2 a3 a4 H.size (zU t9 poor 0) s9 need ordr size (TpV_drop i1)) (cwV 0 hts gX7_dropThoseWhoCannotPay_X7_divide rfl rfl rfl (by decide +kernel) ⟨Nat.le_of_ble_eq_true rfl, Nat.le_of_ble_eq_true rfl⟩) hK hP hD hS hA [0, 1, 2, 3, 4] [5, 6, 7, 8, 9, 10] [6, 7, 8, 9, 10, 0, 1, 2, 3, 4, 5] rfl rfl (by decide) (by decide) (by decide) (by decide) (fun _ => rfl) (ci := 9) (q0 := 0) rfl rfl rfl rfl rfl hl.1 (Nat.le_of_ble_eq_true rfl) dX7_dropThoseWhoCannotPay_31 ⟨Nat.le_of_ble_eq_true rfl, Nat.le_of_ble_eq_true rfl⟩ ?_
          intro u H locs p31_6 hP hD hS
          obtain ⟨shr_5, rfl⟩ : ∃ q, q = u := ⟨_, rfl⟩
          have hP : va_P D vwCl (bShares tA a0 a1 a2 a3 a4 (zU t9 poor 0) shr_5 need ordr size ++ bShips tA b0 b1 b2 b3 b4 b5 cnt strt goal money litN darkN) H := hP
          have hD : va_D A (bShares tA a0 a1 a2 a3 a4 (zU t9 poor 0) shr_5 need ordr size ++ bShips tA b0 b1 b2 b3 b4 b5 cnt strt goal money litN darkN) := hD
          have q_31 : isSh (zU t9 poor 0) need shr_5 := p31_6
          refine lv_aload_n hx hb dX7_dropThoseWhoCannotPay_34 rfl (lv_at hl 2 rfl) ?_
          refine lv_aload_n hx hb dX7_dropThoseWhoCannotPay_35 rfl (lv_at hl 3 rfl) ?_
          refine zz_callVi (As := [.ref b0]) (rest := []) (wf := fun u => bShares tA a0 a1 a2 a3 a4 (zU t9 poor 0) shr_5 need ordr size ++ bShips tA b0 b1 b2 b3 b4 b5 cnt strt goal money litN darkN) ⟨hx, hb, hml, hown, hts⟩ (c_X7_firstWhoCannotPay l D tA a0 a1 a2 a3 a4 b0 b1 b2 b3 b4 b5 H.size (zU t9 poor 0) shr_5 need ordr size cnt strt goal money litN darkN (TpV_drop i1) (by first | assumption | omega) q_31 (by first | assumption | omega)) (cwV 1 hts gX7_dropThoseWhoCannotPay_X7_firstWhoCannotPay rfl rfl rfl (by decide +kernel) ⟨Nat.le_of_ble_eq_true rfl, Nat.le_of_ble_eq_true rfl⟩) hK hP hD hS hA [0, 1, 2, 3, 4, 5, 6, 7, 8, 9, 10] [] [0, 1, 2, 3, 4, 5, 6, 7, 8, 9, 10] rfl rfl (by decide) (by decide) (by decide) (by decide) (fun _ => rfl) (ci := 9) (q0 := 0) rfl rfl rfl rfl rfl hl.1 (Nat.le_of_ble_eq_true rfl) dX7_dropThoseWhoCannotPay_36 ⟨Nat.le_of_ble_eq_true rfl, Nat.le_of_ble_eq_true rfl⟩ ?_
          intro z36_7 u H locs p36_8 hP hD hS
          have hP : va_P D vwCl (bShares tA a0 a1 a2 a3 a4 (zU t9 poor 0) shr_5 need ordr size ++ bShips tA b0 b1 b2 b3 b4 b5 cnt strt goal money litN darkN) H := hP
          have hD : va_D A (bShares tA a0 a1 a2 a3 a4 (zU t9 poor 0) shr_5 need ordr size ++ bShips tA b0 b1 b2 b3 b4 b5 cnt strt goal money litN darkN) := hD
          have q_36 : isPoor (zU t9 poor 0) need money cnt z36_7 := p36_8
          refine lv_istore_n (lv' := [(2, .int (iI z36_7)), (3, .int (iI rd)), (0, .ref a0), (1, .ref b0)]) hx hb dX7_dropThoseWhoCannotPay_39 rfl hl (by decide) rfl (fun ls hl => ?_)
          refine zz_iinc (lv' := [(3, .int (iI (rd + 1))), (2, .int (iI z36_7)), (0, .ref a0), (1, .ref b0)]) hx hb dX7_dropThoseWhoCannotPay_40 hl (k := 1) rfl (by decide) rfl (fun ls hl => ?_)
          refine lv_goto (tgt := 12) hx hb dX7_dropThoseWhoCannotPay_43 (by decide) ?_
          exact ih12 (rd + 1) z36_7 (zU t9 poor 0) shr_5 _ _ _ (by rw [hdc]; omega) (by exact TpV_drop i1) (by exact q_31) (by exact q_36) (by exact left_step (by omega) (by omega) i3 i4) (by omega) hP hD hS (lv_sub hl [0, 1, 2, 3] rfl)
  exact L12 _ 0 z6_3 tp shr_1 _ _ _ (by have is := sm_in (f := tp) (n := 6) (fun j j0 j1 => by rcases hv.1 j j0 j1 with q | q <;> omega); omega) (by exact hv) (by exact q_1) (by exact q_6) (by exact fun k t9 h => h) (Nat.lt_succ_self _) hP hD hS (lv_sub hl [0, 1, 2, 3] rfl)
