/-! ===== HarborLights.Routes ===== -/
set_option maxHeartbeats 4000000 in
set_option maxRecDepth 100000 in
theorem c_X5_separate (l : Launch) (D : va_G) (tA : Nat → ClassId) (a0 a1 a2 a3 : Nat) (sz : Nat) (shrt : Int → Int) (grp : Int → Int) (seen : Int → Int) : zMv l yX5_separate wsX5_separate ({ frames := 0, cells := 0, slots := 0, locals := 0 }) D tA [.ref a0] (bRoutes tA a0 a1 a2 a3 shrt grp seen) sz (fun (u : (Int → Int)) => (∀ j, 0 ≤ j → j < 10 → u j = j)) (fun (u : (Int → Int)) => bRoutes tA a0 a1 a2 a3 shrt u seen) 0 0 := by
  refine zMv_of (cc := cX5_separate) (maxL := 2) (by decide) rfl (Nat.le_of_ble_eq_true rfl) ?_
  intro p e s m args below meth c A Q ls hx hb hml hts hown hK hP hD hA hret hl
  obtain ⟨H, hHe⟩ : ∃ H : Heap, H = s.heap := ⟨_, rfl⟩
  have hS : va_S A s.heap H [] := by rw [hHe]; exact va_S.rf
  rw [← hHe] at hP ⊢
  have hl : lv_has ls 2 [(0, .ref a0)] := hl
  have iX5 : ∀ v ∈ wsX50, v ∈ wsX5_separate := by decide +kernel
  have f_15 := hts (.fieldLink RX5 15 "HarborLights$Routes" "group" "[I") (by decide +kernel)
  refine zz_iconst hx hb dX5_separate_0 ?_
  refine lv_istore_n (lv' := [(1, .int (iI 0)), (0, .ref a0)]) hx hb dX5_separate_1 rfl hl (by decide) rfl (fun ls hl => ?_)
  have L2 : ∀ (n : Nat) (i : Int) (g9 : Int → Int) (H : Heap) (locs : List Loc) (ls : Array Slot), (0 ≤ i ∧ i ≤ 10) → (∀ j, 0 ≤ j → j < i → g9 j = j) → (10 - i).toNat < n → va_P D vwCl (bRoutes tA a0 a1 a2 a3 shrt g9 seen) H → va_D A (bRoutes tA a0 a1 a2 a3 shrt g9 seen) → va_S A s.heap H locs → lv_has ls 2 [(1, .int (iI i)), (0, .ref a0)] → W p l e (headSpec wsX5_separate ({ frames := 0, cells := 0, slots := 0, locals := 0 })).room s m args below meth c H locs 0 0 Q (F0 m 2 ls []) := by
    intro n
    induction n with
    | zero => intro i g9 H locs ls i0 i1 hmz; exact absurd hmz (Nat.not_lt_zero _)
    | succ n ih2 =>
      intro i g9 H locs ls i0 i1 hmz hP hD hS hl
      refine lv_iload_n hx hb dX5_separate_2 rfl (lv_at hl 0 rfl) ?_
      refine zz_bipush hx hb dX5_separate_3 (by decide) ?_
      refine zz_icmp_ge (tgt := 21) hx hb dX5_separate_5 (by decide) (by omega) (by decide) (fun c_5 => ?_) (fun c_5 => ?_)
      · exact hret g9 _ _ _ _ dX5_separate_21 (show ∀ j, 0 ≤ j → j < 10 → g9 j = j from by exact fun j h0 h1 => i1 j h0 (by omega)) hP hD hS
      · refine lv_aload_n hx hb dX5_separate_8 rfl (lv_at hl 1 rfl) ?_
        refine va_get (D := D) (ci := 7) (v := .ref a2) (C := RX5) (T := TX5) (N := 3) hx hb hts iX5 hown hK hP 0 rfl rfl 1 (by decide) f_15 (fun _ h9 => h9) rfl dX5_separate_9 ?_
        refine lv_iload_n hx hb dX5_separate_12 rfl (lv_at hl 0 rfl) ?_
        refine lv_iload_n hx hb dX5_separate_13 rfl (lv_at hl 0 rfl) ?_
        refine zz_iast hx hb hK hP hD hS 2 rfl (by decide) (by omega) dX5_separate_14 (fun H locs hP hD hS => ?_)
        have hP : va_P D vwCl (bRoutes tA a0 a1 a2 a3 shrt (zU g9 i i) seen) H := hP
        have hD : va_D A (bRoutes tA a0 a1 a2 a3 shrt (zU g9 i i) seen) := hD
        refine zz_iinc (lv' := [(1, .int (iI (i + 1))), (0, .ref a0)]) hx hb dX5_separate_15 hl (k := 0) rfl (by decide) rfl (fun ls hl => ?_)
        refine lv_goto (tgt := 2) hx hb dX5_separate_18 (by decide) ?_
        exact ih2 (i + 1) (zU g9 i i) _ _ _ (by omega) (by exact upd_all (P := fun j x => x = j) i1 rfl) (by omega) hP hD hS (lv_sub hl [0, 1] rfl)
  exact L2 _ 0 grp _ _ _ (by omega) (by exact nothing_yet) (Nat.lt_succ_self _) hP hD hS (lv_sub hl [0, 1] rfl)

set_option maxHeartbeats 4000000 in
set_option maxRecDepth 100000 in
theorem c_X5_beginAt (l : Launch) (D : va_G) (tA : Nat → ClassId) (a0 a1 a2 a3 : Nat) (sz : Nat) (shrt : Int → Int) (grp : Int → Int) (seen : Int → Int) (src : Int) (r_src : -2147483648 ≤ src ∧ src ≤ 2147483647) (hsrc : 0 ≤ src ∧ src < 10) : zMv l yX5_beginAt wsX5_beginAt ({ frames := 0, cells := 0, slots := 0, locals := 0 }) D tA [.ref a0, .int (iI src)] (bRoutes tA a0 a1 a2 a3 shrt grp seen) sz (fun (u : (Int → Int) × (Int → Int)) => (∀ x, 0 ≤ x → x < 10 → u.1 x = if x = src then 0 else -1) ∧ (∀ x, 0 ≤ x → x < 10 → u.2 x = 0)) (fun (u : (Int → Int) × (Int → Int)) => bRoutes tA a0 a1 a2 a3 u.1 grp u.2) 0 0 := by
  refine zMv_of (cc := cX5_beginAt) (maxL := 3) (by decide) rfl (Nat.le_of_ble_eq_true rfl) ?_
  intro p e s m args below meth c A Q ls hx hb hml hts hown hK hP hD hA hret hl
  obtain ⟨H, hHe⟩ : ∃ H : Heap, H = s.heap := ⟨_, rfl⟩
  have hS : va_S A s.heap H [] := by rw [hHe]; exact va_S.rf
  rw [← hHe] at hP ⊢
  have hl : lv_has ls 3 [(0, .ref a0), (1, .int (iI src))] := hl
  have iX5 : ∀ v ∈ wsX50, v ∈ wsX5_beginAt := by decide +kernel
  have f_9 := hts (.fieldLink RX5 9 "HarborLights$Routes" "shortest" "[I") (by decide +kernel)
  have f_18 := hts (.fieldLink RX5 18 "HarborLights$Routes" "seen" "[Z") (by decide +kernel)
  refine zz_iconst hx hb dX5_beginAt_0 ?_
  refine lv_istore_n (lv' := [(2, .int (iI 0)), (0, .ref a0), (1, .int (iI src))]) hx hb dX5_beginAt_1 rfl hl (by decide) rfl (fun ls hl => ?_)
  have L2 : ∀ (n : Nat) (i : Int) (s9 : Int → Int) (n9 : Int → Int) (H : Heap) (locs : List Loc) (ls : Array Slot), (0 ≤ i ∧ i ≤ 10) → (∀ j, 0 ≤ j → j < i → s9 j = -1) → (∀ j, 0 ≤ j → j < i → n9 j = 0) → (10 - i).toNat < n → va_P D vwCl (bRoutes tA a0 a1 a2 a3 s9 grp n9) H → va_D A (bRoutes tA a0 a1 a2 a3 s9 grp n9) → va_S A s.heap H locs → lv_has ls 3 [(2, .int (iI i)), (0, .ref a0), (1, .int (iI src))] → W p l e (headSpec wsX5_beginAt ({ frames := 0, cells := 0, slots := 0, locals := 0 })).room s m args below meth c H locs 0 0 Q (F0 m 2 ls []) := by
    intro n
    induction n with
    | zero => intro i s9 n9 H locs ls i0 i1 i2 hmz; exact absurd hmz (Nat.not_lt_zero _)
    | succ n ih2 =>
      intro i s9 n9 H locs ls i0 i1 i2 hmz hP hD hS hl
      refine lv_iload_n hx hb dX5_beginAt_2 rfl (lv_at hl 0 rfl) ?_
      refine zz_bipush hx hb dX5_beginAt_3 (by decide) ?_
      refine zz_icmp_ge (tgt := 28) hx hb dX5_beginAt_5 (by decide) (by omega) (by decide) (fun c_5 => ?_) (fun c_5 => ?_)
      · refine lv_aload_n hx hb dX5_beginAt_28 rfl (lv_at hl 1 rfl) ?_
        refine va_get (D := D) (ci := 7) (v := .ref a1) (C := RX5) (T := TX5) (N := 3) hx hb hts iX5 hown hK hP 0 rfl rfl 0 (by decide) f_9 (fun _ h9 => h9) rfl dX5_beginAt_29 ?_
        refine lv_iload_n hx hb dX5_beginAt_32 rfl (lv_at hl 2 rfl) ?_
        refine zz_iconst hx hb dX5_beginAt_33 ?_
        refine zz_iast hx hb hK hP hD hS 1 rfl (by decide) (by omega) dX5_beginAt_34 (fun H locs hP hD hS => ?_)
        have hP : va_P D vwCl (bRoutes tA a0 a1 a2 a3 (zU s9 src 0) grp n9) H := hP
        have hD : va_D A (bRoutes tA a0 a1 a2 a3 (zU s9 src 0) grp n9) := hD
        exact hret ((zU s9 src 0), n9) _ _ _ _ dX5_beginAt_35 ⟨(show ∀ x, 0 ≤ x → x < 10 → (zU s9 src 0) x = if x = src then 0 else -1 from by exact begin_at (fun j h0 h1 => i1 j h0 (by omega))), (show ∀ x, 0 ≤ x → x < 10 → n9 x = 0 from by exact fun j h0 h1 => i2 j h0 (by omega))⟩ hP hD hS
      · refine lv_aload_n hx hb dX5_beginAt_8 rfl (lv_at hl 1 rfl) ?_
        refine va_get (D := D) (ci := 7) (v := .ref a1) (C := RX5) (T := TX5) (N := 3) hx hb hts iX5 hown hK hP 0 rfl rfl 0 (by decide) f_9 (fun _ h9 => h9) rfl dX5_beginAt_9 ?_
        refine lv_iload_n hx hb dX5_beginAt_12 rfl (lv_at hl 0 rfl) ?_
        refine zz_iconst hx hb dX5_beginAt_13 ?_
        refine zz_iast hx hb hK hP hD hS 1 rfl (by decide) (by omega) dX5_beginAt_14 (fun H locs hP hD hS => ?_)
        have hP : va_P D vwCl (bRoutes tA a0 a1 a2 a3 (zU s9 i (-1)) grp n9) H := hP
        have hD : va_D A (bRoutes tA a0 a1 a2 a3 (zU s9 i (-1)) grp n9) := hD
        refine lv_aload_n hx hb dX5_beginAt_15 rfl (lv_at hl 1 rfl) ?_
        refine va_get (D := D) (ci := 7) (v := .ref a3) (C := RX5) (T := TX5) (N := 3) hx hb hts iX5 hown hK hP 0 rfl rfl 2 (by decide) f_18 (fun _ h9 => h9) rfl dX5_beginAt_16 ?_
        refine lv_iload_n hx hb dX5_beginAt_19 rfl (lv_at hl 0 rfl) ?_
        refine zz_iconst hx hb dX5_beginAt_20 ?_
        refine zz_zast hx hb hK hP hD hS 3 rfl (by decide) (by omega) (by omega) dX5_beginAt_21 (fun H locs hP hD hS => ?_)
        have hP : va_P D vwCl (bRoutes tA a0 a1 a2 a3 (zU s9 i (-1)) grp (zU n9 i 0)) H := hP
        have hD : va_D A (bRoutes tA a0 a1 a2 a3 (zU s9 i (-1)) grp (zU n9 i 0)) := hD
        refine zz_iinc (lv' := [(2, .int (iI (i + 1))), (0, .ref a0), (1, .int (iI src))]) hx hb dX5_beginAt_22 hl (k := 0) rfl (by decide) rfl (fun ls hl => ?_)
        refine lv_goto (tgt := 2) hx hb dX5_beginAt_25 (by decide) ?_
        exact ih2 (i + 1) (zU s9 i (-1)) (zU n9 i 0) _ _ _ (by omega) (by exact upd_all (P := fun _ x => x = -1) i1 rfl) (by exact upd_all (P := fun _ x => x = 0) i2 rfl) (by omega) hP hD hS (lv_sub hl [0, 1, 2] rfl)
  exact L2 _ 0 shrt seen _ _ _ (by omega) (by exact nothing_yet) (by exact nothing_yet) (Nat.lt_succ_self _) hP hD hS (lv_sub hl [0, 1, 2] rfl)

set_option maxHeartbeats 4000000 in
set_option maxRecDepth 100000 in
theorem c_X5_join (l : Launch) (D : va_G) (tA : Nat → ClassId) (a0 a1 a2 a3 : Nat) (sz : Nat) (shrt : Int → Int) (grp : Int → Int) (seen : Int → Int) (one : Int) (other : Int) (r_one : -2147483648 ≤ one ∧ one ≤ 2147483647) (r_other : -2147483648 ≤ other ∧ other ≤ 2147483647) (h1 : 0 ≤ one ∧ one < 10) (h2 : 0 ≤ other ∧ other < 10) (Rg : zRn 10 grp) : zMi l yX5_join wsX5_join ({ frames := 0, cells := 0, slots := 0, locals := 0 }) D tA [.ref a0, .int (iI one), .int (iI other)] (bRoutes tA a0 a1 a2 a3 shrt grp seen) sz (fun (z : Int) (u : (Int → Int)) => ((z = 0 ∧ grp one = grp other) ∨ (z = 1 ∧ ¬ grp one = grp other)) ∧ (∀ j, 0 ≤ j → j < 10 → u j = if grp j = grp other then grp one else grp j)) (fun (u : (Int → Int)) => bRoutes tA a0 a1 a2 a3 shrt u seen) 0 0 := by
  refine zMi_of (cc := cX5_join) (maxL := 6) (by decide) rfl (fun z u h => zbool z (by omega)) (Nat.le_of_ble_eq_true rfl) ?_
  intro p e s m args below meth c A Q ls hx hb hml hts hown hK hP hD hA hret hl
  obtain ⟨H, hHe⟩ : ∃ H : Heap, H = s.heap := ⟨_, rfl⟩
  have hS : va_S A s.heap H [] := by rw [hHe]; exact va_S.rf
  rw [← hHe] at hP ⊢
  have hl : lv_has ls 6 [(0, .ref a0), (1, .int (iI one)), (2, .int (iI other))] := hl
  have iX5 : ∀ v ∈ wsX50, v ∈ wsX5_join := by decide +kernel
  have f_15 := hts (.fieldLink RX5 15 "HarborLights$Routes" "group" "[I") (by decide +kernel)
  refine lv_aload_n hx hb dX5_join_0 rfl (lv_at hl 0 rfl) ?_
  refine va_get (D := D) (ci := 7) (v := .ref a2) (C := RX5) (T := TX5) (N := 3) hx hb hts iX5 hown hK hP 0 rfl rfl 1 (by decide) f_15 (fun _ h9 => h9) rfl dX5_join_1 ?_
  refine lv_iload_n hx hb dX5_join_4 rfl (lv_at hl 1 rfl) ?_
  refine zz_iald hx hb hK hP 2 rfl (by decide) (by omega) dX5_join_5 ?_
  have r_5 := Rg one (by omega) (by omega)
  refine lv_istore_n (lv' := [(3, .int (iI (grp one))), (0, .ref a0), (1, .int (iI one)), (2, .int (iI other))]) hx hb dX5_join_6 rfl hl (by decide) rfl (fun ls hl => ?_)
  refine lv_aload_n hx hb dX5_join_7 rfl (lv_at hl 1 rfl) ?_
  refine va_get (D := D) (ci := 7) (v := .ref a2) (C := RX5) (T := TX5) (N := 3) hx hb hts iX5 hown hK hP 0 rfl rfl 1 (by decide) f_15 (fun _ h9 => h9) rfl dX5_join_8 ?_
  refine lv_iload_n hx hb dX5_join_11 rfl (lv_at hl 3 rfl) ?_
  refine zz_iald hx hb hK hP 2 rfl (by decide) (by omega) dX5_join_12 ?_
  have r_12 := Rg other (by omega) (by omega)
  refine lv_istore (lv' := [(4, .int (iI (grp other))), (3, .int (iI (grp one))), (0, .ref a0), (1, .int (iI one)), (2, .int (iI other))]) hx hb dX5_join_13 hl (by decide) rfl (fun ls hl => ?_)
  refine lv_iload_n hx hb dX5_join_15 rfl (lv_at hl 1 rfl) ?_
  refine lv_iload hx hb dX5_join_16 (lv_at hl 0 rfl) ?_
  refine zz_icmp_ne (tgt := 23) hx hb dX5_join_18 (by decide) (by omega) (by omega) (fun c_18 => ?_) (fun c_18 => ?_)
  · refine zz_iconst hx hb dX5_join_23 ?_
    refine lv_istore (lv' := [(5, .int (iI 0)), (4, .int (iI (grp other))), (3, .int (iI (grp one))), (0, .ref a0), (1, .int (iI one)), (2, .int (iI other))]) hx hb dX5_join_24 hl (by decide) rfl (fun ls hl => ?_)
    have L26 : ∀ (n : Nat) (i : Int) (g9 : Int → Int) (H : Heap) (locs : List Loc) (ls : Array Slot), (0 ≤ i ∧ i ≤ 10) → (∀ j, 0 ≤ j → j < i → g9 j = if grp j = grp other then grp one else grp j) → (∀ j, i ≤ j → j < 10 → g9 j = grp j) → (10 - i).toNat < n → va_P D vwCl (bRoutes tA a0 a1 a2 a3 shrt g9 seen) H → va_D A (bRoutes tA a0 a1 a2 a3 shrt g9 seen) → va_S A s.heap H locs → lv_has ls 6 [(5, .int (iI i)), (4, .int (iI (grp other))), (3, .int (iI (grp one))), (0, .ref a0), (1, .int (iI one)), (2, .int (iI other))] → W p l e (headSpec wsX5_join ({ frames := 0, cells := 0, slots := 0, locals := 0 })).room s m args below meth c H locs 0 0 Q (F0 m 26 ls []) := by
      intro n
      induction n with
      | zero => intro i g9 H locs ls i0 i1 i2 hmz; exact absurd hmz (Nat.not_lt_zero _)
      | succ n ih26 =>
        intro i g9 H locs ls i0 i1 i2 hmz hP hD hS hl
        refine lv_iload hx hb dX5_join_26 (lv_at hl 0 rfl) ?_
        refine zz_bipush hx hb dX5_join_28 (by decide) ?_
        refine zz_icmp_ge (tgt := 59) hx hb dX5_join_30 (by decide) (by omega) (by decide) (fun c_30 => ?_) (fun c_30 => ?_)
        · refine zz_iconst hx hb dX5_join_59 ?_
          exact hret 1 g9 _ _ _ _ dX5_join_60 ⟨(show ((1 : Int) = 0 ∧ grp one = grp other) ∨ ((1 : Int) = 1 ∧ ¬ grp one = grp other) from by omega), (show ∀ j, 0 ≤ j → j < 10 → g9 j = if grp j = grp other then grp one else grp j from by exact fun j h0 h1 => i1 j h0 (by omega))⟩ hP hD hS
        · refine lv_aload_n hx hb dX5_join_33 rfl (lv_at hl 3 rfl) ?_
          refine va_get (D := D) (ci := 7) (v := .ref a2) (C := RX5) (T := TX5) (N := 3) hx hb hts iX5 hown hK hP 0 rfl rfl 1 (by decide) f_15 (fun _ h9 => h9) rfl dX5_join_34 ?_
          refine lv_iload hx hb dX5_join_37 (lv_at hl 0 rfl) ?_
          refine zz_iald hx hb hK hP 2 rfl (by decide) (by omega) dX5_join_39 ?_
          have r_39 := Rg i (by omega) (by omega)
          rw [← i2 i (by omega) (by omega)] at r_39
          refine lv_iload hx hb dX5_join_40 (lv_at hl 1 rfl) ?_
          refine zz_icmp_ne (tgt := 53) hx hb dX5_join_42 (by decide) (by omega) (by omega) (fun c_42 => ?_) (fun c_42 => ?_)
          · refine zz_iinc (lv' := [(5, .int (iI (i + 1))), (4, .int (iI (grp other))), (3, .int (iI (grp one))), (0, .ref a0), (1, .int (iI one)), (2, .int (iI other))]) hx hb dX5_join_53 hl (k := 0) rfl (by decide) rfl (fun ls hl => ?_)
            refine lv_goto (tgt := 26) hx hb dX5_join_56 (by decide) ?_
            exact ih26 (i + 1) g9 _ _ _ (by omega) (by rw [i2 i (by omega) (by omega)] at c_42; first | exact upd_all (P := fun j x => x = if grp j = grp other then grp one else grp j) i1 (by rw [if_pos c_42]) | exact upd_keep (P := fun j x => x = if grp j = grp other then grp one else grp j) i1 (by rw [if_neg c_42]; exact i2 i (by omega) (by omega))) (by intro j h0 h1; first | (rw [zU_ne (by omega)]; exact i2 j (by omega) h1) | exact i2 j (by omega) h1) (by omega) hP hD hS (lv_sub hl [0, 1, 2, 3, 4, 5] rfl)
          · refine lv_aload_n hx hb dX5_join_45 rfl (lv_at hl 3 rfl) ?_
            refine va_get (D := D) (ci := 7) (v := .ref a2) (C := RX5) (T := TX5) (N := 3) hx hb hts iX5 hown hK hP 0 rfl rfl 1 (by decide) f_15 (fun _ h9 => h9) rfl dX5_join_46 ?_
            refine lv_iload hx hb dX5_join_49 (lv_at hl 0 rfl) ?_
            refine lv_iload_n hx hb dX5_join_51 rfl (lv_at hl 2 rfl) ?_
            refine zz_iast hx hb hK hP hD hS 2 rfl (by decide) (by omega) dX5_join_52 (fun H locs hP hD hS => ?_)
            have hP : va_P D vwCl (bRoutes tA a0 a1 a2 a3 shrt (zU g9 i (grp one)) seen) H := hP
            have hD : va_D A (bRoutes tA a0 a1 a2 a3 shrt (zU g9 i (grp one)) seen) := hD
            refine zz_iinc (lv' := [(5, .int (iI (i + 1))), (4, .int (iI (grp other))), (3, .int (iI (grp one))), (0, .ref a0), (1, .int (iI one)), (2, .int (iI other))]) hx hb dX5_join_53 hl (k := 0) rfl (by decide) rfl (fun ls hl => ?_)
            refine lv_goto (tgt := 26) hx hb dX5_join_56 (by decide) ?_
            exact ih26 (i + 1) (zU g9 i (grp one)) _ _ _ (by omega) (by rw [i2 i (by omega) (by omega)] at c_42; first | exact upd_all (P := fun j x => x = if grp j = grp other then grp one else grp j) i1 (by rw [if_pos c_42]) | exact upd_keep (P := fun j x => x = if grp j = grp other then grp one else grp j) i1 (by rw [if_neg c_42]; exact i2 i (by omega) (by omega))) (by intro j h0 h1; first | (rw [zU_ne (by omega)]; exact i2 j (by omega) h1) | exact i2 j (by omega) h1) (by omega) hP hD hS (lv_sub hl [0, 1, 2, 3, 4, 5] rfl)
    exact L26 _ 0 grp _ _ _ (by omega) (by exact nothing_yet) (by exact fun _ _ _ => rfl) (Nat.lt_succ_self _) hP hD hS (lv_sub hl [0, 1, 2, 3, 4, 5] rfl)
  · refine zz_iconst hx hb dX5_join_21 ?_
    exact hret 0 grp _ _ _ _ dX5_join_22 ⟨(show ((0 : Int) = 0 ∧ grp one = grp other) ∨ ((0 : Int) = 1 ∧ ¬ grp one = grp other) from by omega), (show ∀ j, 0 ≤ j → j < 10 → grp j = if grp j = grp other then grp one else grp j from by exact join_same c_18)⟩ hP hD hS

set_option maxHeartbeats 4000000 in
set_option maxRecDepth 100000 in
theorem c_X5_shorten (l : Launch) (D : va_G) (tA : Nat → ClassId) (a0 a1 a2 a3 : Nat) (sz : Nat) (shrt : Int → Int) (grp : Int → Int) (seen : Int → Int) (src : Int) (dst : Int) (len : Int) (r_src : -2147483648 ≤ src ∧ src ≤ 2147483647) (r_dst : -2147483648 ≤ dst ∧ dst ≤ 2147483647) (r_len : -2147483648 ≤ len ∧ len ≤ 2147483647) (h1 : 0 ≤ src ∧ src < 10) (h2 : 0 ≤ dst ∧ dst < 10) (hs : -1 ≤ shrt src ∧ shrt src ≤ 1000000) (hd : -1 ≤ shrt dst ∧ shrt dst ≤ 1000000) (hlen : 1 ≤ len ∧ len ≤ 99) : zMi l yX5_shorten wsX5_shorten ({ frames := 0, cells := 0, slots := 0, locals := 0 }) D tA [.ref a0, .int (iI src), .int (iI dst), .int (iI len)] (bRoutes tA a0 a1 a2 a3 shrt grp seen) sz (fun (z : Int) (u : Unit) => (z = 0 ∨ z = 1) ∧ (z = 0 → rlx shrt src dst len = shrt)) (fun (u : Unit) => bRoutes tA a0 a1 a2 a3 (rlx shrt src dst len) grp seen) 0 0 := by
  refine zMi_of (cc := cX5_shorten) (maxL := 5) (by decide) rfl (fun z u h => zbool z (by omega)) (Nat.le_of_ble_eq_true rfl) ?_
  intro p e s m args below meth c A Q ls hx hb hml hts hown hK hP hD hA hret hl
  obtain ⟨H, hHe⟩ : ∃ H : Heap, H = s.heap := ⟨_, rfl⟩
  have hS : va_S A s.heap H [] := by rw [hHe]; exact va_S.rf
  rw [← hHe] at hP ⊢
  have hl : lv_has ls 5 [(0, .ref a0), (1, .int (iI src)), (2, .int (iI dst)), (3, .int (iI len))] := hl
  have iX5 : ∀ v ∈ wsX50, v ∈ wsX5_shorten := by decide +kernel
  have f_9 := hts (.fieldLink RX5 9 "HarborLights$Routes" "shortest" "[I") (by decide +kernel)
  refine lv_aload_n hx hb dX5_shorten_0 rfl (lv_at hl 0 rfl) ?_
  refine va_get (D := D) (ci := 7) (v := .ref a1) (C := RX5) (T := TX5) (N := 3) hx hb hts iX5 hown hK hP 0 rfl rfl 0 (by decide) f_9 (fun _ h9 => h9) rfl dX5_shorten_1 ?_
  refine lv_iload_n hx hb dX5_shorten_4 rfl (lv_at hl 1 rfl) ?_
  refine zz_iald hx hb hK hP 1 rfl (by decide) (by omega) dX5_shorten_5 ?_
  refine zz_iconst hx hb dX5_shorten_6 ?_
  refine zz_icmp_ne (tgt := 12) hx hb dX5_shorten_7 (by decide) (by omega) (by decide) (fun c_7 => ?_) (fun c_7 => ?_)
  · refine lv_aload_n hx hb dX5_shorten_12 rfl (lv_at hl 0 rfl) ?_
    refine va_get (D := D) (ci := 7) (v := .ref a1) (C := RX5) (T := TX5) (N := 3) hx hb hts iX5 hown hK hP 0 rfl rfl 0 (by decide) f_9 (fun _ h9 => h9) rfl dX5_shorten_13 ?_
    refine lv_iload_n hx hb dX5_shorten_16 rfl (lv_at hl 1 rfl) ?_
    refine zz_iald hx hb hK hP 1 rfl (by decide) (by omega) dX5_shorten_17 ?_
    refine lv_iload_n hx hb dX5_shorten_18 rfl (lv_at hl 3 rfl) ?_
    refine zz_iadd hx hb dX5_shorten_19 ?_
    refine lv_istore (lv' := [(4, .int (iI ((shrt src) + len))), (0, .ref a0), (1, .int (iI src)), (2, .int (iI dst)), (3, .int (iI len))]) hx hb dX5_shorten_20 hl (by decide) rfl (fun ls hl => ?_)
    refine lv_aload_n hx hb dX5_shorten_22 rfl (lv_at hl 1 rfl) ?_
    refine va_get (D := D) (ci := 7) (v := .ref a1) (C := RX5) (T := TX5) (N := 3) hx hb hts iX5 hown hK hP 0 rfl rfl 0 (by decide) f_9 (fun _ h9 => h9) rfl dX5_shorten_23 ?_
    refine lv_iload_n hx hb dX5_shorten_26 rfl (lv_at hl 3 rfl) ?_
    refine zz_iald hx hb hK hP 1 rfl (by decide) (by omega) dX5_shorten_27 ?_
    refine zz_iconst hx hb dX5_shorten_28 ?_
    refine zz_icmp_eq (tgt := 45) hx hb dX5_shorten_29 (by decide) (by omega) (by decide) (fun c_29 => ?_) (fun c_29 => ?_)
    · refine lv_aload_n hx hb dX5_shorten_45 rfl (lv_at hl 1 rfl) ?_
      refine va_get (D := D) (ci := 7) (v := .ref a1) (C := RX5) (T := TX5) (N := 3) hx hb hts iX5 hown hK hP 0 rfl rfl 0 (by decide) f_9 (fun _ h9 => h9) rfl dX5_shorten_46 ?_
      refine lv_iload_n hx hb dX5_shorten_49 rfl (lv_at hl 3 rfl) ?_
      refine lv_iload hx hb dX5_shorten_50 (lv_at hl 0 rfl) ?_
      refine zz_iast hx hb hK hP hD hS 1 rfl (by decide) (by omega) dX5_shorten_52 (fun H locs hP hD hS => ?_)
      have hP : va_P D vwCl (bRoutes tA a0 a1 a2 a3 (zU shrt dst ((shrt src) + len)) grp seen) H := hP
      have hD : va_D A (bRoutes tA a0 a1 a2 a3 (zU shrt dst ((shrt src) + len)) grp seen) := hD
      refine zz_iconst hx hb dX5_shorten_53 ?_
      have e_shrt : (zU shrt dst ((shrt src) + len)) = (rlx shrt src dst len) := by (unfold rlx; rw [if_neg (by omega)])
      rw [e_shrt] at hP hD
      exact hret 1 () _ _ _ _ dX5_shorten_54 ⟨(show (1 : Int) = 0 ∨ (1 : Int) = 1 from by omega), (show (1 : Int) = 0 → rlx shrt src dst len = shrt from by exact fun h => absurd h (by decide))⟩ hP hD hS
    · refine lv_aload_n hx hb dX5_shorten_32 rfl (lv_at hl 1 rfl) ?_
      refine va_get (D := D) (ci := 7) (v := .ref a1) (C := RX5) (T := TX5) (N := 3) hx hb hts iX5 hown hK hP 0 rfl rfl 0 (by decide) f_9 (fun _ h9 => h9) rfl dX5_shorten_33 ?_
      refine lv_iload_n hx hb dX5_shorten_36 rfl (lv_at hl 3 rfl) ?_
      refine zz_iald hx hb hK hP 1 rfl (by decide) (by omega) dX5_shorten_37 ?_
      refine lv_iload hx hb dX5_shorten_38 (lv_at hl 0 rfl) ?_
      refine zz_icmp_gt (tgt := 45) hx hb dX5_shorten_40 (by decide) (by omega) (by omega) (fun c_40 => ?_) (fun c_40 => ?_)
      · refine lv_aload_n hx hb dX5_shorten_45 rfl (lv_at hl 1 rfl) ?_
        refine va_get (D := D) (ci := 7) (v := .ref a1) (C := RX5) (T := TX5) (N := 3) hx hb hts iX5 hown hK hP 0 rfl rfl 0 (by decide) f_9 (fun _ h9 => h9) rfl dX5_shorten_46 ?_
        refine lv_iload_n hx hb dX5_shorten_49 rfl (lv_at hl 3 rfl) ?_
        refine lv_iload hx hb dX5_shorten_50 (lv_at hl 0 rfl) ?_
        refine zz_iast hx hb hK hP hD hS 1 rfl (by decide) (by omega) dX5_shorten_52 (fun H locs hP hD hS => ?_)
        have hP : va_P D vwCl (bRoutes tA a0 a1 a2 a3 (zU shrt dst ((shrt src) + len)) grp seen) H := hP
        have hD : va_D A (bRoutes tA a0 a1 a2 a3 (zU shrt dst ((shrt src) + len)) grp seen) := hD
        refine zz_iconst hx hb dX5_shorten_53 ?_
        have e_shrt : (zU shrt dst ((shrt src) + len)) = (rlx shrt src dst len) := by (unfold rlx; rw [if_neg (by omega)])
        rw [e_shrt] at hP hD
        exact hret 1 () _ _ _ _ dX5_shorten_54 ⟨(show (1 : Int) = 0 ∨ (1 : Int) = 1 from by omega), (show (1 : Int) = 0 → rlx shrt src dst len = shrt from by exact fun h => absurd h (by decide))⟩ hP hD hS
      · refine zz_iconst hx hb dX5_shorten_43 ?_
        have e_shrt : shrt = (rlx shrt src dst len) := by (unfold rlx; rw [if_pos (by omega)])
        rw [e_shrt] at hP hD
        exact hret 0 () _ _ _ _ dX5_shorten_44 ⟨(show (0 : Int) = 0 ∨ (0 : Int) = 1 from by omega), (show (0 : Int) = 0 → rlx shrt src dst len = shrt from by exact fun _ => by unfold rlx; rw [if_pos (by omega)])⟩ hP hD hS
  · refine zz_iconst hx hb dX5_shorten_10 ?_
    have e_shrt : shrt = (rlx shrt src dst len) := by (unfold rlx; rw [if_pos (by omega)])
    rw [e_shrt] at hP hD
    exact hret 0 () _ _ _ _ dX5_shorten_11 ⟨(show (0 : Int) = 0 ∨ (0 : Int) = 1 from by omega), (show (0 : Int) = 0 → rlx shrt src dst len = shrt from by exact fun _ => by unfold rlx; rw [if_pos (by omega)])⟩ hP hD hS

set_option maxHeartbeats 4000000 in
set_option maxRecDepth 100000 in
theorem c_X5_nearestUnseen (l : Launch) (D : va_G) (tA : Nat → ClassId) (a0 a1 a2 a3 : Nat) (sz : Nat) (shrt : Int → Int) (grp : Int → Int) (seen : Int → Int) (np : Int) (r_np : -2147483648 ≤ np ∧ np ≤ 2147483647) (hnp : 0 ≤ np ∧ np ≤ 10) (Rs : zRn 10 shrt) (hn : ∀ x, 0 ≤ x → x < 10 → seen x = 0 ∨ seen x = 1) : zMi l yX5_nearestUnseen wsX5_nearestUnseen ({ frames := 0, cells := 0, slots := 0, locals := 0 }) D tA [.ref a0, .int (iI np)] (bRoutes tA a0 a1 a2 a3 shrt grp seen) sz (fun (z : Int) (u : Unit) => (NuI seen shrt np z)) (fun (u : Unit) => bRoutes tA a0 a1 a2 a3 shrt grp seen) 0 0 := by
  refine zMi_of (cc := cX5_nearestUnseen) (maxL := 5) (by decide) rfl (fun z u h => rfl) (Nat.le_of_ble_eq_true rfl) ?_
  intro p e s m args below meth c A Q ls hx hb hml hts hown hK hP hD hA hret hl
  obtain ⟨H, hHe⟩ : ∃ H : Heap, H = s.heap := ⟨_, rfl⟩
  have hS : va_S A s.heap H [] := by rw [hHe]; exact va_S.rf
  rw [← hHe] at hP ⊢
  have hl : lv_has ls 5 [(0, .ref a0), (1, .int (iI np))] := hl
  have iX5 : ∀ v ∈ wsX50, v ∈ wsX5_nearestUnseen := by decide +kernel
  have f_9 := hts (.fieldLink RX5 9 "HarborLights$Routes" "shortest" "[I") (by decide +kernel)
  have f_18 := hts (.fieldLink RX5 18 "HarborLights$Routes" "seen" "[Z") (by decide +kernel)
  refine zz_iconst hx hb dX5_nearestUnseen_0 ?_
  refine lv_istore_n (lv' := [(2, .int (iI (-1))), (0, .ref a0), (1, .int (iI np))]) hx hb dX5_nearestUnseen_1 rfl hl (by decide) rfl (fun ls hl => ?_)
  refine zz_iconst hx hb dX5_nearestUnseen_2 ?_
  refine lv_istore_n (lv' := [(3, .int (iI 0)), (2, .int (iI (-1))), (0, .ref a0), (1, .int (iI np))]) hx hb dX5_nearestUnseen_3 rfl hl (by decide) rfl (fun ls hl => ?_)
  have L4 : ∀ (n : Nat) (i : Int) (best : Int) (H : Heap) (locs : List Loc) (ls : Array Slot), (0 ≤ i ∧ i ≤ np) → (-1 ≤ best ∧ best < i) → (NuI seen shrt i best) → (np - i).toNat < n → va_P D vwCl (bRoutes tA a0 a1 a2 a3 shrt grp seen) H → va_D A (bRoutes tA a0 a1 a2 a3 shrt grp seen) → va_S A s.heap H locs → lv_has ls 5 [(3, .int (iI i)), (2, .int (iI best)), (0, .ref a0), (1, .int (iI np))] → W p l e (headSpec wsX5_nearestUnseen ({ frames := 0, cells := 0, slots := 0, locals := 0 })).room s m args below meth c H locs 0 0 Q (F0 m 4 ls []) := by
    intro n
    induction n with
    | zero => intro i best H locs ls i0 ib i1 hmz; exact absurd hmz (Nat.not_lt_zero _)
    | succ n ih4 =>
      intro i best H locs ls i0 ib i1 hmz hP hD hS hl
      refine lv_iload_n hx hb dX5_nearestUnseen_4 rfl (lv_at hl 0 rfl) ?_
      refine lv_iload_n hx hb dX5_nearestUnseen_5 rfl (lv_at hl 3 rfl) ?_
      refine zz_icmp_ge (tgt := 68) hx hb dX5_nearestUnseen_6 (by decide) (by omega) (by omega) (fun c_6 => ?_) (fun c_6 => ?_)
      · refine lv_iload_n hx hb dX5_nearestUnseen_68 rfl (lv_at hl 1 rfl) ?_
        exact hret best () _ _ _ _ dX5_nearestUnseen_69 (show NuI seen shrt np best from by rw [show np = i by omega]; exact i1) hP hD hS
      · refine lv_aload_n hx hb dX5_nearestUnseen_9 rfl (lv_at hl 2 rfl) ?_
        refine va_get (D := D) (ci := 7) (v := .ref a3) (C := RX5) (T := TX5) (N := 3) hx hb hts iX5 hown hK hP 0 rfl rfl 2 (by decide) f_18 (fun _ h9 => h9) rfl dX5_nearestUnseen_10 ?_
        refine lv_iload_n hx hb dX5_nearestUnseen_13 rfl (lv_at hl 0 rfl) ?_
        refine zz_zald hx hb hK hP 3 rfl (by decide) (by omega) dX5_nearestUnseen_14 ?_
        have r_14 := hn i (by omega) (by omega)
        refine zz_if_ne (tgt := 32) hx hb dX5_nearestUnseen_15 (by decide) (by omega) (fun c_15 => ?_) (fun c_15 => ?_)
        · refine zz_iconst hx hb dX5_nearestUnseen_32 ?_
          refine lv_istore (lv' := [(4, .int (iI 0)), (3, .int (iI i)), (2, .int (iI best)), (0, .ref a0), (1, .int (iI np))]) hx hb dX5_nearestUnseen_33 hl (by decide) rfl (fun ls hl => ?_)
          refine lv_iload hx hb dX5_nearestUnseen_35 (lv_at hl 0 rfl) ?_
          refine zz_if_eq (tgt := 62) hx hb dX5_nearestUnseen_37 (by decide) (by decide) (fun c_37 => ?_) (fun c_37 => ?_)
          · refine zz_iinc (lv' := [(3, .int (iI (i + 1))), (4, .int (iI 0)), (2, .int (iI best)), (0, .ref a0), (1, .int (iI np))]) hx hb dX5_nearestUnseen_62 hl (k := 1) rfl (by decide) rfl (fun ls hl => ?_)
            refine lv_goto (tgt := 4) hx hb dX5_nearestUnseen_65 (by decide) ?_
            exact ih4 (i + 1) best _ _ _ (by omega) (by omega) (by first | exact NuI_skip (by omega) i1 (by omega) | exact NuI_keep i1 (by omega) (by omega) | exact NuI_take (by omega) i1 (by omega) (by omega)) (by omega) hP hD hS (lv_sub hl [0, 2, 3, 4] rfl)
          · exact absurd c_37 (by decide)
        · refine lv_aload_n hx hb dX5_nearestUnseen_18 rfl (lv_at hl 2 rfl) ?_
          refine va_get (D := D) (ci := 7) (v := .ref a1) (C := RX5) (T := TX5) (N := 3) hx hb hts iX5 hown hK hP 0 rfl rfl 0 (by decide) f_9 (fun _ h9 => h9) rfl dX5_nearestUnseen_19 ?_
          refine lv_iload_n hx hb dX5_nearestUnseen_22 rfl (lv_at hl 0 rfl) ?_
          refine zz_iald hx hb hK hP 1 rfl (by decide) (by omega) dX5_nearestUnseen_23 ?_
          have r_23 := Rs i (by omega) (by omega)
          refine zz_iconst hx hb dX5_nearestUnseen_24 ?_
          refine zz_icmp_eq (tgt := 32) hx hb dX5_nearestUnseen_25 (by decide) (by omega) (by decide) (fun c_25 => ?_) (fun c_25 => ?_)
          · refine zz_iconst hx hb dX5_nearestUnseen_32 ?_
            refine lv_istore (lv' := [(4, .int (iI 0)), (3, .int (iI i)), (2, .int (iI best)), (0, .ref a0), (1, .int (iI np))]) hx hb dX5_nearestUnseen_33 hl (by decide) rfl (fun ls hl => ?_)
            refine lv_iload hx hb dX5_nearestUnseen_35 (lv_at hl 0 rfl) ?_
            refine zz_if_eq (tgt := 62) hx hb dX5_nearestUnseen_37 (by decide) (by decide) (fun c_37 => ?_) (fun c_37 => ?_)
            · refine zz_iinc (lv' := [(3, .int (iI (i + 1))), (4, .int (iI 0)), (2, .int (iI best)), (0, .ref a0), (1, .int (iI np))]) hx hb dX5_nearestUnseen_62 hl (k := 1) rfl (by decide) rfl (fun ls hl => ?_)
              refine lv_goto (tgt := 4) hx hb dX5_nearestUnseen_65 (by decide) ?_
              exact ih4 (i + 1) best _ _ _ (by omega) (by omega) (by first | exact NuI_skip (by omega) i1 (by omega) | exact NuI_keep i1 (by omega) (by omega) | exact NuI_take (by omega) i1 (by omega) (by omega)) (by omega) hP hD hS (lv_sub hl [0, 2, 3, 4] rfl)
            · exact absurd c_37 (by decide)
          · refine zz_iconst hx hb dX5_nearestUnseen_28 ?_
            refine lv_goto (tgt := 33) hx hb dX5_nearestUnseen_29 (by decide) ?_
            refine lv_istore (lv' := [(4, .int (iI 1)), (3, .int (iI i)), (2, .int (iI best)), (0, .ref a0), (1, .int (iI np))]) hx hb dX5_nearestUnseen_33 hl (by decide) rfl (fun ls hl => ?_)
            refine lv_iload hx hb dX5_nearestUnseen_35 (lv_at hl 0 rfl) ?_
            refine zz_if_eq (tgt := 62) hx hb dX5_nearestUnseen_37 (by decide) (by decide) (fun c_37 => ?_) (fun c_37 => ?_)
            · exact absurd c_37 (by decide)
            · refine lv_iload_n hx hb dX5_nearestUnseen_40 rfl (lv_at hl 2 rfl) ?_
              refine zz_iconst hx hb dX5_nearestUnseen_41 ?_
              refine zz_icmp_eq (tgt := 60) hx hb dX5_nearestUnseen_42 (by decide) (by omega) (by decide) (fun c_42 => ?_) (fun c_42 => ?_)
              · refine lv_iload_n hx hb dX5_nearestUnseen_60 rfl (lv_at hl 1 rfl) ?_
                refine lv_istore_n (lv' := [(2, .int (iI i)), (4, .int (iI 1)), (3, .int (iI i)), (0, .ref a0), (1, .int (iI np))]) hx hb dX5_nearestUnseen_61 rfl hl (by decide) rfl (fun ls hl => ?_)
                refine zz_iinc (lv' := [(3, .int (iI (i + 1))), (2, .int (iI i)), (4, .int (iI 1)), (0, .ref a0), (1, .int (iI np))]) hx hb dX5_nearestUnseen_62 hl (k := 2) rfl (by decide) rfl (fun ls hl => ?_)
                refine lv_goto (tgt := 4) hx hb dX5_nearestUnseen_65 (by decide) ?_
                exact ih4 (i + 1) i _ _ _ (by omega) (by omega) (by first | exact NuI_skip (by omega) i1 (by omega) | exact NuI_keep i1 (by omega) (by omega) | exact NuI_take (by omega) i1 (by omega) (by omega)) (by omega) hP hD hS (lv_sub hl [0, 1, 3, 4] rfl)
              · refine lv_aload_n hx hb dX5_nearestUnseen_45 rfl (lv_at hl 3 rfl) ?_
                refine va_get (D := D) (ci := 7) (v := .ref a1) (C := RX5) (T := TX5) (N := 3) hx hb hts iX5 hown hK hP 0 rfl rfl 0 (by decide) f_9 (fun _ h9 => h9) rfl dX5_nearestUnseen_46 ?_
                refine lv_iload_n hx hb dX5_nearestUnseen_49 rfl (lv_at hl 1 rfl) ?_
                refine zz_iald hx hb hK hP 1 rfl (by decide) (by omega) dX5_nearestUnseen_50 ?_
                have r_50 := Rs i (by omega) (by omega)
                refine lv_aload_n hx hb dX5_nearestUnseen_51 rfl (lv_at hl 3 rfl) ?_
                refine va_get (D := D) (ci := 7) (v := .ref a1) (C := RX5) (T := TX5) (N := 3) hx hb hts iX5 hown hK hP 0 rfl rfl 0 (by decide) f_9 (fun _ h9 => h9) rfl dX5_nearestUnseen_52 ?_
                refine lv_iload_n hx hb dX5_nearestUnseen_55 rfl (lv_at hl 2 rfl) ?_
                refine zz_iald hx hb hK hP 1 rfl (by decide) (by omega) dX5_nearestUnseen_56 ?_
                have r_56 := Rs best (by omega) (by omega)
                refine zz_icmp_ge (tgt := 62) hx hb dX5_nearestUnseen_57 (by decide) (by omega) (by omega) (fun c_57 => ?_) (fun c_57 => ?_)
                · refine zz_iinc (lv' := [(3, .int (iI (i + 1))), (4, .int (iI 1)), (2, .int (iI best)), (0, .ref a0), (1, .int (iI np))]) hx hb dX5_nearestUnseen_62 hl (k := 1) rfl (by decide) rfl (fun ls hl => ?_)
                  refine lv_goto (tgt := 4) hx hb dX5_nearestUnseen_65 (by decide) ?_
                  exact ih4 (i + 1) best _ _ _ (by omega) (by omega) (by first | exact NuI_skip (by omega) i1 (by omega) | exact NuI_keep i1 (by omega) (by omega) | exact NuI_take (by omega) i1 (by omega) (by omega)) (by omega) hP hD hS (lv_sub hl [0, 2, 3, 4] rfl)
                · refine lv_iload_n hx hb dX5_nearestUnseen_60 rfl (lv_at hl 1 rfl) ?_
                  refine lv_istore_n (lv' := [(2, .int (iI i)), (4, .int (iI 1)), (3, .int (iI i)), (0, .ref a0), (1, .int (iI np))]) hx hb dX5_nearestUnseen_61 rfl hl (by decide) rfl (fun ls hl => ?_)
                  refine zz_iinc (lv' := [(3, .int (iI (i + 1))), (2, .int (iI i)), (4, .int (iI 1)), (0, .ref a0), (1, .int (iI np))]) hx hb dX5_nearestUnseen_62 hl (k := 2) rfl (by decide) rfl (fun ls hl => ?_)
                  refine lv_goto (tgt := 4) hx hb dX5_nearestUnseen_65 (by decide) ?_
                  exact ih4 (i + 1) i _ _ _ (by omega) (by omega) (by first | exact NuI_skip (by omega) i1 (by omega) | exact NuI_keep i1 (by omega) (by omega) | exact NuI_take (by omega) i1 (by omega) (by omega)) (by omega) hP hD hS (lv_sub hl [0, 1, 3, 4] rfl)
  exact L4 _ 0 (-1) _ _ _ (by omega) (by omega) (by exact NuI_0 _ _) (Nat.lt_succ_self _) hP hD hS (lv_sub hl [0, 1, 2, 3] rfl)

set_option maxHeartbeats 4000000 in
set_option maxRecDepth 100000 in
theorem c_X5_goOn (l : Launch) (D : va_G) (tA : Nat → ClassId) (a0 a1 a2 a3 b0 b1 b2 b3 b4 b5 : Nat) (sz : Nat) (shrt : Int → Int) (grp : Int → Int) (seen : Int → Int) (ports : Int) (legs : Int) (lower : Int → Int) (upper : Int → Int) (leng : Int → Int) (reach : Int → Int) (meter : Int → Int) (a : Int) (r : Int) (r_a : -2147483648 ≤ a ∧ a ≤ 2147483647) (r_r : -2147483648 ≤ r ∧ r ≤ 2147483647) (hch : ChV ports legs lower upper leng reach) (ha : 0 ≤ a ∧ a < ports) (hs : ∀ x, 0 ≤ x → x < 10 → shrt x = -1 ∨ (0 ≤ shrt x ∧ shrt x ≤ 900)) (hsa : 0 ≤ shrt a) : zMv l yX5_goOn wsX5_goOn ({ frames := 1, cells := 0, slots := 0, locals := 24 }) D tA [.ref a0, .ref b0, .int (iI a), .int (iI r)] (bRoutes tA a0 a1 a2 a3 shrt grp seen ++ bChart tA b0 b1 b2 b3 b4 b5 ports legs lower upper leng reach meter) sz (fun (u : (Int → Int)) => (GoI (eg legs lower upper leng reach r) (eg legs lower upper leng reach r) a shrt u)) (fun (u : (Int → Int)) => bRoutes tA a0 a1 a2 a3 u grp seen ++ bChart tA b0 b1 b2 b3 b4 b5 ports legs lower upper leng reach meter) 0 0 := by
  refine zMv_of (cc := cX5_goOn) (maxL := 5) (by decide) rfl (Nat.le_of_ble_eq_true rfl) ?_
  intro p e s m args below meth c A Q ls hx hb hml hts hown hK hP hD hA hret hl
  obtain ⟨H, hHe⟩ : ∃ H : Heap, H = s.heap := ⟨_, rfl⟩
  have hS : va_S A s.heap H [] := by rw [hHe]; exact va_S.rf
  rw [← hHe] at hP ⊢
  have hl : lv_has ls 5 [(0, .ref a0), (1, .ref b0), (2, .int (iI a)), (3, .int (iI r))] := hl
  have iX1 : ∀ v ∈ wsX10, v ∈ wsX5_goOn := by decide +kernel
  have f_40 := hts (.fieldLink RX5 40 "HarborLights$Chart" "legs" "I") (by decide +kernel)
  have f_43 := hts (.fieldLink RX5 43 "HarborLights$Chart" "lower" "[I") (by decide +kernel)
  have f_46 := hts (.fieldLink RX5 46 "HarborLights$Chart" "upper" "[I") (by decide +kernel)
  have f_49 := hts (.fieldLink RX5 49 "HarborLights$Chart" "length" "[I") (by decide +kernel)
  have f_63 := hts (.fieldLink RX5 63 "HarborLights$Chart" "reach" "[I") (by decide +kernel)
  obtain ⟨vp0, vp1, vl0, vl1, -, -⟩ := id hch
  have hE := hch.egOk r
  refine zz_iconst hx hb dX5_goOn_0 ?_
  refine lv_istore (lv' := [(4, .int (iI 0)), (0, .ref a0), (1, .ref b0), (2, .int (iI a)), (3, .int (iI r))]) hx hb dX5_goOn_1 hl (by decide) rfl (fun ls hl => ?_)
  have L3 : ∀ (n : Nat) (k : Int) (s9 : Int → Int) (H : Heap) (locs : List Loc) (ls : Array Slot), (0 ≤ k ∧ k ≤ legs) → (GoI (eg legs lower upper leng reach r) (eg k lower upper leng reach r) a shrt s9) → (legs - k).toNat < n → va_P D vwCl (bRoutes tA a0 a1 a2 a3 s9 grp seen ++ bChart tA b0 b1 b2 b3 b4 b5 ports legs lower upper leng reach meter) H → va_D A (bRoutes tA a0 a1 a2 a3 s9 grp seen ++ bChart tA b0 b1 b2 b3 b4 b5 ports legs lower upper leng reach meter) → va_S A s.heap H locs → lv_has ls 5 [(4, .int (iI k)), (0, .ref a0), (1, .ref b0), (2, .int (iI a)), (3, .int (iI r))] → W p l e (headSpec wsX5_goOn ({ frames := 1, cells := 0, slots := 0, locals := 24 })).room s m args below meth c H locs 0 0 Q (F0 m 3 ls []) := by
    intro n
    induction n with
    | zero => intro k s9 H locs ls i0 i1 hmz; exact absurd hmz (Nat.not_lt_zero _)
    | succ n ih3 =>
      intro k s9 H locs ls i0 i1 hmz hP hD hS hl
      refine lv_iload hx hb dX5_goOn_3 (lv_at hl 0 rfl) ?_
      refine lv_aload_n hx hb dX5_goOn_5 rfl (lv_at hl 2 rfl) ?_
      refine va_get (D := D) (ci := 4) (v := .int (iI legs)) (C := RX1) (T := TX1) (N := 7) hx hb hts iX1 hown hK hP 4 rfl rfl 1 (by decide) f_40 (fun _ h9 => h9) rfl dX5_goOn_6 ?_
      refine zz_icmp_ge (tgt := 102) hx hb dX5_goOn_9 (by decide) (by omega) (by omega) (fun c_9 => ?_) (fun c_9 => ?_)
      · exact hret s9 _ _ _ _ dX5_goOn_102 (show GoI (eg legs lower upper leng reach r) (eg legs lower upper leng reach r) a shrt s9 from by rw [show k = legs by omega] at i1; exact i1) hP hD hS
      · refine lv_aload_n hx hb dX5_goOn_12 rfl (lv_at hl 2 rfl) ?_
        refine va_get (D := D) (ci := 4) (v := .ref b4) (C := RX1) (T := TX1) (N := 7) hx hb hts iX1 hown hK hP 4 rfl rfl 5 (by decide) f_63 (fun _ h9 => h9) rfl dX5_goOn_13 ?_
        refine lv_iload hx hb dX5_goOn_16 (lv_at hl 0 rfl) ?_
        refine zz_iald hx hb hK hP 8 rfl (by decide) (by omega) dX5_goOn_18 ?_
        have r_18 := hch.2.2.2.2.1 k (by omega) (by omega)
        refine lv_iload_n hx hb dX5_goOn_19 rfl (lv_at hl 4 rfl) ?_
        refine zz_icmp_gt (tgt := 54) hx hb dX5_goOn_20 (by decide) (by omega) (by omega) (fun c_20 => ?_) (fun c_20 => ?_)
        · refine lv_aload_n hx hb dX5_goOn_54 rfl (lv_at hl 2 rfl) ?_
          refine va_get (D := D) (ci := 4) (v := .ref b4) (C := RX1) (T := TX1) (N := 7) hx hb hts iX1 hown hK hP 4 rfl rfl 5 (by decide) f_63 (fun _ h9 => h9) rfl dX5_goOn_55 ?_
          refine lv_iload hx hb dX5_goOn_58 (lv_at hl 0 rfl) ?_
          refine zz_iald hx hb hK hP 8 rfl (by decide) (by omega) dX5_goOn_60 ?_
          have r_60 := hch.2.2.2.2.1 k (by omega) (by omega)
          refine lv_iload_n hx hb dX5_goOn_61 rfl (lv_at hl 4 rfl) ?_
          refine zz_icmp_gt (tgt := 96) hx hb dX5_goOn_62 (by decide) (by omega) (by omega) (fun c_62 => ?_) (fun c_62 => ?_)
          · refine zz_iinc (lv' := [(4, .int (iI (k + 1))), (0, .ref a0), (1, .ref b0), (2, .int (iI a)), (3, .int (iI r))]) hx hb dX5_goOn_96 hl (k := 0) rfl (by decide) rfl (fun ls hl => ?_)
            refine lv_goto (tgt := 3) hx hb dX5_goOn_99 (by decide) ?_
            exact ih3 (k + 1) s9 _ _ _ (by omega) (by first | exact GoI_skip (by omega) i1 | exact GoI_no (by omega) (by omega) (by omega) (by omega) i1 | exact GoI_go vp1 hE ha hsa (by omega) (by omega) (Or.inl ⟨c_31, rfl⟩) (hch.sub (k := k + 1) (r := r) (by omega) (Or.inl (Int.le_refl r)) _ _ _ ⟨k, by omega, by omega, by omega, rfl, Or.inl ⟨c_31, rfl⟩⟩) (hch.sub (by omega) (Or.inl (Int.le_refl r))) i1 | exact GoI_go vp1 hE ha hsa (by omega) (by omega) (Or.inr ⟨rfl, c_73⟩) (hch.sub (k := k + 1) (r := r) (by omega) (Or.inl (Int.le_refl r)) _ _ _ ⟨k, by omega, by omega, by omega, rfl, Or.inr ⟨rfl, c_73⟩⟩) (hch.sub (by omega) (Or.inl (Int.le_refl r))) i1 | (exfalso; omega)) (by omega) hP hD hS (lv_sub hl [0, 1, 2, 3, 4] rfl)
          · refine lv_aload_n hx hb dX5_goOn_65 rfl (lv_at hl 2 rfl) ?_
            refine va_get (D := D) (ci := 4) (v := .ref b2) (C := RX1) (T := TX1) (N := 7) hx hb hts iX1 hown hK hP 4 rfl rfl 3 (by decide) f_46 (fun _ h9 => h9) rfl dX5_goOn_66 ?_
            refine lv_iload hx hb dX5_goOn_69 (lv_at hl 0 rfl) ?_
            refine zz_iald hx hb hK hP 6 rfl (by decide) (by omega) dX5_goOn_71 ?_
            have r_71 := hch.2.2.2.2.1 k (by omega) (by omega)
            refine lv_iload_n hx hb dX5_goOn_72 rfl (lv_at hl 3 rfl) ?_
            refine zz_icmp_ne (tgt := 96) hx hb dX5_goOn_73 (by decide) (by omega) (by omega) (fun c_73 => ?_) (fun c_73 => ?_)
            · refine zz_iinc (lv' := [(4, .int (iI (k + 1))), (0, .ref a0), (1, .ref b0), (2, .int (iI a)), (3, .int (iI r))]) hx hb dX5_goOn_96 hl (k := 0) rfl (by decide) rfl (fun ls hl => ?_)
              refine lv_goto (tgt := 3) hx hb dX5_goOn_99 (by decide) ?_
              exact ih3 (k + 1) s9 _ _ _ (by omega) (by first | exact GoI_skip (by omega) i1 | exact GoI_no (by omega) (by omega) (by omega) (by omega) i1 | exact GoI_go vp1 hE ha hsa (by omega) (by omega) (Or.inl ⟨c_31, rfl⟩) (hch.sub (k := k + 1) (r := r) (by omega) (Or.inl (Int.le_refl r)) _ _ _ ⟨k, by omega, by omega, by omega, rfl, Or.inl ⟨c_31, rfl⟩⟩) (hch.sub (by omega) (Or.inl (Int.le_refl r))) i1 | exact GoI_go vp1 hE ha hsa (by omega) (by omega) (Or.inr ⟨rfl, c_73⟩) (hch.sub (k := k + 1) (r := r) (by omega) (Or.inl (Int.le_refl r)) _ _ _ ⟨k, by omega, by omega, by omega, rfl, Or.inr ⟨rfl, c_73⟩⟩) (hch.sub (by omega) (Or.inl (Int.le_refl r))) i1 | (exfalso; omega)) (by omega) hP hD hS (lv_sub hl [0, 1, 2, 3, 4] rfl)
            · refine lv_aload_n hx hb dX5_goOn_76 rfl (lv_at hl 1 rfl) ?_
              refine lv_iload_n hx hb dX5_goOn_77 rfl (lv_at hl 3 rfl) ?_
              refine lv_aload_n hx hb dX5_goOn_78 rfl (lv_at hl 2 rfl) ?_
              refine va_get (D := D) (ci := 4) (v := .ref b1) (C := RX1) (T := TX1) (N := 7) hx hb hts iX1 hown hK hP 4 rfl rfl 2 (by decide) f_43 (fun _ h9 => h9) rfl dX5_goOn_79 ?_
              refine lv_iload hx hb dX5_goOn_82 (lv_at hl 0 rfl) ?_
              refine zz_iald hx hb hK hP 5 rfl (by decide) (by omega) dX5_goOn_84 ?_
              have r_84 := hch.2.2.2.2.1 k (by omega) (by omega)
              refine lv_aload_n hx hb dX5_goOn_85 rfl (lv_at hl 2 rfl) ?_
              refine va_get (D := D) (ci := 4) (v := .ref b3) (C := RX1) (T := TX1) (N := 7) hx hb hts iX1 hown hK hP 4 rfl rfl 4 (by decide) f_49 (fun _ h9 => h9) rfl dX5_goOn_86 ?_
              refine lv_iload hx hb dX5_goOn_89 (lv_at hl 0 rfl) ?_
              refine zz_iald hx hb hK hP 7 rfl (by decide) (by omega) dX5_goOn_91 ?_
              have r_91 := hch.2.2.2.2.1 k (by omega) (by omega)
              have v3 := GoI_val hE i1 hs (show 0 ≤ a ∧ a < 10 by omega) (x := a) (by omega) (by omega)
              have v4 := GoI_val hE i1 hs (show 0 ≤ a ∧ a < 10 by omega) (x := lower k) (by omega) (by omega)
              refine zz_callVi (As := [.int (iI a), .int (iI (lower k)), .int (iI (leng k))]) (rest := []) (wf := fun u => bRoutes tA a0 a1 a2 a3 (rlx s9 a (lower k) (leng k)) grp seen ++ bChart tA b0 b1 b2 b3 b4 b5 ports legs lower upper leng reach meter) ⟨hx, hb, hml, hown, hts⟩ (c_X5_shorten l D tA a0 a1 a2 a3 H.size s9 grp seen a (lower k) (leng k) (by first | assumption | omega) (by first | assumption | omega) (by first | assumption | omega) (by first | assumption | omega) (by first | assumption | omega) (by first | assumption | omega) (by first | assumption | omega) (by first | assumption | omega)) (cwV 3 hts gX5_goOn_X5_shorten rfl rfl rfl (by decide +kernel) ⟨Nat.le_of_ble_eq_true rfl, Nat.le_of_ble_eq_true rfl⟩) hK hP hD hS hA [0, 1, 2, 3] [4, 5, 6, 7, 8, 9] [6, 7, 8, 9, 0, 1, 2, 3, 4, 5] rfl rfl (by decide) (by decide) (by decide) (by decide) (fun _ => rfl) (ci := 7) (q0 := 0) rfl rfl rfl rfl rfl hl.1 (Nat.le_of_ble_eq_true rfl) dX5_goOn_92 ⟨Nat.le_of_ble_eq_true rfl, Nat.le_of_ble_eq_true rfl⟩ ?_
              intro z92_1 u H locs p92_2 hP hD hS
              have hP : va_P D vwCl (bRoutes tA a0 a1 a2 a3 (rlx s9 a (lower k) (leng k)) grp seen ++ bChart tA b0 b1 b2 b3 b4 b5 ports legs lower upper leng reach meter) H := hP
              have hD : va_D A (bRoutes tA a0 a1 a2 a3 (rlx s9 a (lower k) (leng k)) grp seen ++ bChart tA b0 b1 b2 b3 b4 b5 ports legs lower upper leng reach meter) := hD
              have q0_92 : z92_1 = 0 ∨ z92_1 = 1 := p92_2.1
              have q1_92 : z92_1 = 0 → rlx s9 a (lower k) (leng k) = s9 := p92_2.2
              refine lv_pop hx hb dX5_goOn_95 rfl ?_
              refine zz_iinc (lv' := [(4, .int (iI (k + 1))), (0, .ref a0), (1, .ref b0), (2, .int (iI a)), (3, .int (iI r))]) hx hb dX5_goOn_96 hl (k := 0) rfl (by decide) rfl (fun ls hl => ?_)
              refine lv_goto (tgt := 3) hx hb dX5_goOn_99 (by decide) ?_
              exact ih3 (k + 1) (rlx s9 a (lower k) (leng k)) _ _ _ (by omega) (by first | exact GoI_skip (by omega) i1 | exact GoI_no (by omega) (by omega) (by omega) (by omega) i1 | exact GoI_go vp1 hE ha hsa (by omega) (by omega) (Or.inl ⟨c_31, rfl⟩) (hch.sub (k := k + 1) (r := r) (by omega) (Or.inl (Int.le_refl r)) _ _ _ ⟨k, by omega, by omega, by omega, rfl, Or.inl ⟨c_31, rfl⟩⟩) (hch.sub (by omega) (Or.inl (Int.le_refl r))) i1 | exact GoI_go vp1 hE ha hsa (by omega) (by omega) (Or.inr ⟨rfl, c_73⟩) (hch.sub (k := k + 1) (r := r) (by omega) (Or.inl (Int.le_refl r)) _ _ _ ⟨k, by omega, by omega, by omega, rfl, Or.inr ⟨rfl, c_73⟩⟩) (hch.sub (by omega) (Or.inl (Int.le_refl r))) i1 | (exfalso; omega)) (by omega) hP hD hS (lv_sub hl [0, 1, 2, 3, 4] rfl)
        · refine lv_aload_n hx hb dX5_goOn_23 rfl (lv_at hl 2 rfl) ?_
          refine va_get (D := D) (ci := 4) (v := .ref b1) (C := RX1) (T := TX1) (N := 7) hx hb hts iX1 hown hK hP 4 rfl rfl 2 (by decide) f_43 (fun _ h9 => h9) rfl dX5_goOn_24 ?_
          refine lv_iload hx hb dX5_goOn_27 (lv_at hl 0 rfl) ?_
          refine zz_iald hx hb hK hP 5 rfl (by decide) (by omega) dX5_goOn_29 ?_
          have r_29 := hch.2.2.2.2.1 k (by omega) (by omega)
          refine lv_iload_n hx hb dX5_goOn_30 rfl (lv_at hl 3 rfl) ?_
          refine zz_icmp_ne (tgt := 54) hx hb dX5_goOn_31 (by decide) (by omega) (by omega) (fun c_31 => ?_) (fun c_31 => ?_)
          · refine lv_aload_n hx hb dX5_goOn_54 rfl (lv_at hl 2 rfl) ?_
            refine va_get (D := D) (ci := 4) (v := .ref b4) (C := RX1) (T := TX1) (N := 7) hx hb hts iX1 hown hK hP 4 rfl rfl 5 (by decide) f_63 (fun _ h9 => h9) rfl dX5_goOn_55 ?_
            refine lv_iload hx hb dX5_goOn_58 (lv_at hl 0 rfl) ?_
            refine zz_iald hx hb hK hP 8 rfl (by decide) (by omega) dX5_goOn_60 ?_
            have r_60 := hch.2.2.2.2.1 k (by omega) (by omega)
            refine lv_iload_n hx hb dX5_goOn_61 rfl (lv_at hl 4 rfl) ?_
            refine zz_icmp_gt (tgt := 96) hx hb dX5_goOn_62 (by decide) (by omega) (by omega) (fun c_62 => ?_) (fun c_62 => ?_)
            · refine zz_iinc (lv' := [(4, .int (iI (k + 1))), (0, .ref a0), (1, .ref b0), (2, .int (iI a)), (3, .int (iI r))]) hx hb dX5_goOn_96 hl (k := 0) rfl (by decide) rfl (fun ls hl => ?_)
              refine lv_goto (tgt := 3) hx hb dX5_goOn_99 (by decide) ?_
              exact ih3 (k + 1) s9 _ _ _ (by omega) (by first | exact GoI_skip (by omega) i1 | exact GoI_no (by omega) (by omega) (by omega) (by omega) i1 | exact GoI_go vp1 hE ha hsa (by omega) (by omega) (Or.inl ⟨c_31, rfl⟩) (hch.sub (k := k + 1) (r := r) (by omega) (Or.inl (Int.le_refl r)) _ _ _ ⟨k, by omega, by omega, by omega, rfl, Or.inl ⟨c_31, rfl⟩⟩) (hch.sub (by omega) (Or.inl (Int.le_refl r))) i1 | exact GoI_go vp1 hE ha hsa (by omega) (by omega) (Or.inr ⟨rfl, c_73⟩) (hch.sub (k := k + 1) (r := r) (by omega) (Or.inl (Int.le_refl r)) _ _ _ ⟨k, by omega, by omega, by omega, rfl, Or.inr ⟨rfl, c_73⟩⟩) (hch.sub (by omega) (Or.inl (Int.le_refl r))) i1 | (exfalso; omega)) (by omega) hP hD hS (lv_sub hl [0, 1, 2, 3, 4] rfl)
            · refine lv_aload_n hx hb dX5_goOn_65 rfl (lv_at hl 2 rfl) ?_
              refine va_get (D := D) (ci := 4) (v := .ref b2) (C := RX1) (T := TX1) (N := 7) hx hb hts iX1 hown hK hP 4 rfl rfl 3 (by decide) f_46 (fun _ h9 => h9) rfl dX5_goOn_66 ?_
              refine lv_iload hx hb dX5_goOn_69 (lv_at hl 0 rfl) ?_
              refine zz_iald hx hb hK hP 6 rfl (by decide) (by omega) dX5_goOn_71 ?_
              have r_71 := hch.2.2.2.2.1 k (by omega) (by omega)
              refine lv_iload_n hx hb dX5_goOn_72 rfl (lv_at hl 3 rfl) ?_
              refine zz_icmp_ne (tgt := 96) hx hb dX5_goOn_73 (by decide) (by omega) (by omega) (fun c_73 => ?_) (fun c_73 => ?_)
              · refine zz_iinc (lv' := [(4, .int (iI (k + 1))), (0, .ref a0), (1, .ref b0), (2, .int (iI a)), (3, .int (iI r))]) hx hb dX5_goOn_96 hl (k := 0) rfl (by decide) rfl (fun ls hl => ?_)
                refine lv_goto (tgt := 3) hx hb dX5_goOn_99 (by decide) ?_
                exact ih3 (k + 1) s9 _ _ _ (by omega) (by first | exact GoI_skip (by omega) i1 | exact GoI_no (by omega) (by omega) (by omega) (by omega) i1 | exact GoI_go vp1 hE ha hsa (by omega) (by omega) (Or.inl ⟨c_31, rfl⟩) (hch.sub (k := k + 1) (r := r) (by omega) (Or.inl (Int.le_refl r)) _ _ _ ⟨k, by omega, by omega, by omega, rfl, Or.inl ⟨c_31, rfl⟩⟩) (hch.sub (by omega) (Or.inl (Int.le_refl r))) i1 | exact GoI_go vp1 hE ha hsa (by omega) (by omega) (Or.inr ⟨rfl, c_73⟩) (hch.sub (k := k + 1) (r := r) (by omega) (Or.inl (Int.le_refl r)) _ _ _ ⟨k, by omega, by omega, by omega, rfl, Or.inr ⟨rfl, c_73⟩⟩) (hch.sub (by omega) (Or.inl (Int.le_refl r))) i1 | (exfalso; omega)) (by omega) hP hD hS (lv_sub hl [0, 1, 2, 3, 4] rfl)
              · refine lv_aload_n hx hb dX5_goOn_76 rfl (lv_at hl 1 rfl) ?_
                refine lv_iload_n hx hb dX5_goOn_77 rfl (lv_at hl 3 rfl) ?_
                refine lv_aload_n hx hb dX5_goOn_78 rfl (lv_at hl 2 rfl) ?_
                refine va_get (D := D) (ci := 4) (v := .ref b1) (C := RX1) (T := TX1) (N := 7) hx hb hts iX1 hown hK hP 4 rfl rfl 2 (by decide) f_43 (fun _ h9 => h9) rfl dX5_goOn_79 ?_
                refine lv_iload hx hb dX5_goOn_82 (lv_at hl 0 rfl) ?_
                refine zz_iald hx hb hK hP 5 rfl (by decide) (by omega) dX5_goOn_84 ?_
                have r_84 := hch.2.2.2.2.1 k (by omega) (by omega)
                refine lv_aload_n hx hb dX5_goOn_85 rfl (lv_at hl 2 rfl) ?_
                refine va_get (D := D) (ci := 4) (v := .ref b3) (C := RX1) (T := TX1) (N := 7) hx hb hts iX1 hown hK hP 4 rfl rfl 4 (by decide) f_49 (fun _ h9 => h9) rfl dX5_goOn_86 ?_
                refine lv_iload hx hb dX5_goOn_89 (lv_at hl 0 rfl) ?_
                refine zz_iald hx hb hK hP 7 rfl (by decide) (by omega) dX5_goOn_91 ?_
                have r_91 := hch.2.2.2.2.1 k (by omega) (by omega)
                have v3 := GoI_val hE i1 hs (show 0 ≤ a ∧ a < 10 by omega) (x := a) (by omega) (by omega)
                have v4 := GoI_val hE i1 hs (show 0 ≤ a ∧ a < 10 by omega) (x := lower k) (by omega) (by omega)
                refine zz_callVi (As := [.int (iI a), .int (iI (lower k)), .int (iI (leng k))]) (rest := []) (wf := fun u => bRoutes tA a0 a1 a2 a3 (rlx s9 a (lower k) (leng k)) grp seen ++ bChart tA b0 b1 b2 b3 b4 b5 ports legs lower upper leng reach meter) ⟨hx, hb, hml, hown, hts⟩ (c_X5_shorten l D tA a0 a1 a2 a3 H.size s9 grp seen a (lower k) (leng k) (by first | assumption | omega) (by first | assumption | omega) (by first | assumption | omega) (by first | assumption | omega) (by first | assumption | omega) (by first | assumption | omega) (by first | assumption | omega) (by first | assumption | omega)) (cwV 3 hts gX5_goOn_X5_shorten rfl rfl rfl (by decide +kernel) ⟨Nat.le_of_ble_eq_true rfl, Nat.le_of_ble_eq_true rfl⟩) hK hP hD hS hA [0, 1, 2, 3] [4, 5, 6, 7, 8, 9] [6, 7, 8, 9, 0, 1, 2, 3, 4, 5] rfl rfl (by decide) (by decide) (by decide) (by decide) (fun _ => rfl) (ci := 7) (q0 := 0) rfl rfl rfl rfl rfl hl.1 (Nat.le_of_ble_eq_true rfl) dX5_goOn_92 ⟨Nat.le_of_ble_eq_true rfl, Nat.le_of_ble_eq_true rfl⟩ ?_
                intro z92_3 u H locs p92_4 hP hD hS
                have hP : va_P D vwCl (bRoutes tA a0 a1 a2 a3 (rlx s9 a (lower k) (leng k)) grp seen ++ bChart tA b0 b1 b2 b3 b4 b5 ports legs lower upper leng reach meter) H := hP
                have hD : va_D A (bRoutes tA a0 a1 a2 a3 (rlx s9 a (lower k) (leng k)) grp seen ++ bChart tA b0 b1 b2 b3 b4 b5 ports legs lower upper leng reach meter) := hD
                have q0_92 : z92_3 = 0 ∨ z92_3 = 1 := p92_4.1
                have q1_92 : z92_3 = 0 → rlx s9 a (lower k) (leng k) = s9 := p92_4.2
                refine lv_pop hx hb dX5_goOn_95 rfl ?_
                refine zz_iinc (lv' := [(4, .int (iI (k + 1))), (0, .ref a0), (1, .ref b0), (2, .int (iI a)), (3, .int (iI r))]) hx hb dX5_goOn_96 hl (k := 0) rfl (by decide) rfl (fun ls hl => ?_)
                refine lv_goto (tgt := 3) hx hb dX5_goOn_99 (by decide) ?_
                exact ih3 (k + 1) (rlx s9 a (lower k) (leng k)) _ _ _ (by omega) (by first | exact GoI_skip (by omega) i1 | exact GoI_no (by omega) (by omega) (by omega) (by omega) i1 | exact GoI_go vp1 hE ha hsa (by omega) (by omega) (Or.inl ⟨c_31, rfl⟩) (hch.sub (k := k + 1) (r := r) (by omega) (Or.inl (Int.le_refl r)) _ _ _ ⟨k, by omega, by omega, by omega, rfl, Or.inl ⟨c_31, rfl⟩⟩) (hch.sub (by omega) (Or.inl (Int.le_refl r))) i1 | exact GoI_go vp1 hE ha hsa (by omega) (by omega) (Or.inr ⟨rfl, c_73⟩) (hch.sub (k := k + 1) (r := r) (by omega) (Or.inl (Int.le_refl r)) _ _ _ ⟨k, by omega, by omega, by omega, rfl, Or.inr ⟨rfl, c_73⟩⟩) (hch.sub (by omega) (Or.inl (Int.le_refl r))) i1 | (exfalso; omega)) (by omega) hP hD hS (lv_sub hl [0, 1, 2, 3, 4] rfl)
          · refine lv_aload_n hx hb dX5_goOn_34 rfl (lv_at hl 1 rfl) ?_
            refine lv_iload_n hx hb dX5_goOn_35 rfl (lv_at hl 3 rfl) ?_
            refine lv_aload_n hx hb dX5_goOn_36 rfl (lv_at hl 2 rfl) ?_
            refine va_get (D := D) (ci := 4) (v := .ref b2) (C := RX1) (T := TX1) (N := 7) hx hb hts iX1 hown hK hP 4 rfl rfl 3 (by decide) f_46 (fun _ h9 => h9) rfl dX5_goOn_37 ?_
            refine lv_iload hx hb dX5_goOn_40 (lv_at hl 0 rfl) ?_
            refine zz_iald hx hb hK hP 6 rfl (by decide) (by omega) dX5_goOn_42 ?_
            have r_42 := hch.2.2.2.2.1 k (by omega) (by omega)
            refine lv_aload_n hx hb dX5_goOn_43 rfl (lv_at hl 2 rfl) ?_
            refine va_get (D := D) (ci := 4) (v := .ref b3) (C := RX1) (T := TX1) (N := 7) hx hb hts iX1 hown hK hP 4 rfl rfl 4 (by decide) f_49 (fun _ h9 => h9) rfl dX5_goOn_44 ?_
            refine lv_iload hx hb dX5_goOn_47 (lv_at hl 0 rfl) ?_
            refine zz_iald hx hb hK hP 7 rfl (by decide) (by omega) dX5_goOn_49 ?_
            have r_49 := hch.2.2.2.2.1 k (by omega) (by omega)
            have v1 := GoI_val hE i1 hs (show 0 ≤ a ∧ a < 10 by omega) (x := a) (by omega) (by omega)
            have v2 := GoI_val hE i1 hs (show 0 ≤ a ∧ a < 10 by omega) (x := upper k) (by omega) (by omega)
            refine zz_callVi (As := [.int (iI a), .int (iI (upper k)), .int (iI (leng k))]) (rest := []) (wf := fun u => bRoutes tA a0 a1 a2 a3 (rlx s9 a (upper k) (leng k)) grp seen ++ bChart tA b0 b1 b2 b3 b4 b5 ports legs lower upper leng reach meter) ⟨hx, hb, hml, hown, hts⟩ (c_X5_shorten l D tA a0 a1 a2 a3 H.size s9 grp seen a (upper k) (leng k) (by first | assumption | omega) (by first | assumption | omega) (by first | assumption | omega) (by first | assumption | omega) (by first | assumption | omega) (by first | assumption | omega) (by first | assumption | omega) (by first | assumption | omega)) (cwV 3 hts gX5_goOn_X5_shorten rfl rfl rfl (by decide +kernel) ⟨Nat.le_of_ble_eq_true rfl, Nat.le_of_ble_eq_true rfl⟩) hK hP hD hS hA [0, 1, 2, 3] [4, 5, 6, 7, 8, 9] [6, 7, 8, 9, 0, 1, 2, 3, 4, 5] rfl rfl (by decide) (by decide) (by decide) (by decide) (fun _ => rfl) (ci := 7) (q0 := 0) rfl rfl rfl rfl rfl hl.1 (Nat.le_of_ble_eq_true rfl) dX5_goOn_50 ⟨Nat.le_of_ble_eq_true rfl, Nat.le_of_ble_eq_true rfl⟩ ?_
            intro z50_5 u H locs p50_6 hP hD hS
            have hP : va_P D vwCl (bRoutes tA a0 a1 a2 a3 (rlx s9 a (upper k) (leng k)) grp seen ++ bChart tA b0 b1 b2 b3 b4 b5 ports legs lower upper leng reach meter) H := hP
            have hD : va_D A (bRoutes tA a0 a1 a2 a3 (rlx s9 a (upper k) (leng k)) grp seen ++ bChart tA b0 b1 b2 b3 b4 b5 ports legs lower upper leng reach meter) := hD
            have q0_50 : z50_5 = 0 ∨ z50_5 = 1 := p50_6.1
            have q1_50 : z50_5 = 0 → rlx s9 a (upper k) (leng k) = s9 := p50_6.2
            refine lv_pop hx hb dX5_goOn_53 rfl ?_
            refine lv_aload_n hx hb dX5_goOn_54 rfl (lv_at hl 2 rfl) ?_
            refine va_get (D := D) (ci := 4) (v := .ref b4) (C := RX1) (T := TX1) (N := 7) hx hb hts iX1 hown hK hP 4 rfl rfl 5 (by decide) f_63 (fun _ h9 => h9) rfl dX5_goOn_55 ?_
            refine lv_iload hx hb dX5_goOn_58 (lv_at hl 0 rfl) ?_
            refine zz_iald hx hb hK hP 8 rfl (by decide) (by omega) dX5_goOn_60 ?_
            have r_60 := hch.2.2.2.2.1 k (by omega) (by omega)
            refine lv_iload_n hx hb dX5_goOn_61 rfl (lv_at hl 4 rfl) ?_
            refine zz_icmp_gt (tgt := 96) hx hb dX5_goOn_62 (by decide) (by omega) (by omega) (fun c_62 => ?_) (fun c_62 => ?_)
            · refine zz_iinc (lv' := [(4, .int (iI (k + 1))), (0, .ref a0), (1, .ref b0), (2, .int (iI a)), (3, .int (iI r))]) hx hb dX5_goOn_96 hl (k := 0) rfl (by decide) rfl (fun ls hl => ?_)
              refine lv_goto (tgt := 3) hx hb dX5_goOn_99 (by decide) ?_
              exact ih3 (k + 1) (rlx s9 a (upper k) (leng k)) _ _ _ (by omega) (by first | exact GoI_skip (by omega) i1 | exact GoI_no (by omega) (by omega) (by omega) (by omega) i1 | exact GoI_go vp1 hE ha hsa (by omega) (by omega) (Or.inl ⟨c_31, rfl⟩) (hch.sub (k := k + 1) (r := r) (by omega) (Or.inl (Int.le_refl r)) _ _ _ ⟨k, by omega, by omega, by omega, rfl, Or.inl ⟨c_31, rfl⟩⟩) (hch.sub (by omega) (Or.inl (Int.le_refl r))) i1 | exact GoI_go vp1 hE ha hsa (by omega) (by omega) (Or.inr ⟨rfl, c_73⟩) (hch.sub (k := k + 1) (r := r) (by omega) (Or.inl (Int.le_refl r)) _ _ _ ⟨k, by omega, by omega, by omega, rfl, Or.inr ⟨rfl, c_73⟩⟩) (hch.sub (by omega) (Or.inl (Int.le_refl r))) i1 | (exfalso; omega)) (by omega) hP hD hS (lv_sub hl [0, 1, 2, 3, 4] rfl)
            · refine lv_aload_n hx hb dX5_goOn_65 rfl (lv_at hl 2 rfl) ?_
              refine va_get (D := D) (ci := 4) (v := .ref b2) (C := RX1) (T := TX1) (N := 7) hx hb hts iX1 hown hK hP 4 rfl rfl 3 (by decide) f_46 (fun _ h9 => h9) rfl dX5_goOn_66 ?_
              refine lv_iload hx hb dX5_goOn_69 (lv_at hl 0 rfl) ?_
              refine zz_iald hx hb hK hP 6 rfl (by decide) (by omega) dX5_goOn_71 ?_
              have r_71 := hch.2.2.2.2.1 k (by omega) (by omega)
              refine lv_iload_n hx hb dX5_goOn_72 rfl (lv_at hl 3 rfl) ?_
              refine zz_icmp_ne (tgt := 96) hx hb dX5_goOn_73 (by decide) (by omega) (by omega) (fun c_73 => ?_) (fun c_73 => ?_)
              · refine zz_iinc (lv' := [(4, .int (iI (k + 1))), (0, .ref a0), (1, .ref b0), (2, .int (iI a)), (3, .int (iI r))]) hx hb dX5_goOn_96 hl (k := 0) rfl (by decide) rfl (fun ls hl => ?_)
                refine lv_goto (tgt := 3) hx hb dX5_goOn_99 (by decide) ?_
                exact ih3 (k + 1) (rlx s9 a (upper k) (leng k)) _ _ _ (by omega) (by first | exact GoI_skip (by omega) i1 | exact GoI_no (by omega) (by omega) (by omega) (by omega) i1 | exact GoI_go vp1 hE ha hsa (by omega) (by omega) (Or.inl ⟨c_31, rfl⟩) (hch.sub (k := k + 1) (r := r) (by omega) (Or.inl (Int.le_refl r)) _ _ _ ⟨k, by omega, by omega, by omega, rfl, Or.inl ⟨c_31, rfl⟩⟩) (hch.sub (by omega) (Or.inl (Int.le_refl r))) i1 | exact GoI_go vp1 hE ha hsa (by omega) (by omega) (Or.inr ⟨rfl, c_73⟩) (hch.sub (k := k + 1) (r := r) (by omega) (Or.inl (Int.le_refl r)) _ _ _ ⟨k, by omega, by omega, by omega, rfl, Or.inr ⟨rfl, c_73⟩⟩) (hch.sub (by omega) (Or.inl (Int.le_refl r))) i1 | (exfalso; omega)) (by omega) hP hD hS (lv_sub hl [0, 1, 2, 3, 4] rfl)
              · refine lv_aload_n hx hb dX5_goOn_76 rfl (lv_at hl 1 rfl) ?_
                refine lv_iload_n hx hb dX5_goOn_77 rfl (lv_at hl 3 rfl) ?_
                refine lv_aload_n hx hb dX5_goOn_78 rfl (lv_at hl 2 rfl) ?_
                refine va_get (D := D) (ci := 4) (v := .ref b1) (C := RX1) (T := TX1) (N := 7) hx hb hts iX1 hown hK hP 4 rfl rfl 2 (by decide) f_43 (fun _ h9 => h9) rfl dX5_goOn_79 ?_
                refine lv_iload hx hb dX5_goOn_82 (lv_at hl 0 rfl) ?_
                refine zz_iald hx hb hK hP 5 rfl (by decide) (by omega) dX5_goOn_84 ?_
                have r_84 := hch.2.2.2.2.1 k (by omega) (by omega)
                refine lv_aload_n hx hb dX5_goOn_85 rfl (lv_at hl 2 rfl) ?_
                refine va_get (D := D) (ci := 4) (v := .ref b3) (C := RX1) (T := TX1) (N := 7) hx hb hts iX1 hown hK hP 4 rfl rfl 4 (by decide) f_49 (fun _ h9 => h9) rfl dX5_goOn_86 ?_
                refine lv_iload hx hb dX5_goOn_89 (lv_at hl 0 rfl) ?_
                refine zz_iald hx hb hK hP 7 rfl (by decide) (by omega) dX5_goOn_91 ?_
                have r_91 := hch.2.2.2.2.1 k (by omega) (by omega)
                have v3 := GoI_val hE i1 hs (show 0 ≤ a ∧ a < 10 by omega) (x := a) (by omega) (by omega)
                have v4 := GoI_val hE i1 hs (show 0 ≤ a ∧ a < 10 by omega) (x := lower k) (by omega) (by omega)
                refine zz_callVi (As := [.int (iI a), .int (iI (lower k)), .int (iI (leng k))]) (rest := []) (wf := fun u => bRoutes tA a0 a1 a2 a3 (rlx (rlx s9 a (upper k) (leng k)) a (lower k) (leng k)) grp seen ++ bChart tA b0 b1 b2 b3 b4 b5 ports legs lower upper leng reach meter) ⟨hx, hb, hml, hown, hts⟩ (c_X5_shorten l D tA a0 a1 a2 a3 H.size (rlx s9 a (upper k) (leng k)) grp seen a (lower k) (leng k) (by first | assumption | omega) (by first | assumption | omega) (by first | assumption | omega) (by first | assumption | omega) (by first | assumption | omega) (by first | assumption | omega) (by first | assumption | omega) (by first | assumption | omega)) (cwV 3 hts gX5_goOn_X5_shorten rfl rfl rfl (by decide +kernel) ⟨Nat.le_of_ble_eq_true rfl, Nat.le_of_ble_eq_true rfl⟩) hK hP hD hS hA [0, 1, 2, 3] [4, 5, 6, 7, 8, 9] [6, 7, 8, 9, 0, 1, 2, 3, 4, 5] rfl rfl (by decide) (by decide) (by decide) (by decide) (fun _ => rfl) (ci := 7) (q0 := 0) rfl rfl rfl rfl rfl hl.1 (Nat.le_of_ble_eq_true rfl) dX5_goOn_92 ⟨Nat.le_of_ble_eq_true rfl, Nat.le_of_ble_eq_true rfl⟩ ?_
                intro z92_7 u H locs p92_8 hP hD hS
                have hP : va_P D vwCl (bRoutes tA a0 a1 a2 a3 (rlx (rlx s9 a (upper k) (leng k)) a (lower k) (leng k)) grp seen ++ bChart tA b0 b1 b2 b3 b4 b5 ports legs lower upper leng reach meter) H := hP
                have hD : va_D A (bRoutes tA a0 a1 a2 a3 (rlx (rlx s9 a (upper k) (leng k)) a (lower k) (leng k)) grp seen ++ bChart tA b0 b1 b2 b3 b4 b5 ports legs lower upper leng reach meter) := hD
                have q0_92 : z92_7 = 0 ∨ z92_7 = 1 := p92_8.1
                have q1_92 : z92_7 = 0 → rlx (rlx s9 a (upper k) (leng k)) a (lower k) (leng k) = (rlx s9 a (upper k) (leng k)) := p92_8.2
                refine lv_pop hx hb dX5_goOn_95 rfl ?_
                refine zz_iinc (lv' := [(4, .int (iI (k + 1))), (0, .ref a0), (1, .ref b0), (2, .int (iI a)), (3, .int (iI r))]) hx hb dX5_goOn_96 hl (k := 0) rfl (by decide) rfl (fun ls hl => ?_)
                refine lv_goto (tgt := 3) hx hb dX5_goOn_99 (by decide) ?_
                exact ih3 (k + 1) (rlx (rlx s9 a (upper k) (leng k)) a (lower k) (leng k)) _ _ _ (by omega) (by first | exact GoI_skip (by omega) i1 | exact GoI_no (by omega) (by omega) (by omega) (by omega) i1 | exact GoI_go vp1 hE ha hsa (by omega) (by omega) (Or.inl ⟨c_31, rfl⟩) (hch.sub (k := k + 1) (r := r) (by omega) (Or.inl (Int.le_refl r)) _ _ _ ⟨k, by omega, by omega, by omega, rfl, Or.inl ⟨c_31, rfl⟩⟩) (hch.sub (by omega) (Or.inl (Int.le_refl r))) i1 | exact GoI_go vp1 hE ha hsa (by omega) (by omega) (Or.inr ⟨rfl, c_73⟩) (hch.sub (k := k + 1) (r := r) (by omega) (Or.inl (Int.le_refl r)) _ _ _ ⟨k, by omega, by omega, by omega, rfl, Or.inr ⟨rfl, c_73⟩⟩) (hch.sub (by omega) (Or.inl (Int.le_refl r))) i1 | (exfalso; omega)) (by omega) hP hD hS (lv_sub hl [0, 1, 2, 3, 4] rfl)
  exact L3 _ 0 shrt _ _ _ (by omega) (by exact GoI_0) (Nat.lt_succ_self _) hP hD hS (lv_sub hl [0, 1, 2, 3, 4] rfl)

set_option maxHeartbeats 4000000 in
set_option maxRecDepth 100000 in
theorem c_X5_lengthByNearest (l : Launch) (D : va_G) (tA : Nat → ClassId) (a0 a1 a2 a3 b0 b1 b2 b3 b4 b5 : Nat) (sz : Nat) (shrt : Int → Int) (grp : Int → Int) (seen : Int → Int) (ports : Int) (legs : Int) (lower : Int → Int) (upper : Int → Int) (leng : Int → Int) (reach : Int → Int) (meter : Int → Int) (src : Int) (dst : Int) (r : Int) (r_src : -2147483648 ≤ src ∧ src ≤ 2147483647) (r_dst : -2147483648 ≤ dst ∧ dst ≤ 2147483647) (r_r : -2147483648 ≤ r ∧ r ≤ 2147483647) (hch : ChV ports legs lower upper leng reach) (hsrc : 0 ≤ src ∧ src < ports) (hdst : 0 ≤ dst ∧ dst < ports) : zMi l yX5_lengthByNearest wsX5_lengthByNearest ({ frames := 2, cells := 0, slots := 0, locals := 48 }) D tA [.ref a0, .ref b0, .int (iI src), .int (iI dst), .int (iI r)] (bRoutes tA a0 a1 a2 a3 shrt grp seen ++ bChart tA b0 b1 b2 b3 b4 b5 ports legs lower upper leng reach meter) sz (fun (z : Int) (u : (Int → Int) × (Int → Int)) => (distP (eg legs lower upper leng reach r) src dst z)) (fun (u : (Int → Int) × (Int → Int)) => bRoutes tA a0 a1 a2 a3 u.1 grp u.2 ++ bChart tA b0 b1 b2 b3 b4 b5 ports legs lower upper leng reach meter) 0 0 := by
  refine zMi_of (cc := cX5_lengthByNearest) (maxL := 7) (by decide) rfl (fun z u h => rfl) (Nat.le_of_ble_eq_true rfl) ?_
  intro p e s m args below meth c A Q ls hx hb hml hts hown hK hP hD hA hret hl
  obtain ⟨H, hHe⟩ : ∃ H : Heap, H = s.heap := ⟨_, rfl⟩
  have hS : va_S A s.heap H [] := by rw [hHe]; exact va_S.rf
  rw [← hHe] at hP ⊢
  have hl : lv_has ls 7 [(0, .ref a0), (1, .ref b0), (2, .int (iI src)), (3, .int (iI dst)), (4, .int (iI r))] := hl
  have iX1 : ∀ v ∈ wsX10, v ∈ wsX5_lengthByNearest := by decide +kernel
  have iX5 : ∀ v ∈ wsX50, v ∈ wsX5_lengthByNearest := by decide +kernel
  have f_9 := hts (.fieldLink RX5 9 "HarborLights$Routes" "shortest" "[I") (by decide +kernel)
  have f_18 := hts (.fieldLink RX5 18 "HarborLights$Routes" "seen" "[Z") (by decide +kernel)
  have f_26 := hts (.fieldLink RX5 26 "HarborLights$Chart" "ports" "I") (by decide +kernel)
  obtain ⟨vp0, vp1, vl0, vl1, -, -⟩ := id hch
  have hE := hch.egOk r
  refine lv_aload_n hx hb dX5_lengthByNearest_0 rfl (lv_at hl 0 rfl) ?_
  refine lv_iload_n hx hb dX5_lengthByNearest_1 rfl (lv_at hl 2 rfl) ?_
  refine zz_callVv (As := [.int (iI src)]) (rest := []) (wf := fun u => bRoutes tA a0 a1 a2 a3 u.1 grp u.2 ++ bChart tA b0 b1 b2 b3 b4 b5 ports legs lower upper leng reach meter) ⟨hx, hb, hml, hown, hts⟩ (c_X5_beginAt l D tA a0 a1 a2 a3 H.size shrt grp seen src (by first | assumption | omega) (by first | assumption | omega)) (cwV 1 hts gX5_lengthByNearest_X5_beginAt rfl rfl rfl (by decide +kernel) ⟨Nat.le_of_ble_eq_true rfl, Nat.le_of_ble_eq_true rfl⟩) hK hP hD hS hA [0, 1, 2, 3] [4, 5, 6, 7, 8, 9] [6, 7, 8, 9, 0, 1, 2, 3, 4, 5] rfl rfl (by decide) (by decide) (by decide) (by decide) (fun _ => rfl) (ci := 7) (q0 := 0) rfl rfl rfl rfl rfl hl.1 (Nat.le_of_ble_eq_true rfl) dX5_lengthByNearest_2 ⟨Nat.le_of_ble_eq_true rfl, Nat.le_of_ble_eq_true rfl⟩ ?_
  intro u H locs p2_3 hP hD hS
  obtain ⟨shrt_1, seen_2⟩ := u
  have hP : va_P D vwCl (bRoutes tA a0 a1 a2 a3 shrt_1 grp seen_2 ++ bChart tA b0 b1 b2 b3 b4 b5 ports legs lower upper leng reach meter) H := hP
  have hD : va_D A (bRoutes tA a0 a1 a2 a3 shrt_1 grp seen_2 ++ bChart tA b0 b1 b2 b3 b4 b5 ports legs lower upper leng reach meter) := hD
  have q1_2 : ∀ x, 0 ≤ x → x < 10 → shrt_1 x = if x = src then 0 else -1 := p2_3.1
  have q2_2 : ∀ x, 0 ≤ x → x < 10 → seen_2 x = 0 := p2_3.2
  refine zz_iconst hx hb dX5_lengthByNearest_5 ?_
  refine lv_istore (lv' := [(5, .int (iI 0)), (0, .ref a0), (1, .ref b0), (2, .int (iI src)), (3, .int (iI dst)), (4, .int (iI r))]) hx hb dX5_lengthByNearest_6 hl (by decide) rfl (fun ls hl => ?_)
  have L8 : ∀ (n : Nat) (rd : Int) (s9 : Int → Int) (n9 : Int → Int) (H : Heap) (locs : List Loc) (ls : Array Slot), (0 ≤ rd ∧ rd ≤ ports) → (DjI (eg legs lower upper leng reach r) src ports s9 n9 rd) → (ports - rd).toNat < n → va_P D vwCl (bRoutes tA a0 a1 a2 a3 s9 grp n9 ++ bChart tA b0 b1 b2 b3 b4 b5 ports legs lower upper leng reach meter) H → va_D A (bRoutes tA a0 a1 a2 a3 s9 grp n9 ++ bChart tA b0 b1 b2 b3 b4 b5 ports legs lower upper leng reach meter) → va_S A s.heap H locs → lv_has ls 7 [(5, .int (iI rd)), (0, .ref a0), (1, .ref b0), (2, .int (iI src)), (3, .int (iI dst)), (4, .int (iI r))] → W p l e (headSpec wsX5_lengthByNearest ({ frames := 2, cells := 0, slots := 0, locals := 48 })).room s m args below meth c H locs 0 0 Q (F0 m 8 ls []) := by
    intro n
    induction n with
    | zero => intro rd s9 n9 H locs ls i0 i1 hmz; exact absurd hmz (Nat.not_lt_zero _)
    | succ n ih8 =>
      intro rd s9 n9 H locs ls i0 i1 hmz hP hD hS hl
      have hR := DjI_rng (by omega) i1
      refine lv_iload hx hb dX5_lengthByNearest_8 (lv_at hl 0 rfl) ?_
      refine lv_aload_n hx hb dX5_lengthByNearest_10 rfl (lv_at hl 2 rfl) ?_
      refine va_get (D := D) (ci := 4) (v := .int (iI ports)) (C := RX1) (T := TX1) (N := 7) hx hb hts iX1 hown hK hP 4 rfl rfl 0 (by decide) f_26 (fun _ h9 => h9) rfl dX5_lengthByNearest_11 ?_
      refine zz_icmp_ge (tgt := 69) hx hb dX5_lengthByNearest_14 (by decide) (by omega) (by omega) (fun c_14 => ?_) (fun c_14 => ?_)
      · refine lv_aload_n hx hb dX5_lengthByNearest_69 rfl (lv_at hl 1 rfl) ?_
        refine va_get (D := D) (ci := 7) (v := .ref a1) (C := RX5) (T := TX5) (N := 3) hx hb hts iX5 hown hK hP 0 rfl rfl 0 (by decide) f_9 (fun _ h9 => h9) rfl dX5_lengthByNearest_70 ?_
        refine lv_iload_n hx hb dX5_lengthByNearest_73 rfl (lv_at hl 4 rfl) ?_
        refine zz_iald hx hb hK hP 1 rfl (by decide) (by omega) dX5_lengthByNearest_74 ?_
        have r_74 := hR dst (by omega) (by omega)
        exact hret (s9 dst) (s9, n9) _ _ _ _ dX5_lengthByNearest_75 (show distP (eg legs lower upper leng reach r) src dst (s9 dst) from by exact DjI_full vp1 hsrc hdst hE i1 (by omega)) hP hD hS
      · refine lv_aload_n hx hb dX5_lengthByNearest_17 rfl (lv_at hl 1 rfl) ?_
        refine lv_aload_n hx hb dX5_lengthByNearest_18 rfl (lv_at hl 2 rfl) ?_
        refine va_get (D := D) (ci := 4) (v := .int (iI ports)) (C := RX1) (T := TX1) (N := 7) hx hb hts iX1 hown hK hP 4 rfl rfl 0 (by decide) f_26 (fun _ h9 => h9) rfl dX5_lengthByNearest_19 ?_
        refine zz_callVi (As := [.int (iI ports)]) (rest := []) (wf := fun u => bRoutes tA a0 a1 a2 a3 s9 grp n9 ++ bChart tA b0 b1 b2 b3 b4 b5 ports legs lower upper leng reach meter) ⟨hx, hb, hml, hown, hts⟩ (c_X5_nearestUnseen l D tA a0 a1 a2 a3 H.size s9 grp n9 ports (by first | assumption | omega) (by first | assumption | omega) hR i1.2.2.1) (cwV 1 hts gX5_lengthByNearest_X5_nearestUnseen rfl rfl rfl (by decide +kernel) ⟨Nat.le_of_ble_eq_true rfl, Nat.le_of_ble_eq_true rfl⟩) hK hP hD hS hA [0, 1, 2, 3] [4, 5, 6, 7, 8, 9] [6, 7, 8, 9, 0, 1, 2, 3, 4, 5] rfl rfl (by decide) (by decide) (by decide) (by decide) (fun _ => rfl) (ci := 7) (q0 := 0) rfl rfl rfl rfl rfl hl.1 (Nat.le_of_ble_eq_true rfl) dX5_lengthByNearest_22 ⟨Nat.le_of_ble_eq_true rfl, Nat.le_of_ble_eq_true rfl⟩ ?_
        intro z22_4 u H locs p22_5 hP hD hS
        have hP : va_P D vwCl (bRoutes tA a0 a1 a2 a3 s9 grp n9 ++ bChart tA b0 b1 b2 b3 b4 b5 ports legs lower upper leng reach meter) H := hP
        have hD : va_D A (bRoutes tA a0 a1 a2 a3 s9 grp n9 ++ bChart tA b0 b1 b2 b3 b4 b5 ports legs lower upper leng reach meter) := hD
        have q_22 : NuI n9 s9 ports z22_4 := p22_5
        have hz := q_22.1
        refine lv_istore (lv' := [(6, .int (iI z22_4)), (5, .int (iI rd)), (0, .ref a0), (1, .ref b0), (2, .int (iI src)), (3, .int (iI dst)), (4, .int (iI r))]) hx hb dX5_lengthByNearest_25 hl (by decide) rfl (fun ls hl => ?_)
        refine lv_iload hx hb dX5_lengthByNearest_27 (lv_at hl 0 rfl) ?_
        refine zz_iconst hx hb dX5_lengthByNearest_29 ?_
        refine zz_icmp_eq (tgt := 39) hx hb dX5_lengthByNearest_30 (by decide) (by omega) (by decide) (fun c_30 => ?_) (fun c_30 => ?_)
        · refine lv_aload_n hx hb dX5_lengthByNearest_39 rfl (lv_at hl 2 rfl) ?_
          refine va_get (D := D) (ci := 7) (v := .ref a1) (C := RX5) (T := TX5) (N := 3) hx hb hts iX5 hown hK hP 0 rfl rfl 0 (by decide) f_9 (fun _ h9 => h9) rfl dX5_lengthByNearest_40 ?_
          refine lv_iload_n hx hb dX5_lengthByNearest_43 rfl (lv_at hl 5 rfl) ?_
          refine zz_iald hx hb hK hP 1 rfl (by decide) (by omega) dX5_lengthByNearest_44 ?_
          have r_44 := hR dst (by omega) (by omega)
          exact hret (s9 dst) (s9, n9) _ _ _ _ dX5_lengthByNearest_45 (show distP (eg legs lower upper leng reach r) src dst (s9 dst) from by first | exact DjI_none vp1 hsrc hdst hE i1 (q_22.2.1 c_30) | exact (by have hnu := q_22.2.2 c_30; rw [c_36] at hnu; exact DjI_at vp1 hsrc hdst hE i1 hnu.1 hnu.2.1 hnu.2.2)) hP hD hS
        · refine lv_iload hx hb dX5_lengthByNearest_33 (lv_at hl 0 rfl) ?_
          refine lv_iload_n hx hb dX5_lengthByNearest_35 rfl (lv_at hl 5 rfl) ?_
          refine zz_icmp_ne (tgt := 46) hx hb dX5_lengthByNearest_36 (by decide) (by omega) (by omega) (fun c_36 => ?_) (fun c_36 => ?_)
          · have hnu := q_22.2.2 c_30
            have hlb := i1.2.1 _ (show 0 ≤ z22_4 by omega) (by omega)
            refine lv_aload_n hx hb dX5_lengthByNearest_46 rfl (lv_at hl 2 rfl) ?_
            refine va_get (D := D) (ci := 7) (v := .ref a3) (C := RX5) (T := TX5) (N := 3) hx hb hts iX5 hown hK hP 0 rfl rfl 2 (by decide) f_18 (fun _ h9 => h9) rfl dX5_lengthByNearest_47 ?_
            refine lv_iload hx hb dX5_lengthByNearest_50 (lv_at hl 0 rfl) ?_
            refine zz_iconst hx hb dX5_lengthByNearest_52 ?_
            refine zz_zast hx hb hK hP hD hS 3 rfl (by decide) (by omega) (by omega) dX5_lengthByNearest_53 (fun H locs hP hD hS => ?_)
            have hP : va_P D vwCl (bRoutes tA a0 a1 a2 a3 s9 grp (zU n9 z22_4 1) ++ bChart tA b0 b1 b2 b3 b4 b5 ports legs lower upper leng reach meter) H := hP
            have hD : va_D A (bRoutes tA a0 a1 a2 a3 s9 grp (zU n9 z22_4 1) ++ bChart tA b0 b1 b2 b3 b4 b5 ports legs lower upper leng reach meter) := hD
            refine lv_aload_n hx hb dX5_lengthByNearest_54 rfl (lv_at hl 2 rfl) ?_
            refine lv_aload_n hx hb dX5_lengthByNearest_55 rfl (lv_at hl 3 rfl) ?_
            refine lv_iload hx hb dX5_lengthByNearest_56 (lv_at hl 0 rfl) ?_
            refine lv_iload hx hb dX5_lengthByNearest_58 (lv_at hl 6 rfl) ?_
            refine zz_callVv (As := [.ref b0, .int (iI z22_4), .int (iI r)]) (rest := []) (wf := fun u => bRoutes tA a0 a1 a2 a3 u grp (zU n9 z22_4 1) ++ bChart tA b0 b1 b2 b3 b4 b5 ports legs lower upper leng reach meter) ⟨hx, hb, hml, hown, hts⟩ (c_X5_goOn l D tA a0 a1 a2 a3 b0 b1 b2 b3 b4 b5 H.size s9 grp (zU n9 z22_4 1) ports legs lower upper leng reach meter z22_4 r (by first | assumption | omega) (by first | assumption | omega) hch (by first | assumption | omega) (DjI_900 (by omega) i1) (by have := hlb; omega)) (cwV 3 hts gX5_lengthByNearest_X5_goOn rfl rfl rfl (by decide +kernel) ⟨Nat.le_of_ble_eq_true rfl, Nat.le_of_ble_eq_true rfl⟩) hK hP hD hS hA [0, 1, 2, 3, 4, 5, 6, 7, 8, 9] [] [0, 1, 2, 3, 4, 5, 6, 7, 8, 9] rfl rfl (by decide) (by decide) (by decide) (by decide) (fun _ => rfl) (ci := 7) (q0 := 0) rfl rfl rfl rfl rfl hl.1 (Nat.le_of_ble_eq_true rfl) dX5_lengthByNearest_60 ⟨Nat.le_of_ble_eq_true rfl, Nat.le_of_ble_eq_true rfl⟩ ?_
            intro u H locs p60_7 hP hD hS
            obtain ⟨shrt_6, rfl⟩ : ∃ q, q = u := ⟨_, rfl⟩
            have hP : va_P D vwCl (bRoutes tA a0 a1 a2 a3 shrt_6 grp (zU n9 z22_4 1) ++ bChart tA b0 b1 b2 b3 b4 b5 ports legs lower upper leng reach meter) H := hP
            have hD : va_D A (bRoutes tA a0 a1 a2 a3 shrt_6 grp (zU n9 z22_4 1) ++ bChart tA b0 b1 b2 b3 b4 b5 ports legs lower upper leng reach meter) := hD
            have q_60 : GoI (eg legs lower upper leng reach r) (eg legs lower upper leng reach r) z22_4 s9 shrt_6 := p60_7
            refine zz_iinc (lv' := [(5, .int (iI (rd + 1))), (6, .int (iI z22_4)), (0, .ref a0), (1, .ref b0), (2, .int (iI src)), (3, .int (iI dst)), (4, .int (iI r))]) hx hb dX5_lengthByNearest_63 hl (k := 1) rfl (by decide) rfl (fun ls hl => ?_)
            refine lv_goto (tgt := 8) hx hb dX5_lengthByNearest_66 (by decide) ?_
            exact ih8 (rd + 1) shrt_6 (zU n9 z22_4 1) _ _ _ (by omega) (by exact DjI_step vp1 hsrc hE i1 (by omega) hnu.1 hnu.2.1 hnu.2.2 q_60.1 q_60.2) (by omega) hP hD hS (lv_sub hl [0, 2, 3, 4, 5, 6] rfl)
          · refine lv_aload_n hx hb dX5_lengthByNearest_39 rfl (lv_at hl 2 rfl) ?_
            refine va_get (D := D) (ci := 7) (v := .ref a1) (C := RX5) (T := TX5) (N := 3) hx hb hts iX5 hown hK hP 0 rfl rfl 0 (by decide) f_9 (fun _ h9 => h9) rfl dX5_lengthByNearest_40 ?_
            refine lv_iload_n hx hb dX5_lengthByNearest_43 rfl (lv_at hl 5 rfl) ?_
            refine zz_iald hx hb hK hP 1 rfl (by decide) (by omega) dX5_lengthByNearest_44 ?_
            have r_44 := hR dst (by omega) (by omega)
            exact hret (s9 dst) (s9, n9) _ _ _ _ dX5_lengthByNearest_45 (show distP (eg legs lower upper leng reach r) src dst (s9 dst) from by first | exact DjI_none vp1 hsrc hdst hE i1 (q_22.2.1 c_30) | exact (by have hnu := q_22.2.2 c_30; rw [c_36] at hnu; exact DjI_at vp1 hsrc hdst hE i1 hnu.1 hnu.2.1 hnu.2.2)) hP hD hS
  exact L8 _ 0 shrt_1 seen_2 _ _ _ (by omega) (by exact DjI_init vp1 hsrc hE q1_2 q2_2) (Nat.lt_succ_self _) hP hD hS (lv_sub hl [0, 1, 2, 3, 4, 5] rfl)

set_option maxHeartbeats 4000000 in
set_option maxRecDepth 100000 in
theorem c_X5_lengthByRounds (l : Launch) (D : va_G) (tA : Nat → ClassId) (a0 a1 a2 a3 b0 b1 b2 b3 b4 b5 : Nat) (sz : Nat) (shrt : Int → Int) (grp : Int → Int) (seen : Int → Int) (ports : Int) (legs : Int) (lower : Int → Int) (upper : Int → Int) (leng : Int → Int) (reach : Int → Int) (meter : Int → Int) (Dv : Int → Int) (src : Int) (dst : Int) (r_src : -2147483648 ≤ src ∧ src ≤ 2147483647) (r_dst : -2147483648 ≤ dst ∧ dst ≤ 2147483647) (hch : ChV ports legs lower upper leng reach) (hsrc : 0 ≤ src ∧ src < ports) (hdst : 0 ≤ dst ∧ dst < ports) (hDv : isDv (eg legs lower upper leng reach 20) src Dv) : zMi l yX5_lengthByRounds wsX5_lengthByRounds ({ frames := 1, cells := 0, slots := 0, locals := 24 }) D tA [.ref a0, .ref b0, .int (iI src), .int (iI dst)] (bRoutes tA a0 a1 a2 a3 shrt grp seen ++ bChart tA b0 b1 b2 b3 b4 b5 ports legs lower upper leng reach meter) sz (fun (z : Int) (u : (Int → Int) × (Int → Int)) => (distP (eg legs lower upper leng reach 20) src dst z)) (fun (u : (Int → Int) × (Int → Int)) => bRoutes tA a0 a1 a2 a3 u.1 grp u.2 ++ bChart tA b0 b1 b2 b3 b4 b5 ports legs lower upper leng reach meter) 0 0 := by
  refine zMi_of (cc := cX5_lengthByRounds) (maxL := 9) (by decide) rfl (fun z u h => rfl) (Nat.le_of_ble_eq_true rfl) ?_
  intro p e s m args below meth c A Q ls hx hb hml hts hown hK hP hD hA hret hl
  obtain ⟨H, hHe⟩ : ∃ H : Heap, H = s.heap := ⟨_, rfl⟩
  have hS : va_S A s.heap H [] := by rw [hHe]; exact va_S.rf
  rw [← hHe] at hP ⊢
  have hl : lv_has ls 9 [(0, .ref a0), (1, .ref b0), (2, .int (iI src)), (3, .int (iI dst))] := hl
  have iX1 : ∀ v ∈ wsX10, v ∈ wsX5_lengthByRounds := by decide +kernel
  have iX5 : ∀ v ∈ wsX50, v ∈ wsX5_lengthByRounds := by decide +kernel
  have f_9 := hts (.fieldLink RX5 9 "HarborLights$Routes" "shortest" "[I") (by decide +kernel)
  have f_40 := hts (.fieldLink RX5 40 "HarborLights$Chart" "legs" "I") (by decide +kernel)
  have f_43 := hts (.fieldLink RX5 43 "HarborLights$Chart" "lower" "[I") (by decide +kernel)
  have f_46 := hts (.fieldLink RX5 46 "HarborLights$Chart" "upper" "[I") (by decide +kernel)
  have f_49 := hts (.fieldLink RX5 49 "HarborLights$Chart" "length" "[I") (by decide +kernel)
  obtain ⟨vp0, vp1, vl0, vl1, -, -⟩ := id hch
  have hE := hch.egOk 20
  refine lv_aload_n hx hb dX5_lengthByRounds_0 rfl (lv_at hl 0 rfl) ?_
  refine lv_iload_n hx hb dX5_lengthByRounds_1 rfl (lv_at hl 2 rfl) ?_
  refine zz_callVv (As := [.int (iI src)]) (rest := []) (wf := fun u => bRoutes tA a0 a1 a2 a3 u.1 grp u.2 ++ bChart tA b0 b1 b2 b3 b4 b5 ports legs lower upper leng reach meter) ⟨hx, hb, hml, hown, hts⟩ (c_X5_beginAt l D tA a0 a1 a2 a3 H.size shrt grp seen src (by first | assumption | omega) (by first | assumption | omega)) (cwV 1 hts gX5_lengthByRounds_X5_beginAt rfl rfl rfl (by decide +kernel) ⟨Nat.le_of_ble_eq_true rfl, Nat.le_of_ble_eq_true rfl⟩) hK hP hD hS hA [0, 1, 2, 3] [4, 5, 6, 7, 8, 9] [6, 7, 8, 9, 0, 1, 2, 3, 4, 5] rfl rfl (by decide) (by decide) (by decide) (by decide) (fun _ => rfl) (ci := 7) (q0 := 0) rfl rfl rfl rfl rfl hl.1 (Nat.le_of_ble_eq_true rfl) dX5_lengthByRounds_2 ⟨Nat.le_of_ble_eq_true rfl, Nat.le_of_ble_eq_true rfl⟩ ?_
  intro u H locs p2_3 hP hD hS
  obtain ⟨shrt_1, seen_2⟩ := u
  have hP : va_P D vwCl (bRoutes tA a0 a1 a2 a3 shrt_1 grp seen_2 ++ bChart tA b0 b1 b2 b3 b4 b5 ports legs lower upper leng reach meter) H := hP
  have hD : va_D A (bRoutes tA a0 a1 a2 a3 shrt_1 grp seen_2 ++ bChart tA b0 b1 b2 b3 b4 b5 ports legs lower upper leng reach meter) := hD
  have q1_2 : ∀ x, 0 ≤ x → x < 10 → shrt_1 x = if x = src then 0 else -1 := p2_3.1
  have q2_2 : ∀ x, 0 ≤ x → x < 10 → seen_2 x = 0 := p2_3.2
  refine zz_iconst hx hb dX5_lengthByRounds_5 ?_
  refine lv_istore (lv' := [(4, .int (iI 1)), (0, .ref a0), (1, .ref b0), (2, .int (iI src)), (3, .int (iI dst))]) hx hb dX5_lengthByRounds_6 hl (by decide) rfl (fun ls hl => ?_)
  refine zz_iconst hx hb dX5_lengthByRounds_8 ?_
  refine lv_istore (lv' := [(5, .int (iI 0)), (4, .int (iI 1)), (0, .ref a0), (1, .ref b0), (2, .int (iI src)), (3, .int (iI dst))]) hx hb dX5_lengthByRounds_9 hl (by decide) rfl (fun ls hl => ?_)
  have L11 : ∀ (n : Nat) (rd : Int) (flag : Int) (s9 : Int → Int) (H : Heap) (locs : List Loc) (ls : Array Slot), (0 ≤ rd ∧ rd ≤ 10) → (flag = 0 ∨ flag = 1) → (BfI Dv src s9 rd flag) → (10 - rd).toNat < n → va_P D vwCl (bRoutes tA a0 a1 a2 a3 s9 grp seen_2 ++ bChart tA b0 b1 b2 b3 b4 b5 ports legs lower upper leng reach meter) H → va_D A (bRoutes tA a0 a1 a2 a3 s9 grp seen_2 ++ bChart tA b0 b1 b2 b3 b4 b5 ports legs lower upper leng reach meter) → va_S A s.heap H locs → lv_has ls 9 [(5, .int (iI rd)), (4, .int (iI flag)), (0, .ref a0), (1, .ref b0), (2, .int (iI src)), (3, .int (iI dst))] → W p l e (headSpec wsX5_lengthByRounds ({ frames := 1, cells := 0, slots := 0, locals := 24 })).room s m args below meth c H locs 0 0 Q (F0 m 11 ls []) := by
    intro n
    induction n with
    | zero => intro rd flag s9 H locs ls i0 i2 i1 hmz; exact absurd hmz (Nat.not_lt_zero _)
    | succ n ih11 =>
      intro rd flag s9 H locs ls i0 i2 i1 hmz hP hD hS hl
      refine lv_iload hx hb dX5_lengthByRounds_11 (lv_at hl 1 rfl) ?_
      refine zz_if_eq (tgt := 126) hx hb dX5_lengthByRounds_13 (by decide) (by omega) (fun c_13 => ?_) (fun c_13 => ?_)
      · have v5 := BfS_val i1.1 (x := dst) (by omega) (by omega) (by omega)
        refine lv_aload_n hx hb dX5_lengthByRounds_126 rfl (lv_at hl 2 rfl) ?_
        refine va_get (D := D) (ci := 7) (v := .ref a1) (C := RX5) (T := TX5) (N := 3) hx hb hts iX5 hown hK hP 0 rfl rfl 0 (by decide) f_9 (fun _ h9 => h9) rfl dX5_lengthByRounds_127 ?_
        refine lv_iload_n hx hb dX5_lengthByRounds_130 rfl (lv_at hl 5 rfl) ?_
        refine zz_iald hx hb hK hP 1 rfl (by decide) (by omega) dX5_lengthByRounds_131 ?_
        exact hret (s9 dst) (s9, seen_2) _ _ _ _ dX5_lengthByRounds_132 (show distP (eg legs lower upper leng reach 20) src dst (s9 dst) from by exact BfI_out hDv (by omega) i2 i1 (by omega)) hP hD hS
      · refine lv_iload hx hb dX5_lengthByRounds_16 (lv_at hl 0 rfl) ?_
        refine zz_bipush hx hb dX5_lengthByRounds_18 (by decide) ?_
        refine zz_icmp_ge (tgt := 126) hx hb dX5_lengthByRounds_20 (by decide) (by omega) (by decide) (fun c_20 => ?_) (fun c_20 => ?_)
        · have v5 := BfS_val i1.1 (x := dst) (by omega) (by omega) (by omega)
          refine lv_aload_n hx hb dX5_lengthByRounds_126 rfl (lv_at hl 2 rfl) ?_
          refine va_get (D := D) (ci := 7) (v := .ref a1) (C := RX5) (T := TX5) (N := 3) hx hb hts iX5 hown hK hP 0 rfl rfl 0 (by decide) f_9 (fun _ h9 => h9) rfl dX5_lengthByRounds_127 ?_
          refine lv_iload_n hx hb dX5_lengthByRounds_130 rfl (lv_at hl 5 rfl) ?_
          refine zz_iald hx hb hK hP 1 rfl (by decide) (by omega) dX5_lengthByRounds_131 ?_
          exact hret (s9 dst) (s9, seen_2) _ _ _ _ dX5_lengthByRounds_132 (show distP (eg legs lower upper leng reach 20) src dst (s9 dst) from by exact BfI_out hDv (by omega) i2 i1 (by omega)) hP hD hS
        · refine zz_iconst hx hb dX5_lengthByRounds_23 ?_
          refine lv_istore (lv' := [(4, .int (iI 0)), (5, .int (iI rd)), (0, .ref a0), (1, .ref b0), (2, .int (iI src)), (3, .int (iI dst))]) hx hb dX5_lengthByRounds_24 hl (by decide) rfl (fun ls hl => ?_)
          refine zz_iconst hx hb dX5_lengthByRounds_26 ?_
          refine lv_istore (lv' := [(6, .int (iI 0)), (4, .int (iI 0)), (5, .int (iI rd)), (0, .ref a0), (1, .ref b0), (2, .int (iI src)), (3, .int (iI dst))]) hx hb dX5_lengthByRounds_27 hl (by decide) rfl (fun ls hl => ?_)
          have L29 : ∀ (n : Nat) (k : Int) (fl : Int) (t9 : Int → Int) (H : Heap) (locs : List Loc) (ls : Array Slot), (0 ≤ k ∧ k ≤ legs) → (BfK Dv (eg k lower upper leng reach 20) src s9 t9 (3960 * rd + 198 * k) fl) → (legs - k).toNat < n → va_P D vwCl (bRoutes tA a0 a1 a2 a3 t9 grp seen_2 ++ bChart tA b0 b1 b2 b3 b4 b5 ports legs lower upper leng reach meter) H → va_D A (bRoutes tA a0 a1 a2 a3 t9 grp seen_2 ++ bChart tA b0 b1 b2 b3 b4 b5 ports legs lower upper leng reach meter) → va_S A s.heap H locs → lv_has ls 9 [(6, .int (iI k)), (4, .int (iI fl)), (5, .int (iI rd)), (0, .ref a0), (1, .ref b0), (2, .int (iI src)), (3, .int (iI dst))] → W p l e (headSpec wsX5_lengthByRounds ({ frames := 1, cells := 0, slots := 0, locals := 24 })).room s m args below meth c H locs 0 0 Q (F0 m 29 ls []) := by
            intro n
            induction n with
            | zero => intro k fl t9 H locs ls j0 j1 hmz; exact absurd hmz (Nat.not_lt_zero _)
            | succ n ih29 =>
              intro k fl t9 H locs ls j0 j1 hmz hP hD hS hl
              have jf := j1.1
              refine lv_iload hx hb dX5_lengthByRounds_29 (lv_at hl 0 rfl) ?_
              refine lv_aload_n hx hb dX5_lengthByRounds_31 rfl (lv_at hl 4 rfl) ?_
              refine va_get (D := D) (ci := 4) (v := .int (iI legs)) (C := RX1) (T := TX1) (N := 7) hx hb hts iX1 hown hK hP 4 rfl rfl 1 (by decide) f_40 (fun _ h9 => h9) rfl dX5_lengthByRounds_32 ?_
              refine zz_icmp_ge (tgt := 120) hx hb dX5_lengthByRounds_35 (by decide) (by omega) (by omega) (fun c_35 => ?_) (fun c_35 => ?_)
              · refine zz_iinc (lv' := [(5, .int (iI (rd + 1))), (6, .int (iI k)), (4, .int (iI fl)), (0, .ref a0), (1, .ref b0), (2, .int (iI src)), (3, .int (iI dst))]) hx hb dX5_lengthByRounds_120 hl (k := 2) rfl (by decide) rfl (fun ls hl => ?_)
                refine lv_goto (tgt := 11) hx hb dX5_lengthByRounds_123 (by decide) ?_
                exact ih11 (rd + 1) fl t9 _ _ _ (by omega) (by exact j1.1) (by exact BfI_done vp1 hE hDv (by omega) (by rw [show (1 : Int) = flag by omega]; exact i1) (BfK_top (top := 3960 * rd + 198 * legs) (by omega) (by rw [show k = legs by omega] at j1; exact j1))) (by omega) hP hD hS (lv_sub hl [0, 2, 3, 4, 5, 6] rfl)
              · refine lv_aload_n hx hb dX5_lengthByRounds_38 rfl (lv_at hl 3 rfl) ?_
                refine lv_aload_n hx hb dX5_lengthByRounds_39 rfl (lv_at hl 4 rfl) ?_
                refine va_get (D := D) (ci := 4) (v := .ref b1) (C := RX1) (T := TX1) (N := 7) hx hb hts iX1 hown hK hP 4 rfl rfl 2 (by decide) f_43 (fun _ h9 => h9) rfl dX5_lengthByRounds_40 ?_
                refine lv_iload hx hb dX5_lengthByRounds_43 (lv_at hl 0 rfl) ?_
                refine zz_iald hx hb hK hP 5 rfl (by decide) (by omega) dX5_lengthByRounds_45 ?_
                have r_45 := hch.2.2.2.2.1 k (by omega) (by omega)
                refine lv_aload_n hx hb dX5_lengthByRounds_46 rfl (lv_at hl 4 rfl) ?_
                refine va_get (D := D) (ci := 4) (v := .ref b2) (C := RX1) (T := TX1) (N := 7) hx hb hts iX1 hown hK hP 4 rfl rfl 3 (by decide) f_46 (fun _ h9 => h9) rfl dX5_lengthByRounds_47 ?_
                refine lv_iload hx hb dX5_lengthByRounds_50 (lv_at hl 0 rfl) ?_
                refine zz_iald hx hb hK hP 6 rfl (by decide) (by omega) dX5_lengthByRounds_52 ?_
                have r_52 := hch.2.2.2.2.1 k (by omega) (by omega)
                refine lv_aload_n hx hb dX5_lengthByRounds_53 rfl (lv_at hl 4 rfl) ?_
                refine va_get (D := D) (ci := 4) (v := .ref b3) (C := RX1) (T := TX1) (N := 7) hx hb hts iX1 hown hK hP 4 rfl rfl 4 (by decide) f_49 (fun _ h9 => h9) rfl dX5_lengthByRounds_54 ?_
                refine lv_iload hx hb dX5_lengthByRounds_57 (lv_at hl 0 rfl) ?_
                refine zz_iald hx hb hK hP 7 rfl (by decide) (by omega) dX5_lengthByRounds_59 ?_
                have r_59 := hch.2.2.2.2.1 k (by omega) (by omega)
                have v1 := BfS_val j1.2.1 (x := lower k) (by omega) (by omega) (by omega)
                have v2 := BfS_val j1.2.1 (x := upper k) (by omega) (by omega) (by omega)
                refine zz_callVi (As := [.int (iI (lower k)), .int (iI (upper k)), .int (iI (leng k))]) (rest := []) (wf := fun u => bRoutes tA a0 a1 a2 a3 (rlx t9 (lower k) (upper k) (leng k)) grp seen_2 ++ bChart tA b0 b1 b2 b3 b4 b5 ports legs lower upper leng reach meter) ⟨hx, hb, hml, hown, hts⟩ (c_X5_shorten l D tA a0 a1 a2 a3 H.size t9 grp seen_2 (lower k) (upper k) (leng k) (by first | assumption | omega) (by first | assumption | omega) (by first | assumption | omega) (by first | assumption | omega) (by first | assumption | omega) (by first | assumption | omega) (by first | assumption | omega) (by first | assumption | omega)) (cwV 3 hts gX5_lengthByRounds_X5_shorten rfl rfl rfl (by decide +kernel) ⟨Nat.le_of_ble_eq_true rfl, Nat.le_of_ble_eq_true rfl⟩) hK hP hD hS hA [0, 1, 2, 3] [4, 5, 6, 7, 8, 9] [6, 7, 8, 9, 0, 1, 2, 3, 4, 5] rfl rfl (by decide) (by decide) (by decide) (by decide) (fun _ => rfl) (ci := 7) (q0 := 0) rfl rfl rfl rfl rfl hl.1 (Nat.le_of_ble_eq_true rfl) dX5_lengthByRounds_60 ⟨Nat.le_of_ble_eq_true rfl, Nat.le_of_ble_eq_true rfl⟩ ?_
                intro z60_4 u H locs p60_5 hP hD hS
                have hP : va_P D vwCl (bRoutes tA a0 a1 a2 a3 (rlx t9 (lower k) (upper k) (leng k)) grp seen_2 ++ bChart tA b0 b1 b2 b3 b4 b5 ports legs lower upper leng reach meter) H := hP
                have hD : va_D A (bRoutes tA a0 a1 a2 a3 (rlx t9 (lower k) (upper k) (leng k)) grp seen_2 ++ bChart tA b0 b1 b2 b3 b4 b5 ports legs lower upper leng reach meter) := hD
                have q0_60 : z60_4 = 0 ∨ z60_4 = 1 := p60_5.1
                have q1_60 : z60_4 = 0 → rlx t9 (lower k) (upper k) (leng k) = t9 := p60_5.2
                refine lv_istore (lv' := [(7, .int (iI z60_4)), (6, .int (iI k)), (4, .int (iI fl)), (5, .int (iI rd)), (0, .ref a0), (1, .ref b0), (2, .int (iI src)), (3, .int (iI dst))]) hx hb dX5_lengthByRounds_63 hl (by decide) rfl (fun ls hl => ?_)
                refine lv_aload_n hx hb dX5_lengthByRounds_65 rfl (lv_at hl 4 rfl) ?_
                refine lv_aload_n hx hb dX5_lengthByRounds_66 rfl (lv_at hl 5 rfl) ?_
                refine va_get (D := D) (ci := 4) (v := .ref b2) (C := RX1) (T := TX1) (N := 7) hx hb hts iX1 hown hK hP 4 rfl rfl 3 (by decide) f_46 (fun _ h9 => h9) rfl dX5_lengthByRounds_67 ?_
                refine lv_iload hx hb dX5_lengthByRounds_70 (lv_at hl 1 rfl) ?_
                refine zz_iald hx hb hK hP 6 rfl (by decide) (by omega) dX5_lengthByRounds_72 ?_
                have r_72 := hch.2.2.2.2.1 k (by omega) (by omega)
                refine lv_aload_n hx hb dX5_lengthByRounds_73 rfl (lv_at hl 5 rfl) ?_
                refine va_get (D := D) (ci := 4) (v := .ref b1) (C := RX1) (T := TX1) (N := 7) hx hb hts iX1 hown hK hP 4 rfl rfl 2 (by decide) f_43 (fun _ h9 => h9) rfl dX5_lengthByRounds_74 ?_
                refine lv_iload hx hb dX5_lengthByRounds_77 (lv_at hl 1 rfl) ?_
                refine zz_iald hx hb hK hP 5 rfl (by decide) (by omega) dX5_lengthByRounds_79 ?_
                have r_79 := hch.2.2.2.2.1 k (by omega) (by omega)
                refine lv_aload_n hx hb dX5_lengthByRounds_80 rfl (lv_at hl 5 rfl) ?_
                refine va_get (D := D) (ci := 4) (v := .ref b3) (C := RX1) (T := TX1) (N := 7) hx hb hts iX1 hown hK hP 4 rfl rfl 4 (by decide) f_49 (fun _ h9 => h9) rfl dX5_lengthByRounds_81 ?_
                refine lv_iload hx hb dX5_lengthByRounds_84 (lv_at hl 1 rfl) ?_
                refine zz_iald hx hb hK hP 7 rfl (by decide) (by omega) dX5_lengthByRounds_86 ?_
                have r_86 := hch.2.2.2.2.1 k (by omega) (by omega)
                have hek : (eg legs lower upper leng reach 20) (lower k) (upper k) (leng k) := ⟨k, by omega, by omega, by omega, rfl, Or.inl ⟨rfl, rfl⟩⟩
                have v0 := BfS_rlx vp1 hE hDv hek j1.2.1
                have v3 := BfS_val v0 (x := lower k) (by omega) (by omega) (by omega)
                have v4 := BfS_val v0 (x := upper k) (by omega) (by omega) (by omega)
                refine zz_callVi (As := [.int (iI (upper k)), .int (iI (lower k)), .int (iI (leng k))]) (rest := []) (wf := fun u => bRoutes tA a0 a1 a2 a3 (rlx (rlx t9 (lower k) (upper k) (leng k)) (upper k) (lower k) (leng k)) grp seen_2 ++ bChart tA b0 b1 b2 b3 b4 b5 ports legs lower upper leng reach meter) ⟨hx, hb, hml, hown, hts⟩ (c_X5_shorten l D tA a0 a1 a2 a3 H.size (rlx t9 (lower k) (upper k) (leng k)) grp seen_2 (upper k) (lower k) (leng k) (by first | assumption | omega) (by first | assumption | omega) (by first | assumption | omega) (by first | assumption | omega) (by first | assumption | omega) (by first | assumption | omega) (by first | assumption | omega) (by first | assumption | omega)) (cwV 3 hts gX5_lengthByRounds_X5_shorten rfl rfl rfl (by decide +kernel) ⟨Nat.le_of_ble_eq_true rfl, Nat.le_of_ble_eq_true rfl⟩) hK hP hD hS hA [0, 1, 2, 3] [4, 5, 6, 7, 8, 9] [6, 7, 8, 9, 0, 1, 2, 3, 4, 5] rfl rfl (by decide) (by decide) (by decide) (by decide) (fun _ => rfl) (ci := 7) (q0 := 0) rfl rfl rfl rfl rfl hl.1 (Nat.le_of_ble_eq_true rfl) dX5_lengthByRounds_87 ⟨Nat.le_of_ble_eq_true rfl, Nat.le_of_ble_eq_true rfl⟩ ?_
                intro z87_6 u H locs p87_7 hP hD hS
                have hP : va_P D vwCl (bRoutes tA a0 a1 a2 a3 (rlx (rlx t9 (lower k) (upper k) (leng k)) (upper k) (lower k) (leng k)) grp seen_2 ++ bChart tA b0 b1 b2 b3 b4 b5 ports legs lower upper leng reach meter) H := hP
                have hD : va_D A (bRoutes tA a0 a1 a2 a3 (rlx (rlx t9 (lower k) (upper k) (leng k)) (upper k) (lower k) (leng k)) grp seen_2 ++ bChart tA b0 b1 b2 b3 b4 b5 ports legs lower upper leng reach meter) := hD
                have q0_87 : z87_6 = 0 ∨ z87_6 = 1 := p87_7.1
                have q1_87 : z87_6 = 0 → rlx (rlx t9 (lower k) (upper k) (leng k)) (upper k) (lower k) (leng k) = (rlx t9 (lower k) (upper k) (leng k)) := p87_7.2
                refine lv_istore (lv' := [(8, .int (iI z87_6)), (7, .int (iI z60_4)), (6, .int (iI k)), (4, .int (iI fl)), (5, .int (iI rd)), (0, .ref a0), (1, .ref b0), (2, .int (iI src)), (3, .int (iI dst))]) hx hb dX5_lengthByRounds_90 hl (by decide) rfl (fun ls hl => ?_)
                refine lv_iload hx hb dX5_lengthByRounds_92 (lv_at hl 3 rfl) ?_
                have w1 := q0_60
                have w2 := q0_87
                refine zz_if_ne (tgt := 107) hx hb dX5_lengthByRounds_94 (by decide) (by omega) (fun c_94 => ?_) (fun c_94 => ?_)
                · refine zz_iconst hx hb dX5_lengthByRounds_107 ?_
                  refine lv_goto (tgt := 112) hx hb dX5_lengthByRounds_108 (by decide) ?_
                  refine lv_istore (lv' := [(4, .int (iI 1)), (8, .int (iI z87_6)), (7, .int (iI z60_4)), (6, .int (iI k)), (5, .int (iI rd)), (0, .ref a0), (1, .ref b0), (2, .int (iI src)), (3, .int (iI dst))]) hx hb dX5_lengthByRounds_112 hl (by decide) rfl (fun ls hl => ?_)
                  refine zz_iinc (lv' := [(6, .int (iI (k + 1))), (4, .int (iI 1)), (8, .int (iI z87_6)), (7, .int (iI z60_4)), (5, .int (iI rd)), (0, .ref a0), (1, .ref b0), (2, .int (iI src)), (3, .int (iI dst))]) hx hb dX5_lengthByRounds_114 hl (k := 3) rfl (by decide) rfl (fun ls hl => ?_)
                  refine lv_goto (tgt := 29) hx hb dX5_lengthByRounds_117 (by decide) ?_
                  exact ih29 (k + 1) 1 (rlx (rlx t9 (lower k) (upper k) (leng k)) (upper k) (lower k) (leng k)) _ _ _ (by omega) (by exact BfK_step vp1 hE hDv (by omega) (by omega) (hch.sub (by omega) (Or.inl (Int.le_refl _))) j1 q1_60 q1_87 (by omega) (by omega)) (by omega) hP hD hS (lv_sub hl [0, 1, 4, 5, 6, 7, 8] rfl)
                · refine lv_iload hx hb dX5_lengthByRounds_97 (lv_at hl 1 rfl) ?_
                  refine zz_if_ne (tgt := 107) hx hb dX5_lengthByRounds_99 (by decide) (by omega) (fun c_99 => ?_) (fun c_99 => ?_)
                  · refine zz_iconst hx hb dX5_lengthByRounds_107 ?_
                    refine lv_goto (tgt := 112) hx hb dX5_lengthByRounds_108 (by decide) ?_
                    refine lv_istore (lv' := [(4, .int (iI 1)), (8, .int (iI z87_6)), (7, .int (iI z60_4)), (6, .int (iI k)), (5, .int (iI rd)), (0, .ref a0), (1, .ref b0), (2, .int (iI src)), (3, .int (iI dst))]) hx hb dX5_lengthByRounds_112 hl (by decide) rfl (fun ls hl => ?_)
                    refine zz_iinc (lv' := [(6, .int (iI (k + 1))), (4, .int (iI 1)), (8, .int (iI z87_6)), (7, .int (iI z60_4)), (5, .int (iI rd)), (0, .ref a0), (1, .ref b0), (2, .int (iI src)), (3, .int (iI dst))]) hx hb dX5_lengthByRounds_114 hl (k := 3) rfl (by decide) rfl (fun ls hl => ?_)
                    refine lv_goto (tgt := 29) hx hb dX5_lengthByRounds_117 (by decide) ?_
                    exact ih29 (k + 1) 1 (rlx (rlx t9 (lower k) (upper k) (leng k)) (upper k) (lower k) (leng k)) _ _ _ (by omega) (by exact BfK_step vp1 hE hDv (by omega) (by omega) (hch.sub (by omega) (Or.inl (Int.le_refl _))) j1 q1_60 q1_87 (by omega) (by omega)) (by omega) hP hD hS (lv_sub hl [0, 1, 4, 5, 6, 7, 8] rfl)
                  · refine lv_iload hx hb dX5_lengthByRounds_102 (lv_at hl 0 rfl) ?_
                    refine zz_if_eq (tgt := 111) hx hb dX5_lengthByRounds_104 (by decide) (by omega) (fun c_104 => ?_) (fun c_104 => ?_)
                    · refine zz_iconst hx hb dX5_lengthByRounds_111 ?_
                      refine lv_istore (lv' := [(4, .int (iI 0)), (8, .int (iI z87_6)), (7, .int (iI z60_4)), (6, .int (iI k)), (5, .int (iI rd)), (0, .ref a0), (1, .ref b0), (2, .int (iI src)), (3, .int (iI dst))]) hx hb dX5_lengthByRounds_112 hl (by decide) rfl (fun ls hl => ?_)
                      refine zz_iinc (lv' := [(6, .int (iI (k + 1))), (4, .int (iI 0)), (8, .int (iI z87_6)), (7, .int (iI z60_4)), (5, .int (iI rd)), (0, .ref a0), (1, .ref b0), (2, .int (iI src)), (3, .int (iI dst))]) hx hb dX5_lengthByRounds_114 hl (k := 3) rfl (by decide) rfl (fun ls hl => ?_)
                      refine lv_goto (tgt := 29) hx hb dX5_lengthByRounds_117 (by decide) ?_
                      exact ih29 (k + 1) 0 (rlx (rlx t9 (lower k) (upper k) (leng k)) (upper k) (lower k) (leng k)) _ _ _ (by omega) (by exact BfK_step vp1 hE hDv (by omega) (by omega) (hch.sub (by omega) (Or.inl (Int.le_refl _))) j1 q1_60 q1_87 (by omega) (by omega)) (by omega) hP hD hS (lv_sub hl [0, 1, 4, 5, 6, 7, 8] rfl)
                    · refine zz_iconst hx hb dX5_lengthByRounds_107 ?_
                      refine lv_goto (tgt := 112) hx hb dX5_lengthByRounds_108 (by decide) ?_
                      refine lv_istore (lv' := [(4, .int (iI 1)), (8, .int (iI z87_6)), (7, .int (iI z60_4)), (6, .int (iI k)), (5, .int (iI rd)), (0, .ref a0), (1, .ref b0), (2, .int (iI src)), (3, .int (iI dst))]) hx hb dX5_lengthByRounds_112 hl (by decide) rfl (fun ls hl => ?_)
                      refine zz_iinc (lv' := [(6, .int (iI (k + 1))), (4, .int (iI 1)), (8, .int (iI z87_6)), (7, .int (iI z60_4)), (5, .int (iI rd)), (0, .ref a0), (1, .ref b0), (2, .int (iI src)), (3, .int (iI dst))]) hx hb dX5_lengthByRounds_114 hl (k := 3) rfl (by decide) rfl (fun ls hl => ?_)
                      refine lv_goto (tgt := 29) hx hb dX5_lengthByRounds_117 (by decide) ?_
                      exact ih29 (k + 1) 1 (rlx (rlx t9 (lower k) (upper k) (leng k)) (upper k) (lower k) (leng k)) _ _ _ (by omega) (by exact BfK_step vp1 hE hDv (by omega) (by omega) (hch.sub (by omega) (Or.inl (Int.le_refl _))) j1 q1_60 q1_87 (by omega) (by omega)) (by omega) hP hD hS (lv_sub hl [0, 1, 4, 5, 6, 7, 8] rfl)
          exact L29 _ 0 0 s9 _ _ _ (by omega) (by exact BfK_init i1) (Nat.lt_succ_self _) hP hD hS (lv_sub hl [0, 1, 2, 3, 4, 5, 6] rfl)
  exact L11 _ 0 1 shrt_1 _ _ _ (by omega) (by omega) (by exact BfI_init hDv (by omega) q1_2) (Nat.lt_succ_self _) hP hD hS (lv_sub hl [0, 1, 2, 3, 4, 5] rfl)

set_option maxHeartbeats 4000000 in
set_option maxRecDepth 100000 in
theorem c_X5_hasRoute (l : Launch) (D : va_G) (tA : Nat → ClassId) (a0 a1 a2 a3 b0 b1 b2 b3 b4 b5 : Nat) (sz : Nat) (shrt : Int → Int) (grp : Int → Int) (seen : Int → Int) (ports : Int) (legs : Int) (lower : Int → Int) (upper : Int → Int) (leng : Int → Int) (reach : Int → Int) (meter : Int → Int) (src : Int) (dst : Int) (r : Int) (r_src : -2147483648 ≤ src ∧ src ≤ 2147483647) (r_dst : -2147483648 ≤ dst ∧ dst ≤ 2147483647) (r_r : -2147483648 ≤ r ∧ r ≤ 2147483647) (hch : ChV ports legs lower upper leng reach) (hsrc : 0 ≤ src ∧ src < ports) (hdst : 0 ≤ dst ∧ dst < ports) : zMi l yX5_hasRoute wsX5_hasRoute ({ frames := 0, cells := 0, slots := 0, locals := 0 }) D tA [.ref a0, .ref b0, .int (iI src), .int (iI dst), .int (iI r)] (bRoutes tA a0 a1 a2 a3 shrt grp seen ++ bChart tA b0 b1 b2 b3 b4 b5 ports legs lower upper leng reach meter) sz (fun (z : Int) (u : (Int → Int)) => ((z = 1 ∧ cn (eg legs lower upper leng reach r) src dst) ∨ (z = 0 ∧ ¬ cn (eg legs lower upper leng reach r) src dst))) (fun (u : (Int → Int)) => bRoutes tA a0 a1 a2 a3 shrt grp u ++ bChart tA b0 b1 b2 b3 b4 b5 ports legs lower upper leng reach meter) 0 0 := by
  refine zMi_of (cc := cX5_hasRoute) (maxL := 10) (by decide) rfl (fun z u h => zbool z (by omega)) (Nat.le_of_ble_eq_true rfl) ?_
  intro p e s m args below meth c A Q ls hx hb hml hts hown hK hP hD hA hret hl
  obtain ⟨H, hHe⟩ : ∃ H : Heap, H = s.heap := ⟨_, rfl⟩
  have hS : va_S A s.heap H [] := by rw [hHe]; exact va_S.rf
  rw [← hHe] at hP ⊢
  have hl : lv_has ls 10 [(0, .ref a0), (1, .ref b0), (2, .int (iI src)), (3, .int (iI dst)), (4, .int (iI r))] := hl
  have iX1 : ∀ v ∈ wsX10, v ∈ wsX5_hasRoute := by decide +kernel
  have iX5 : ∀ v ∈ wsX50, v ∈ wsX5_hasRoute := by decide +kernel
  have f_18 := hts (.fieldLink RX5 18 "HarborLights$Routes" "seen" "[Z") (by decide +kernel)
  have f_40 := hts (.fieldLink RX5 40 "HarborLights$Chart" "legs" "I") (by decide +kernel)
  have f_43 := hts (.fieldLink RX5 43 "HarborLights$Chart" "lower" "[I") (by decide +kernel)
  have f_46 := hts (.fieldLink RX5 46 "HarborLights$Chart" "upper" "[I") (by decide +kernel)
  have f_63 := hts (.fieldLink RX5 63 "HarborLights$Chart" "reach" "[I") (by decide +kernel)
  obtain ⟨vp0, vp1, vl0, vl1, -, -⟩ := id hch
  have hE := hch.egOk r
  refine zz_iconst hx hb dX5_hasRoute_0 ?_
  refine lv_istore (lv' := [(5, .int (iI 0)), (0, .ref a0), (1, .ref b0), (2, .int (iI src)), (3, .int (iI dst)), (4, .int (iI r))]) hx hb dX5_hasRoute_1 hl (by decide) rfl (fun ls hl => ?_)
  have L3 : ∀ (n : Nat) (i : Int) (n9 : Int → Int) (H : Heap) (locs : List Loc) (ls : Array Slot), (0 ≤ i ∧ i ≤ 10) → (∀ j, 0 ≤ j → j < i → n9 j = if j = src then 1 else 0) → (10 - i).toNat < n → va_P D vwCl (bRoutes tA a0 a1 a2 a3 shrt grp n9 ++ bChart tA b0 b1 b2 b3 b4 b5 ports legs lower upper leng reach meter) H → va_D A (bRoutes tA a0 a1 a2 a3 shrt grp n9 ++ bChart tA b0 b1 b2 b3 b4 b5 ports legs lower upper leng reach meter) → va_S A s.heap H locs → lv_has ls 10 [(5, .int (iI i)), (0, .ref a0), (1, .ref b0), (2, .int (iI src)), (3, .int (iI dst)), (4, .int (iI r))] → W p l e (headSpec wsX5_hasRoute ({ frames := 0, cells := 0, slots := 0, locals := 0 })).room s m args below meth c H locs 0 0 Q (F0 m 3 ls []) := by
    intro n
    induction n with
    | zero => intro i n9 H locs ls i0 i1 hmz; exact absurd hmz (Nat.not_lt_zero _)
    | succ n ih3 =>
      intro i n9 H locs ls i0 i1 hmz hP hD hS hl
      refine lv_iload hx hb dX5_hasRoute_3 (lv_at hl 0 rfl) ?_
      refine zz_bipush hx hb dX5_hasRoute_5 (by decide) ?_
      refine zz_icmp_ge (tgt := 34) hx hb dX5_hasRoute_7 (by decide) (by omega) (by decide) (fun c_7 => ?_) (fun c_7 => ?_)
      · refine zz_iconst hx hb dX5_hasRoute_34 ?_
        refine lv_istore (lv' := [(5, .int (iI 1)), (0, .ref a0), (1, .ref b0), (2, .int (iI src)), (3, .int (iI dst)), (4, .int (iI r))]) hx hb dX5_hasRoute_35 hl (by decide) rfl (fun ls hl => ?_)
        refine zz_iconst hx hb dX5_hasRoute_37 ?_
        refine lv_istore (lv' := [(6, .int (iI 0)), (5, .int (iI 1)), (0, .ref a0), (1, .ref b0), (2, .int (iI src)), (3, .int (iI dst)), (4, .int (iI r))]) hx hb dX5_hasRoute_38 hl (by decide) rfl (fun ls hl => ?_)
        have L40 : ∀ (n : Nat) (rd : Int) (flag : Int) (n9 : Int → Int) (H : Heap) (locs : List Loc) (ls : Array Slot), (0 ≤ rd ∧ rd ≤ 10) → (flag = 0 ∨ flag = 1) → (SpI (eg legs lower upper leng reach r) src n9 rd flag) → (10 - rd).toNat < n → va_P D vwCl (bRoutes tA a0 a1 a2 a3 shrt grp n9 ++ bChart tA b0 b1 b2 b3 b4 b5 ports legs lower upper leng reach meter) H → va_D A (bRoutes tA a0 a1 a2 a3 shrt grp n9 ++ bChart tA b0 b1 b2 b3 b4 b5 ports legs lower upper leng reach meter) → va_S A s.heap H locs → lv_has ls 10 [(6, .int (iI rd)), (5, .int (iI flag)), (0, .ref a0), (1, .ref b0), (2, .int (iI src)), (3, .int (iI dst)), (4, .int (iI r))] → W p l e (headSpec wsX5_hasRoute ({ frames := 0, cells := 0, slots := 0, locals := 0 })).room s m args below meth c H locs 0 0 Q (F0 m 40 ls []) := by
          intro n
          induction n with
          | zero => intro rd flag n9 H locs ls i0 i2 i1 hmz; exact absurd hmz (Nat.not_lt_zero _)
          | succ n ih40 =>
            intro rd flag n9 H locs ls i0 i2 i1 hmz hP hD hS hl
            refine lv_iload hx hb dX5_hasRoute_40 (lv_at hl 1 rfl) ?_
            refine zz_if_eq (tgt := 154) hx hb dX5_hasRoute_42 (by decide) (by omega) (fun c_42 => ?_) (fun c_42 => ?_)
            · refine lv_aload_n hx hb dX5_hasRoute_154 rfl (lv_at hl 2 rfl) ?_
              refine va_get (D := D) (ci := 7) (v := .ref a3) (C := RX5) (T := TX5) (N := 3) hx hb hts iX5 hown hK hP 0 rfl rfl 2 (by decide) f_18 (fun _ h9 => h9) rfl dX5_hasRoute_155 ?_
              refine lv_iload_n hx hb dX5_hasRoute_158 rfl (lv_at hl 5 rfl) ?_
              refine zz_zald hx hb hK hP 3 rfl (by decide) (by omega) dX5_hasRoute_159 ?_
              have r_159 := i1.2.1 dst (by omega) (by omega)
              exact hret (n9 dst) n9 _ _ _ _ dX5_hasRoute_160 (show ((n9 dst) = 1 ∧ cn (eg legs lower upper leng reach r) src dst) ∨ ((n9 dst) = 0 ∧ ¬ cn (eg legs lower upper leng reach r) src dst) from by exact SpI_out (by omega) i2 i1 (by omega)) hP hD hS
            · refine lv_aload_n hx hb dX5_hasRoute_45 rfl (lv_at hl 2 rfl) ?_
              refine va_get (D := D) (ci := 7) (v := .ref a3) (C := RX5) (T := TX5) (N := 3) hx hb hts iX5 hown hK hP 0 rfl rfl 2 (by decide) f_18 (fun _ h9 => h9) rfl dX5_hasRoute_46 ?_
              refine lv_iload_n hx hb dX5_hasRoute_49 rfl (lv_at hl 5 rfl) ?_
              refine zz_zald hx hb hK hP 3 rfl (by decide) (by omega) dX5_hasRoute_50 ?_
              have r_50 := i1.2.1 dst (by omega) (by omega)
              refine zz_if_ne (tgt := 154) hx hb dX5_hasRoute_51 (by decide) (by omega) (fun c_51 => ?_) (fun c_51 => ?_)
              · refine lv_aload_n hx hb dX5_hasRoute_154 rfl (lv_at hl 2 rfl) ?_
                refine va_get (D := D) (ci := 7) (v := .ref a3) (C := RX5) (T := TX5) (N := 3) hx hb hts iX5 hown hK hP 0 rfl rfl 2 (by decide) f_18 (fun _ h9 => h9) rfl dX5_hasRoute_155 ?_
                refine lv_iload_n hx hb dX5_hasRoute_158 rfl (lv_at hl 5 rfl) ?_
                refine zz_zald hx hb hK hP 3 rfl (by decide) (by omega) dX5_hasRoute_159 ?_
                have r_159 := i1.2.1 dst (by omega) (by omega)
                exact hret (n9 dst) n9 _ _ _ _ dX5_hasRoute_160 (show ((n9 dst) = 1 ∧ cn (eg legs lower upper leng reach r) src dst) ∨ ((n9 dst) = 0 ∧ ¬ cn (eg legs lower upper leng reach r) src dst) from by exact SpI_out (by omega) i2 i1 (by omega)) hP hD hS
              · refine lv_iload hx hb dX5_hasRoute_54 (lv_at hl 0 rfl) ?_
                refine zz_bipush hx hb dX5_hasRoute_56 (by decide) ?_
                refine zz_icmp_ge (tgt := 154) hx hb dX5_hasRoute_58 (by decide) (by omega) (by decide) (fun c_58 => ?_) (fun c_58 => ?_)
                · refine lv_aload_n hx hb dX5_hasRoute_154 rfl (lv_at hl 2 rfl) ?_
                  refine va_get (D := D) (ci := 7) (v := .ref a3) (C := RX5) (T := TX5) (N := 3) hx hb hts iX5 hown hK hP 0 rfl rfl 2 (by decide) f_18 (fun _ h9 => h9) rfl dX5_hasRoute_155 ?_
                  refine lv_iload_n hx hb dX5_hasRoute_158 rfl (lv_at hl 5 rfl) ?_
                  refine zz_zald hx hb hK hP 3 rfl (by decide) (by omega) dX5_hasRoute_159 ?_
                  have r_159 := i1.2.1 dst (by omega) (by omega)
                  exact hret (n9 dst) n9 _ _ _ _ dX5_hasRoute_160 (show ((n9 dst) = 1 ∧ cn (eg legs lower upper leng reach r) src dst) ∨ ((n9 dst) = 0 ∧ ¬ cn (eg legs lower upper leng reach r) src dst) from by exact SpI_out (by omega) i2 i1 (by omega)) hP hD hS
                · refine zz_iconst hx hb dX5_hasRoute_61 ?_
                  refine lv_istore (lv' := [(5, .int (iI 0)), (6, .int (iI rd)), (0, .ref a0), (1, .ref b0), (2, .int (iI src)), (3, .int (iI dst)), (4, .int (iI r))]) hx hb dX5_hasRoute_62 hl (by decide) rfl (fun ls hl => ?_)
                  refine zz_iconst hx hb dX5_hasRoute_64 ?_
                  refine lv_istore (lv' := [(7, .int (iI 0)), (5, .int (iI 0)), (6, .int (iI rd)), (0, .ref a0), (1, .ref b0), (2, .int (iI src)), (3, .int (iI dst)), (4, .int (iI r))]) hx hb dX5_hasRoute_65 hl (by decide) rfl (fun ls hl => ?_)
                  have L67 : ∀ (n : Nat) (k : Int) (fl : Int) (m9 : Int → Int) (H : Heap) (locs : List Loc) (ls : Array Slot), (0 ≤ k ∧ k ≤ legs) → (SpK (eg legs lower upper leng reach r) (eg k lower upper leng reach r) src n9 m9 fl) → (legs - k).toNat < n → va_P D vwCl (bRoutes tA a0 a1 a2 a3 shrt grp m9 ++ bChart tA b0 b1 b2 b3 b4 b5 ports legs lower upper leng reach meter) H → va_D A (bRoutes tA a0 a1 a2 a3 shrt grp m9 ++ bChart tA b0 b1 b2 b3 b4 b5 ports legs lower upper leng reach meter) → va_S A s.heap H locs → lv_has ls 10 [(7, .int (iI k)), (5, .int (iI fl)), (6, .int (iI rd)), (0, .ref a0), (1, .ref b0), (2, .int (iI src)), (3, .int (iI dst)), (4, .int (iI r))] → W p l e (headSpec wsX5_hasRoute ({ frames := 0, cells := 0, slots := 0, locals := 0 })).room s m args below meth c H locs 0 0 Q (F0 m 67 ls []) := by
                    intro n
                    induction n with
                    | zero => intro k fl m9 H locs ls j0 j1 hmz; exact absurd hmz (Nat.not_lt_zero _)
                    | succ n ih67 =>
                      intro k fl m9 H locs ls j0 j1 hmz hP hD hS hl
                      refine lv_iload hx hb dX5_hasRoute_67 (lv_at hl 0 rfl) ?_
                      refine lv_aload_n hx hb dX5_hasRoute_69 rfl (lv_at hl 4 rfl) ?_
                      refine va_get (D := D) (ci := 4) (v := .int (iI legs)) (C := RX1) (T := TX1) (N := 7) hx hb hts iX1 hown hK hP 4 rfl rfl 1 (by decide) f_40 (fun _ h9 => h9) rfl dX5_hasRoute_70 ?_
                      refine zz_icmp_ge (tgt := 148) hx hb dX5_hasRoute_73 (by decide) (by omega) (by omega) (fun c_73 => ?_) (fun c_73 => ?_)
                      · refine zz_iinc (lv' := [(6, .int (iI (rd + 1))), (7, .int (iI k)), (5, .int (iI fl)), (0, .ref a0), (1, .ref b0), (2, .int (iI src)), (3, .int (iI dst)), (4, .int (iI r))]) hx hb dX5_hasRoute_148 hl (k := 2) rfl (by decide) rfl (fun ls hl => ?_)
                        refine lv_goto (tgt := 40) hx hb dX5_hasRoute_151 (by decide) ?_
                        exact ih40 (rd + 1) fl m9 _ _ _ (by omega) (by exact j1.1) (by exact SpK_done (by rw [show (1 : Int) = flag by omega]; exact i1) (by rw [show k = legs by omega] at j1; exact j1)) (by omega) hP hD hS (lv_sub hl [0, 2, 3, 4, 5, 6, 7] rfl)
                      · refine lv_aload_n hx hb dX5_hasRoute_76 rfl (lv_at hl 4 rfl) ?_
                        refine va_get (D := D) (ci := 4) (v := .ref b1) (C := RX1) (T := TX1) (N := 7) hx hb hts iX1 hown hK hP 4 rfl rfl 2 (by decide) f_43 (fun _ h9 => h9) rfl dX5_hasRoute_77 ?_
                        refine lv_iload hx hb dX5_hasRoute_80 (lv_at hl 0 rfl) ?_
                        refine zz_iald hx hb hK hP 5 rfl (by decide) (by omega) dX5_hasRoute_82 ?_
                        have r_82 := hch.2.2.2.2.1 k (by omega) (by omega)
                        refine lv_istore (lv' := [(8, .int (iI (lower k))), (7, .int (iI k)), (5, .int (iI fl)), (6, .int (iI rd)), (0, .ref a0), (1, .ref b0), (2, .int (iI src)), (3, .int (iI dst)), (4, .int (iI r))]) hx hb dX5_hasRoute_83 hl (by decide) rfl (fun ls hl => ?_)
                        refine lv_aload_n hx hb dX5_hasRoute_85 rfl (lv_at hl 5 rfl) ?_
                        refine va_get (D := D) (ci := 4) (v := .ref b2) (C := RX1) (T := TX1) (N := 7) hx hb hts iX1 hown hK hP 4 rfl rfl 3 (by decide) f_46 (fun _ h9 => h9) rfl dX5_hasRoute_86 ?_
                        refine lv_iload hx hb dX5_hasRoute_89 (lv_at hl 1 rfl) ?_
                        refine zz_iald hx hb hK hP 6 rfl (by decide) (by omega) dX5_hasRoute_91 ?_
                        have r_91 := hch.2.2.2.2.1 k (by omega) (by omega)
                        refine lv_istore (lv' := [(9, .int (iI (upper k))), (8, .int (iI (lower k))), (7, .int (iI k)), (5, .int (iI fl)), (6, .int (iI rd)), (0, .ref a0), (1, .ref b0), (2, .int (iI src)), (3, .int (iI dst)), (4, .int (iI r))]) hx hb dX5_hasRoute_92 hl (by decide) rfl (fun ls hl => ?_)
                        refine lv_aload_n hx hb dX5_hasRoute_94 rfl (lv_at hl 6 rfl) ?_
                        refine va_get (D := D) (ci := 4) (v := .ref b4) (C := RX1) (T := TX1) (N := 7) hx hb hts iX1 hown hK hP 4 rfl rfl 5 (by decide) f_63 (fun _ h9 => h9) rfl dX5_hasRoute_95 ?_
                        refine lv_iload hx hb dX5_hasRoute_98 (lv_at hl 2 rfl) ?_
                        refine zz_iald hx hb hK hP 8 rfl (by decide) (by omega) dX5_hasRoute_100 ?_
                        have r_100 := hch.2.2.2.2.1 k (by omega) (by omega)
                        refine lv_iload hx hb dX5_hasRoute_101 (lv_at hl 9 rfl) ?_
                        refine zz_icmp_gt (tgt := 142) hx hb dX5_hasRoute_103 (by decide) (by omega) (by omega) (fun c_103 => ?_) (fun c_103 => ?_)
                        · refine zz_iinc (lv' := [(7, .int (iI (k + 1))), (9, .int (iI (upper k))), (8, .int (iI (lower k))), (5, .int (iI fl)), (6, .int (iI rd)), (0, .ref a0), (1, .ref b0), (2, .int (iI src)), (3, .int (iI dst)), (4, .int (iI r))]) hx hb dX5_hasRoute_142 hl (k := 2) rfl (by decide) rfl (fun ls hl => ?_)
                          refine lv_goto (tgt := 67) hx hb dX5_hasRoute_145 (by decide) ?_
                          exact ih67 (k + 1) fl m9 _ _ _ (by omega) (by first | exact SpK_skip (by omega) j1 | exact SpK_same (by omega) (by omega) c_120 j1 | exact SpK_add (by omega) (by omega) ⟨k, by omega, by omega, by omega, rfl, Or.inl ⟨rfl, rfl⟩⟩ c_120 j1) (by omega) hP hD hS (lv_sub hl [0, 3, 4, 5, 6, 7, 8, 9] rfl)
                        · refine lv_aload_n hx hb dX5_hasRoute_106 rfl (lv_at hl 5 rfl) ?_
                          refine va_get (D := D) (ci := 7) (v := .ref a3) (C := RX5) (T := TX5) (N := 3) hx hb hts iX5 hown hK hP 0 rfl rfl 2 (by decide) f_18 (fun _ h9 => h9) rfl dX5_hasRoute_107 ?_
                          refine lv_iload hx hb dX5_hasRoute_110 (lv_at hl 1 rfl) ?_
                          refine zz_zald hx hb hK hP 3 rfl (by decide) (by omega) dX5_hasRoute_112 ?_
                          have r_112 := j1.2.2.1 (lower k) (by omega) (by omega)
                          refine lv_aload_n hx hb dX5_hasRoute_113 rfl (lv_at hl 5 rfl) ?_
                          refine va_get (D := D) (ci := 7) (v := .ref a3) (C := RX5) (T := TX5) (N := 3) hx hb hts iX5 hown hK hP 0 rfl rfl 2 (by decide) f_18 (fun _ h9 => h9) rfl dX5_hasRoute_114 ?_
                          refine lv_iload hx hb dX5_hasRoute_117 (lv_at hl 0 rfl) ?_
                          refine zz_zald hx hb hK hP 3 rfl (by decide) (by omega) dX5_hasRoute_119 ?_
                          have r_119 := j1.2.2.1 (upper k) (by omega) (by omega)
                          refine zz_icmp_eq (tgt := 142) hx hb dX5_hasRoute_120 (by decide) (by omega) (by omega) (fun c_120 => ?_) (fun c_120 => ?_)
                          · refine zz_iinc (lv' := [(7, .int (iI (k + 1))), (9, .int (iI (upper k))), (8, .int (iI (lower k))), (5, .int (iI fl)), (6, .int (iI rd)), (0, .ref a0), (1, .ref b0), (2, .int (iI src)), (3, .int (iI dst)), (4, .int (iI r))]) hx hb dX5_hasRoute_142 hl (k := 2) rfl (by decide) rfl (fun ls hl => ?_)
                            refine lv_goto (tgt := 67) hx hb dX5_hasRoute_145 (by decide) ?_
                            exact ih67 (k + 1) fl m9 _ _ _ (by omega) (by first | exact SpK_skip (by omega) j1 | exact SpK_same (by omega) (by omega) c_120 j1 | exact SpK_add (by omega) (by omega) ⟨k, by omega, by omega, by omega, rfl, Or.inl ⟨rfl, rfl⟩⟩ c_120 j1) (by omega) hP hD hS (lv_sub hl [0, 3, 4, 5, 6, 7, 8, 9] rfl)
                          · refine lv_aload_n hx hb dX5_hasRoute_123 rfl (lv_at hl 5 rfl) ?_
                            refine va_get (D := D) (ci := 7) (v := .ref a3) (C := RX5) (T := TX5) (N := 3) hx hb hts iX5 hown hK hP 0 rfl rfl 2 (by decide) f_18 (fun _ h9 => h9) rfl dX5_hasRoute_124 ?_
                            refine lv_iload hx hb dX5_hasRoute_127 (lv_at hl 1 rfl) ?_
                            refine zz_iconst hx hb dX5_hasRoute_129 ?_
                            refine zz_zast hx hb hK hP hD hS 3 rfl (by decide) (by omega) (by omega) dX5_hasRoute_130 (fun H locs hP hD hS => ?_)
                            have hP : va_P D vwCl (bRoutes tA a0 a1 a2 a3 shrt grp (zU m9 (lower k) 1) ++ bChart tA b0 b1 b2 b3 b4 b5 ports legs lower upper leng reach meter) H := hP
                            have hD : va_D A (bRoutes tA a0 a1 a2 a3 shrt grp (zU m9 (lower k) 1) ++ bChart tA b0 b1 b2 b3 b4 b5 ports legs lower upper leng reach meter) := hD
                            refine lv_aload_n hx hb dX5_hasRoute_131 rfl (lv_at hl 5 rfl) ?_
                            refine va_get (D := D) (ci := 7) (v := .ref a3) (C := RX5) (T := TX5) (N := 3) hx hb hts iX5 hown hK hP 0 rfl rfl 2 (by decide) f_18 (fun _ h9 => h9) rfl dX5_hasRoute_132 ?_
                            refine lv_iload hx hb dX5_hasRoute_135 (lv_at hl 0 rfl) ?_
                            refine zz_iconst hx hb dX5_hasRoute_137 ?_
                            refine zz_zast hx hb hK hP hD hS 3 rfl (by decide) (by omega) (by omega) dX5_hasRoute_138 (fun H locs hP hD hS => ?_)
                            have hP : va_P D vwCl (bRoutes tA a0 a1 a2 a3 shrt grp (zU (zU m9 (lower k) 1) (upper k) 1) ++ bChart tA b0 b1 b2 b3 b4 b5 ports legs lower upper leng reach meter) H := hP
                            have hD : va_D A (bRoutes tA a0 a1 a2 a3 shrt grp (zU (zU m9 (lower k) 1) (upper k) 1) ++ bChart tA b0 b1 b2 b3 b4 b5 ports legs lower upper leng reach meter) := hD
                            refine zz_iconst hx hb dX5_hasRoute_139 ?_
                            refine lv_istore (lv' := [(5, .int (iI 1)), (9, .int (iI (upper k))), (8, .int (iI (lower k))), (7, .int (iI k)), (6, .int (iI rd)), (0, .ref a0), (1, .ref b0), (2, .int (iI src)), (3, .int (iI dst)), (4, .int (iI r))]) hx hb dX5_hasRoute_140 hl (by decide) rfl (fun ls hl => ?_)
                            refine zz_iinc (lv' := [(7, .int (iI (k + 1))), (5, .int (iI 1)), (9, .int (iI (upper k))), (8, .int (iI (lower k))), (6, .int (iI rd)), (0, .ref a0), (1, .ref b0), (2, .int (iI src)), (3, .int (iI dst)), (4, .int (iI r))]) hx hb dX5_hasRoute_142 hl (k := 3) rfl (by decide) rfl (fun ls hl => ?_)
                            refine lv_goto (tgt := 67) hx hb dX5_hasRoute_145 (by decide) ?_
                            exact ih67 (k + 1) 1 (zU (zU m9 (lower k) 1) (upper k) 1) _ _ _ (by omega) (by first | exact SpK_skip (by omega) j1 | exact SpK_same (by omega) (by omega) c_120 j1 | exact SpK_add (by omega) (by omega) ⟨k, by omega, by omega, by omega, rfl, Or.inl ⟨rfl, rfl⟩⟩ c_120 j1) (by omega) hP hD hS (lv_sub hl [0, 1, 4, 5, 6, 7, 8, 9] rfl)
                  exact L67 _ 0 0 n9 _ _ _ (by omega) (by exact SpK_init i1) (Nat.lt_succ_self _) hP hD hS (lv_sub hl [0, 1, 2, 3, 4, 5, 6, 7] rfl)
        exact L40 _ 0 1 n9 _ _ _ (by omega) (by omega) (by exact SpI_init (by omega) (fun x h0 h1 => i1 x h0 (by omega))) (Nat.lt_succ_self _) hP hD hS (lv_sub hl [0, 1, 2, 3, 4, 5, 6] rfl)
      · refine lv_aload_n hx hb dX5_hasRoute_10 rfl (lv_at hl 1 rfl) ?_
        refine va_get (D := D) (ci := 7) (v := .ref a3) (C := RX5) (T := TX5) (N := 3) hx hb hts iX5 hown hK hP 0 rfl rfl 2 (by decide) f_18 (fun _ h9 => h9) rfl dX5_hasRoute_11 ?_
        refine lv_iload hx hb dX5_hasRoute_14 (lv_at hl 0 rfl) ?_
        refine lv_iload hx hb dX5_hasRoute_16 (lv_at hl 0 rfl) ?_
        refine lv_iload_n hx hb dX5_hasRoute_18 rfl (lv_at hl 3 rfl) ?_
        refine zz_icmp_ne (tgt := 26) hx hb dX5_hasRoute_19 (by decide) (by omega) (by omega) (fun c_19 => ?_) (fun c_19 => ?_)
        · refine zz_iconst hx hb dX5_hasRoute_26 ?_
          refine zz_zast hx hb hK hP hD hS 3 rfl (by decide) (by omega) (by omega) dX5_hasRoute_27 (fun H locs hP hD hS => ?_)
          have hP : va_P D vwCl (bRoutes tA a0 a1 a2 a3 shrt grp (zU n9 i 0) ++ bChart tA b0 b1 b2 b3 b4 b5 ports legs lower upper leng reach meter) H := hP
          have hD : va_D A (bRoutes tA a0 a1 a2 a3 shrt grp (zU n9 i 0) ++ bChart tA b0 b1 b2 b3 b4 b5 ports legs lower upper leng reach meter) := hD
          refine zz_iinc (lv' := [(5, .int (iI (i + 1))), (0, .ref a0), (1, .ref b0), (2, .int (iI src)), (3, .int (iI dst)), (4, .int (iI r))]) hx hb dX5_hasRoute_28 hl (k := 0) rfl (by decide) rfl (fun ls hl => ?_)
          refine lv_goto (tgt := 3) hx hb dX5_hasRoute_31 (by decide) ?_
          exact ih3 (i + 1) (zU n9 i 0) _ _ _ (by omega) (by first | exact upd_all (P := fun j x => x = if j = src then 1 else 0) i1 (by rw [if_pos c_19]) | exact upd_all (P := fun j x => x = if j = src then 1 else 0) i1 (by rw [if_neg c_19])) (by omega) hP hD hS (lv_sub hl [0, 1, 2, 3, 4, 5] rfl)
        · refine zz_iconst hx hb dX5_hasRoute_22 ?_
          refine lv_goto (tgt := 27) hx hb dX5_hasRoute_23 (by decide) ?_
          refine zz_zast hx hb hK hP hD hS 3 rfl (by decide) (by omega) (by omega) dX5_hasRoute_27 (fun H locs hP hD hS => ?_)
          have hP : va_P D vwCl (bRoutes tA a0 a1 a2 a3 shrt grp (zU n9 i 1) ++ bChart tA b0 b1 b2 b3 b4 b5 ports legs lower upper leng reach meter) H := hP
          have hD : va_D A (bRoutes tA a0 a1 a2 a3 shrt grp (zU n9 i 1) ++ bChart tA b0 b1 b2 b3 b4 b5 ports legs lower upper leng reach meter) := hD
          refine zz_iinc (lv' := [(5, .int (iI (i + 1))), (0, .ref a0), (1, .ref b0), (2, .int (iI src)), (3, .int (iI dst)), (4, .int (iI r))]) hx hb dX5_hasRoute_28 hl (k := 0) rfl (by decide) rfl (fun ls hl => ?_)
          refine lv_goto (tgt := 3) hx hb dX5_hasRoute_31 (by decide) ?_
          exact ih3 (i + 1) (zU n9 i 1) _ _ _ (by omega) (by first | exact upd_all (P := fun j x => x = if j = src then 1 else 0) i1 (by rw [if_pos c_19]) | exact upd_all (P := fun j x => x = if j = src then 1 else 0) i1 (by rw [if_neg c_19])) (by omega) hP hD hS (lv_sub hl [0, 1, 2, 3, 4, 5] rfl)
  exact L3 _ 0 seen _ _ _ (by omega) (by exact nothing_yet) (Nat.lt_succ_self _) hP hD hS (lv_sub hl [0, 1, 2, 3, 4, 5] rfl)

set_option maxHeartbeats 4000000 in
set_option maxRecDepth 100000 in
theorem c_X5_needByTrial (l : Launch) (D : va_G) (tA : Nat → ClassId) (a0 a1 a2 a3 b0 b1 b2 b3 b4 b5 : Nat) (sz : Nat) (shrt : Int → Int) (grp : Int → Int) (seen : Int → Int) (ports : Int) (legs : Int) (lower : Int → Int) (upper : Int → Int) (leng : Int → Int) (reach : Int → Int) (meter : Int → Int) (src : Int) (dst : Int) (r_src : -2147483648 ≤ src ∧ src ≤ 2147483647) (r_dst : -2147483648 ≤ dst ∧ dst ≤ 2147483647) (hch : ChV ports legs lower upper leng reach) (hsrc : 0 ≤ src ∧ src < ports) (hdst : 0 ≤ dst ∧ dst < ports) (hne : src ≠ dst) : zMi l yX5_needByTrial wsX5_needByTrial ({ frames := 1, cells := 0, slots := 0, locals := 29 }) D tA [.ref a0, .ref b0, .int (iI src), .int (iI dst)] (bRoutes tA a0 a1 a2 a3 shrt grp seen ++ bChart tA b0 b1 b2 b3 b4 b5 ports legs lower upper leng reach meter) sz (fun (z : Int) (u : (Int → Int)) => (needP (eg legs lower upper leng reach) src dst z)) (fun (u : (Int → Int)) => bRoutes tA a0 a1 a2 a3 shrt grp u ++ bChart tA b0 b1 b2 b3 b4 b5 ports legs lower upper leng reach meter) 0 0 := by
  refine zMi_of (cc := cX5_needByTrial) (maxL := 5) (by decide) rfl (fun z u h => rfl) (Nat.le_of_ble_eq_true rfl) ?_
  intro p e s m args below meth c A Q ls hx hb hml hts hown hK hP hD hA hret hl
  obtain ⟨H, hHe⟩ : ∃ H : Heap, H = s.heap := ⟨_, rfl⟩
  have hS : va_S A s.heap H [] := by rw [hHe]; exact va_S.rf
  rw [← hHe] at hP ⊢
  have hl : lv_has ls 5 [(0, .ref a0), (1, .ref b0), (2, .int (iI src)), (3, .int (iI dst))] := hl
  obtain ⟨vp0, vp1, vl0, vl1, -, -⟩ := id hch
  refine zz_iconst hx hb dX5_needByTrial_0 ?_
  refine lv_istore (lv' := [(4, .int (iI 0)), (0, .ref a0), (1, .ref b0), (2, .int (iI src)), (3, .int (iI dst))]) hx hb dX5_needByTrial_1 hl (by decide) rfl (fun ls hl => ?_)
  have L3 : ∀ (n : Nat) (q : Int) (n9 : Int → Int) (H : Heap) (locs : List Loc) (ls : Array Slot), (0 ≤ q ∧ q ≤ 21) → (∀ t, t < q → ¬ cn (eg legs lower upper leng reach t) src dst) → (21 - q).toNat < n → va_P D vwCl (bRoutes tA a0 a1 a2 a3 shrt grp n9 ++ bChart tA b0 b1 b2 b3 b4 b5 ports legs lower upper leng reach meter) H → va_D A (bRoutes tA a0 a1 a2 a3 shrt grp n9 ++ bChart tA b0 b1 b2 b3 b4 b5 ports legs lower upper leng reach meter) → va_S A s.heap H locs → lv_has ls 5 [(4, .int (iI q)), (0, .ref a0), (1, .ref b0), (2, .int (iI src)), (3, .int (iI dst))] → W p l e (headSpec wsX5_needByTrial ({ frames := 1, cells := 0, slots := 0, locals := 29 })).room s m args below meth c H locs 0 0 Q (F0 m 3 ls []) := by
    intro n
    induction n with
    | zero => intro q n9 H locs ls i0 i1 hmz; exact absurd hmz (Nat.not_lt_zero _)
    | succ n ih3 =>
      intro q n9 H locs ls i0 i1 hmz hP hD hS hl
      refine lv_iload hx hb dX5_needByTrial_3 (lv_at hl 0 rfl) ?_
      refine zz_bipush hx hb dX5_needByTrial_5 (by decide) ?_
      refine zz_icmp_gt (tgt := 31) hx hb dX5_needByTrial_7 (by decide) (by omega) (by decide) (fun c_7 => ?_) (fun c_7 => ?_)
      · refine zz_iconst hx hb dX5_needByTrial_31 ?_
        exact hret (-1) n9 _ _ _ _ dX5_needByTrial_32 (show needP (eg legs lower upper leng reach) src dst ((-1) : Int) from by exact Or.inl ⟨rfl, fun t ht => i1 t (by omega)⟩) hP hD hS
      · refine lv_aload_n hx hb dX5_needByTrial_10 rfl (lv_at hl 1 rfl) ?_
        refine lv_aload_n hx hb dX5_needByTrial_11 rfl (lv_at hl 2 rfl) ?_
        refine lv_iload_n hx hb dX5_needByTrial_12 rfl (lv_at hl 3 rfl) ?_
        refine lv_iload_n hx hb dX5_needByTrial_13 rfl (lv_at hl 4 rfl) ?_
        refine lv_iload hx hb dX5_needByTrial_14 (lv_at hl 0 rfl) ?_
        refine zz_callVi (As := [.ref b0, .int (iI src), .int (iI dst), .int (iI q)]) (rest := []) (wf := fun u => bRoutes tA a0 a1 a2 a3 shrt grp u ++ bChart tA b0 b1 b2 b3 b4 b5 ports legs lower upper leng reach meter) ⟨hx, hb, hml, hown, hts⟩ (c_X5_hasRoute l D tA a0 a1 a2 a3 b0 b1 b2 b3 b4 b5 H.size shrt grp n9 ports legs lower upper leng reach meter src dst q (by first | assumption | omega) (by first | assumption | omega) (by first | assumption | omega) (by first | assumption | omega) (by first | assumption | omega) (by first | assumption | omega)) (cwV 4 hts gX5_needByTrial_X5_hasRoute rfl rfl rfl (by decide +kernel) ⟨Nat.le_of_ble_eq_true rfl, Nat.le_of_ble_eq_true rfl⟩) hK hP hD hS hA [0, 1, 2, 3, 4, 5, 6, 7, 8, 9] [] [0, 1, 2, 3, 4, 5, 6, 7, 8, 9] rfl rfl (by decide) (by decide) (by decide) (by decide) (fun _ => rfl) (ci := 7) (q0 := 0) rfl rfl rfl rfl rfl hl.1 (Nat.le_of_ble_eq_true rfl) dX5_needByTrial_16 ⟨Nat.le_of_ble_eq_true rfl, Nat.le_of_ble_eq_true rfl⟩ ?_
        intro z16_2 u H locs p16_3 hP hD hS
        obtain ⟨seen_1, rfl⟩ : ∃ q, q = u := ⟨_, rfl⟩
        have hP : va_P D vwCl (bRoutes tA a0 a1 a2 a3 shrt grp seen_1 ++ bChart tA b0 b1 b2 b3 b4 b5 ports legs lower upper leng reach meter) H := hP
        have hD : va_D A (bRoutes tA a0 a1 a2 a3 shrt grp seen_1 ++ bChart tA b0 b1 b2 b3 b4 b5 ports legs lower upper leng reach meter) := hD
        have q_16 : (z16_2 = 1 ∧ cn (eg legs lower upper leng reach q) src dst) ∨ (z16_2 = 0 ∧ ¬ cn (eg legs lower upper leng reach q) src dst) := p16_3
        refine zz_if_eq (tgt := 25) hx hb dX5_needByTrial_19 (by decide) (by omega) (fun c_19 => ?_) (fun c_19 => ?_)
        · refine zz_iinc (lv' := [(4, .int (iI (q + 1))), (0, .ref a0), (1, .ref b0), (2, .int (iI src)), (3, .int (iI dst))]) hx hb dX5_needByTrial_25 hl (k := 0) rfl (by decide) rfl (fun ls hl => ?_)
          refine lv_goto (tgt := 3) hx hb dX5_needByTrial_28 (by decide) ?_
          exact ih3 (q + 1) seen_1 _ _ _ (by omega) (by exact fun t ht => (Int.lt_or_eq_of_le (show t ≤ q by omega)).elim (fun h => i1 t h) (fun h => by rw [h]; exact q_16.elim (fun g => absurd g.1 (by omega)) (fun g => g.2))) (by omega) hP hD hS (lv_sub hl [0, 1, 2, 3, 4] rfl)
        · refine lv_iload hx hb dX5_needByTrial_22 (lv_at hl 0 rfl) ?_
          exact hret q seen_1 _ _ _ _ dX5_needByTrial_24 (show needP (eg legs lower upper leng reach) src dst q from by exact Or.inr ⟨by omega, by omega, q_16.elim (fun g => g.2) (fun g => absurd g.1 (by omega)), i1⟩) hP hD hS
  exact L3 _ 0 seen _ _ _ (by omega) (by exact fun t ht => cn_low hch hne (by omega)) (Nat.lt_succ_self _) hP hD hS (lv_sub hl [0, 1, 2, 3, 4] rfl)

set_option maxHeartbeats 4000000 in
set_option maxRecDepth 100000 in
theorem c_X5_needByJoining (l : Launch) (D : va_G) (tA : Nat → ClassId) (a0 a1 a2 a3 b0 b1 b2 b3 b4 b5 : Nat) (sz : Nat) (shrt : Int → Int) (grp : Int → Int) (seen : Int → Int) (ports : Int) (legs : Int) (lower : Int → Int) (upper : Int → Int) (leng : Int → Int) (reach : Int → Int) (meter : Int → Int) (src : Int) (dst : Int) (r_src : -2147483648 ≤ src ∧ src ≤ 2147483647) (r_dst : -2147483648 ≤ dst ∧ dst ≤ 2147483647) (hch : ChV ports legs lower upper leng reach) (hsrc : 0 ≤ src ∧ src < ports) (hdst : 0 ≤ dst ∧ dst < ports) (hne : src ≠ dst) : zMi l yX5_needByJoining wsX5_needByJoining ({ frames := 1, cells := 0, slots := 0, locals := 25 }) D tA [.ref a0, .ref b0, .int (iI src), .int (iI dst)] (bRoutes tA a0 a1 a2 a3 shrt grp seen ++ bChart tA b0 b1 b2 b3 b4 b5 ports legs lower upper leng reach meter) sz (fun (z : Int) (u : (Int → Int)) => (needP (eg legs lower upper leng reach) src dst z)) (fun (u : (Int → Int)) => bRoutes tA a0 a1 a2 a3 shrt u seen ++ bChart tA b0 b1 b2 b3 b4 b5 ports legs lower upper leng reach meter) 0 0 := by
  refine zMi_of (cc := cX5_needByJoining) (maxL := 5) (by decide) rfl (fun z u h => rfl) (Nat.le_of_ble_eq_true rfl) ?_
  intro p e s m args below meth c A Q ls hx hb hml hts hown hK hP hD hA hret hl
  obtain ⟨H, hHe⟩ : ∃ H : Heap, H = s.heap := ⟨_, rfl⟩
  have hS : va_S A s.heap H [] := by rw [hHe]; exact va_S.rf
  rw [← hHe] at hP ⊢
  have hl : lv_has ls 5 [(0, .ref a0), (1, .ref b0), (2, .int (iI src)), (3, .int (iI dst))] := hl
  have iX1 : ∀ v ∈ wsX10, v ∈ wsX5_needByJoining := by decide +kernel
  have iX5 : ∀ v ∈ wsX50, v ∈ wsX5_needByJoining := by decide +kernel
  have f_15 := hts (.fieldLink RX5 15 "HarborLights$Routes" "group" "[I") (by decide +kernel)
  have f_40 := hts (.fieldLink RX5 40 "HarborLights$Chart" "legs" "I") (by decide +kernel)
  have f_43 := hts (.fieldLink RX5 43 "HarborLights$Chart" "lower" "[I") (by decide +kernel)
  have f_46 := hts (.fieldLink RX5 46 "HarborLights$Chart" "upper" "[I") (by decide +kernel)
  have f_63 := hts (.fieldLink RX5 63 "HarborLights$Chart" "reach" "[I") (by decide +kernel)
  obtain ⟨vp0, vp1, vl0, vl1, -, -⟩ := id hch
  refine lv_aload_n hx hb dX5_needByJoining_0 rfl (lv_at hl 0 rfl) ?_
  refine zz_callVv (As := []) (rest := []) (wf := fun u => bRoutes tA a0 a1 a2 a3 shrt u seen ++ bChart tA b0 b1 b2 b3 b4 b5 ports legs lower upper leng reach meter) ⟨hx, hb, hml, hown, hts⟩ (c_X5_separate l D tA a0 a1 a2 a3 H.size shrt grp seen) (cwV 0 hts gX5_needByJoining_X5_separate rfl rfl rfl (by decide +kernel) ⟨Nat.le_of_ble_eq_true rfl, Nat.le_of_ble_eq_true rfl⟩) hK hP hD hS hA [0, 1, 2, 3] [4, 5, 6, 7, 8, 9] [6, 7, 8, 9, 0, 1, 2, 3, 4, 5] rfl rfl (by decide) (by decide) (by decide) (by decide) (fun _ => rfl) (ci := 7) (q0 := 0) rfl rfl rfl rfl rfl hl.1 (Nat.le_of_ble_eq_true rfl) dX5_needByJoining_1 ⟨Nat.le_of_ble_eq_true rfl, Nat.le_of_ble_eq_true rfl⟩ ?_
  intro u H locs p1_2 hP hD hS
  obtain ⟨grp_1, rfl⟩ : ∃ q, q = u := ⟨_, rfl⟩
  have hP : va_P D vwCl (bRoutes tA a0 a1 a2 a3 shrt grp_1 seen ++ bChart tA b0 b1 b2 b3 b4 b5 ports legs lower upper leng reach meter) H := hP
  have hD : va_D A (bRoutes tA a0 a1 a2 a3 shrt grp_1 seen ++ bChart tA b0 b1 b2 b3 b4 b5 ports legs lower upper leng reach meter) := hD
  have q_1 : ∀ j, 0 ≤ j → j < 10 → grp_1 j = j := p1_2
  refine zz_iconst hx hb dX5_needByJoining_4 ?_
  refine lv_istore (lv' := [(4, .int (iI 0)), (0, .ref a0), (1, .ref b0), (2, .int (iI src)), (3, .int (iI dst))]) hx hb dX5_needByJoining_5 hl (by decide) rfl (fun ls hl => ?_)
  have L7 : ∀ (n : Nat) (k : Int) (g9 : Int → Int) (H : Heap) (locs : List Loc) (ls : Array Slot), (0 ≤ k ∧ k ≤ legs) → (eqL g9 (eg k lower upper leng reach 20)) → (¬ cn (eg k lower upper leng reach 20) src dst) → (zRn 10 g9) → (legs - k).toNat < n → va_P D vwCl (bRoutes tA a0 a1 a2 a3 shrt g9 seen ++ bChart tA b0 b1 b2 b3 b4 b5 ports legs lower upper leng reach meter) H → va_D A (bRoutes tA a0 a1 a2 a3 shrt g9 seen ++ bChart tA b0 b1 b2 b3 b4 b5 ports legs lower upper leng reach meter) → va_S A s.heap H locs → lv_has ls 5 [(4, .int (iI k)), (0, .ref a0), (1, .ref b0), (2, .int (iI src)), (3, .int (iI dst))] → W p l e (headSpec wsX5_needByJoining ({ frames := 1, cells := 0, slots := 0, locals := 25 })).room s m args below meth c H locs 0 0 Q (F0 m 7 ls []) := by
    intro n
    induction n with
    | zero => intro k g9 H locs ls i0 i1 i2 i3 hmz; exact absurd hmz (Nat.not_lt_zero _)
    | succ n ih7 =>
      intro k g9 H locs ls i0 i1 i2 i3 hmz hP hD hS hl
      refine lv_iload hx hb dX5_needByJoining_7 (lv_at hl 0 rfl) ?_
      refine lv_aload_n hx hb dX5_needByJoining_9 rfl (lv_at hl 2 rfl) ?_
      refine va_get (D := D) (ci := 4) (v := .int (iI legs)) (C := RX1) (T := TX1) (N := 7) hx hb hts iX1 hown hK hP 4 rfl rfl 1 (by decide) f_40 (fun _ h9 => h9) rfl dX5_needByJoining_10 ?_
      refine zz_icmp_ge (tgt := 64) hx hb dX5_needByJoining_13 (by decide) (by omega) (by omega) (fun c_13 => ?_) (fun c_13 => ?_)
      · refine zz_iconst hx hb dX5_needByJoining_64 ?_
        exact hret (-1) g9 _ _ _ _ dX5_needByJoining_65 (show needP (eg legs lower upper leng reach) src dst ((-1) : Int) from by exact need_none (by rw [show k = legs by omega] at i2; exact i2)) hP hD hS
      · refine lv_aload_n hx hb dX5_needByJoining_16 rfl (lv_at hl 1 rfl) ?_
        refine lv_aload_n hx hb dX5_needByJoining_17 rfl (lv_at hl 2 rfl) ?_
        refine va_get (D := D) (ci := 4) (v := .ref b1) (C := RX1) (T := TX1) (N := 7) hx hb hts iX1 hown hK hP 4 rfl rfl 2 (by decide) f_43 (fun _ h9 => h9) rfl dX5_needByJoining_18 ?_
        refine lv_iload hx hb dX5_needByJoining_21 (lv_at hl 0 rfl) ?_
        refine zz_iald hx hb hK hP 5 rfl (by decide) (by omega) dX5_needByJoining_23 ?_
        have r_23 := hch.2.2.2.2.1 k (by omega) (by omega)
        refine lv_aload_n hx hb dX5_needByJoining_24 rfl (lv_at hl 2 rfl) ?_
        refine va_get (D := D) (ci := 4) (v := .ref b2) (C := RX1) (T := TX1) (N := 7) hx hb hts iX1 hown hK hP 4 rfl rfl 3 (by decide) f_46 (fun _ h9 => h9) rfl dX5_needByJoining_25 ?_
        refine lv_iload hx hb dX5_needByJoining_28 (lv_at hl 0 rfl) ?_
        refine zz_iald hx hb hK hP 6 rfl (by decide) (by omega) dX5_needByJoining_30 ?_
        have r_30 := hch.2.2.2.2.1 k (by omega) (by omega)
        refine zz_callVi (As := [.int (iI (lower k)), .int (iI (upper k))]) (rest := []) (wf := fun u => bRoutes tA a0 a1 a2 a3 shrt u seen ++ bChart tA b0 b1 b2 b3 b4 b5 ports legs lower upper leng reach meter) ⟨hx, hb, hml, hown, hts⟩ (c_X5_join l D tA a0 a1 a2 a3 H.size shrt g9 seen (lower k) (upper k) (by first | assumption | omega) (by first | assumption | omega) (by first | assumption | omega) (by first | assumption | omega) i3) (cwV 2 hts gX5_needByJoining_X5_join rfl rfl rfl (by decide +kernel) ⟨Nat.le_of_ble_eq_true rfl, Nat.le_of_ble_eq_true rfl⟩) hK hP hD hS hA [0, 1, 2, 3] [4, 5, 6, 7, 8, 9] [6, 7, 8, 9, 0, 1, 2, 3, 4, 5] rfl rfl (by decide) (by decide) (by decide) (by decide) (fun _ => rfl) (ci := 7) (q0 := 0) rfl rfl rfl rfl rfl hl.1 (Nat.le_of_ble_eq_true rfl) dX5_needByJoining_31 ⟨Nat.le_of_ble_eq_true rfl, Nat.le_of_ble_eq_true rfl⟩ ?_
        intro z31_4 u H locs p31_5 hP hD hS
        obtain ⟨grp_3, rfl⟩ : ∃ q, q = u := ⟨_, rfl⟩
        have hP : va_P D vwCl (bRoutes tA a0 a1 a2 a3 shrt grp_3 seen ++ bChart tA b0 b1 b2 b3 b4 b5 ports legs lower upper leng reach meter) H := hP
        have hD : va_D A (bRoutes tA a0 a1 a2 a3 shrt grp_3 seen ++ bChart tA b0 b1 b2 b3 b4 b5 ports legs lower upper leng reach meter) := hD
        have q0_31 : (z31_4 = 0 ∧ g9 (lower k) = g9 (upper k)) ∨ (z31_4 = 1 ∧ ¬ g9 (lower k) = g9 (upper k)) := p31_5.1
        have q1_31 : ∀ j, 0 ≤ j → j < 10 → grp_3 j = if g9 j = g9 (upper k) then g9 (lower k) else g9 j := p31_5.2
        have i3' : zRn 10 grp_3 := joinR i3 (by omega) q1_31
        have i1' : eqL grp_3 (eg (k + 1) lower upper leng reach 20) := eqL_step (by omega) (by omega) (by omega) (by omega) i1 (fun j j0 j1 _ => by have := hch.2.2.2.2.1 j j0 (by omega); omega) q1_31
        refine lv_pop hx hb dX5_needByJoining_34 rfl ?_
        refine lv_aload_n hx hb dX5_needByJoining_35 rfl (lv_at hl 1 rfl) ?_
        refine va_get (D := D) (ci := 7) (v := .ref a2) (C := RX5) (T := TX5) (N := 3) hx hb hts iX5 hown hK hP 0 rfl rfl 1 (by decide) f_15 (fun _ h9 => h9) rfl dX5_needByJoining_36 ?_
        refine lv_iload_n hx hb dX5_needByJoining_39 rfl (lv_at hl 3 rfl) ?_
        refine zz_iald hx hb hK hP 2 rfl (by decide) (by omega) dX5_needByJoining_40 ?_
        have r_40 := i3' src (by omega) (by omega)
        refine lv_aload_n hx hb dX5_needByJoining_41 rfl (lv_at hl 1 rfl) ?_
        refine va_get (D := D) (ci := 7) (v := .ref a2) (C := RX5) (T := TX5) (N := 3) hx hb hts iX5 hown hK hP 0 rfl rfl 1 (by decide) f_15 (fun _ h9 => h9) rfl dX5_needByJoining_42 ?_
        refine lv_iload_n hx hb dX5_needByJoining_45 rfl (lv_at hl 4 rfl) ?_
        refine zz_iald hx hb hK hP 2 rfl (by decide) (by omega) dX5_needByJoining_46 ?_
        have r_46 := i3' dst (by omega) (by omega)
        refine zz_icmp_ne (tgt := 58) hx hb dX5_needByJoining_47 (by decide) (by omega) (by omega) (fun c_47 => ?_) (fun c_47 => ?_)
        · refine zz_iinc (lv' := [(4, .int (iI (k + 1))), (0, .ref a0), (1, .ref b0), (2, .int (iI src)), (3, .int (iI dst))]) hx hb dX5_needByJoining_58 hl (k := 0) rfl (by decide) rfl (fun ls hl => ?_)
          refine lv_goto (tgt := 7) hx hb dX5_needByJoining_61 (by decide) ?_
          exact ih7 (k + 1) grp_3 _ _ _ (by omega) (by exact i1') (by exact fun h => c_47 ((i1' src dst (by omega) (by omega) (by omega) (by omega)).mpr h)) (by exact i3') (by omega) hP hD hS (lv_sub hl [0, 1, 2, 3, 4] rfl)
        · refine lv_aload_n hx hb dX5_needByJoining_50 rfl (lv_at hl 2 rfl) ?_
          refine va_get (D := D) (ci := 4) (v := .ref b4) (C := RX1) (T := TX1) (N := 7) hx hb hts iX1 hown hK hP 4 rfl rfl 5 (by decide) f_63 (fun _ h9 => h9) rfl dX5_needByJoining_51 ?_
          refine lv_iload hx hb dX5_needByJoining_54 (lv_at hl 0 rfl) ?_
          refine zz_iald hx hb hK hP 8 rfl (by decide) (by omega) dX5_needByJoining_56 ?_
          have r_56 := hch.2.2.2.2.1 k (by omega) (by omega)
          exact hret (reach k) grp_3 _ _ _ _ dX5_needByJoining_57 (show needP (eg legs lower upper leng reach) src dst (reach k) from by exact need_found hch.srt (by omega) (by omega) (by omega) i2 ((i1' src dst (by omega) (by omega) (by omega) (by omega)).mp c_47)) hP hD hS
  exact L7 _ 0 grp_1 _ _ _ (by omega) (by exact eqL_0 q_1) (by exact cn_e0 hne) (by exact sepR q_1) (Nat.lt_succ_self _) hP hD hS (lv_sub hl [0, 1, 2, 3, 4] rfl)

set_option maxHeartbeats 4000000 in
set_option maxRecDepth 100000 in
theorem c_X5_countGroups (l : Launch) (D : va_G) (tA : Nat → ClassId) (a0 a1 a2 a3 b0 b1 b2 b3 b4 b5 : Nat) (sz : Nat) (shrt : Int → Int) (grp : Int → Int) (seen : Int → Int) (ports : Int) (legs : Int) (lower : Int → Int) (upper : Int → Int) (leng : Int → Int) (reach : Int → Int) (meter : Int → Int) (r : Int) (r_r : -2147483648 ≤ r ∧ r ≤ 2147483647) (hch : ChV ports legs lower upper leng reach) : zMi l yX5_countGroups wsX5_countGroups ({ frames := 1, cells := 0, slots := 0, locals := 25 }) D tA [.ref a0, .ref b0, .int (iI r)] (bRoutes tA a0 a1 a2 a3 shrt grp seen ++ bChart tA b0 b1 b2 b3 b4 b5 ports legs lower upper leng reach meter) sz (fun (z : Int) (u : (Int → Int)) => (grpP (eg legs lower upper leng reach r) ports z)) (fun (u : (Int → Int)) => bRoutes tA a0 a1 a2 a3 shrt u seen ++ bChart tA b0 b1 b2 b3 b4 b5 ports legs lower upper leng reach meter) 0 0 := by
  refine zMi_of (cc := cX5_countGroups) (maxL := 5) (by decide) rfl (fun z u h => rfl) (Nat.le_of_ble_eq_true rfl) ?_
  intro p e s m args below meth c A Q ls hx hb hml hts hown hK hP hD hA hret hl
  obtain ⟨H, hHe⟩ : ∃ H : Heap, H = s.heap := ⟨_, rfl⟩
  have hS : va_S A s.heap H [] := by rw [hHe]; exact va_S.rf
  rw [← hHe] at hP ⊢
  have hl : lv_has ls 5 [(0, .ref a0), (1, .ref b0), (2, .int (iI r))] := hl
  have iX1 : ∀ v ∈ wsX10, v ∈ wsX5_countGroups := by decide +kernel
  have f_26 := hts (.fieldLink RX5 26 "HarborLights$Chart" "ports" "I") (by decide +kernel)
  have f_40 := hts (.fieldLink RX5 40 "HarborLights$Chart" "legs" "I") (by decide +kernel)
  have f_43 := hts (.fieldLink RX5 43 "HarborLights$Chart" "lower" "[I") (by decide +kernel)
  have f_46 := hts (.fieldLink RX5 46 "HarborLights$Chart" "upper" "[I") (by decide +kernel)
  have f_63 := hts (.fieldLink RX5 63 "HarborLights$Chart" "reach" "[I") (by decide +kernel)
  obtain ⟨vp0, vp1, vl0, vl1, -, -⟩ := id hch
  refine lv_aload_n hx hb dX5_countGroups_0 rfl (lv_at hl 0 rfl) ?_
  refine zz_callVv (As := []) (rest := []) (wf := fun u => bRoutes tA a0 a1 a2 a3 shrt u seen ++ bChart tA b0 b1 b2 b3 b4 b5 ports legs lower upper leng reach meter) ⟨hx, hb, hml, hown, hts⟩ (c_X5_separate l D tA a0 a1 a2 a3 H.size shrt grp seen) (cwV 0 hts gX5_countGroups_X5_separate rfl rfl rfl (by decide +kernel) ⟨Nat.le_of_ble_eq_true rfl, Nat.le_of_ble_eq_true rfl⟩) hK hP hD hS hA [0, 1, 2, 3] [4, 5, 6, 7, 8, 9] [6, 7, 8, 9, 0, 1, 2, 3, 4, 5] rfl rfl (by decide) (by decide) (by decide) (by decide) (fun _ => rfl) (ci := 7) (q0 := 0) rfl rfl rfl rfl rfl hl.1 (Nat.le_of_ble_eq_true rfl) dX5_countGroups_1 ⟨Nat.le_of_ble_eq_true rfl, Nat.le_of_ble_eq_true rfl⟩ ?_
  intro u H locs p1_2 hP hD hS
  obtain ⟨grp_1, rfl⟩ : ∃ q, q = u := ⟨_, rfl⟩
  have hP : va_P D vwCl (bRoutes tA a0 a1 a2 a3 shrt grp_1 seen ++ bChart tA b0 b1 b2 b3 b4 b5 ports legs lower upper leng reach meter) H := hP
  have hD : va_D A (bRoutes tA a0 a1 a2 a3 shrt grp_1 seen ++ bChart tA b0 b1 b2 b3 b4 b5 ports legs lower upper leng reach meter) := hD
  have q_1 : ∀ j, 0 ≤ j → j < 10 → grp_1 j = j := p1_2
  refine lv_aload_n hx hb dX5_countGroups_4 rfl (lv_at hl 1 rfl) ?_
  refine va_get (D := D) (ci := 4) (v := .int (iI ports)) (C := RX1) (T := TX1) (N := 7) hx hb hts iX1 hown hK hP 4 rfl rfl 0 (by decide) f_26 (fun _ h9 => h9) rfl dX5_countGroups_5 ?_
  refine lv_istore_n (lv' := [(3, .int (iI ports)), (0, .ref a0), (1, .ref b0), (2, .int (iI r))]) hx hb dX5_countGroups_8 rfl hl (by decide) rfl (fun ls hl => ?_)
  refine zz_iconst hx hb dX5_countGroups_9 ?_
  refine lv_istore (lv' := [(4, .int (iI 0)), (3, .int (iI ports)), (0, .ref a0), (1, .ref b0), (2, .int (iI r))]) hx hb dX5_countGroups_10 hl (by decide) rfl (fun ls hl => ?_)
  have L12 : ∀ (n : Nat) (k : Int) (gs : Int) (g9 : Int → Int) (H : Heap) (locs : List Loc) (ls : Array Slot), (0 ≤ k ∧ k ≤ legs) → (eqL g9 (eg k lower upper leng reach r)) → (-100 ≤ gs + k ∧ gs ≤ 10 ∧ ∃ mn, mnL g9 ports mn ∧ gs = sm mn ports.toNat) → (zRn 10 g9) → (legs - k).toNat < n → va_P D vwCl (bRoutes tA a0 a1 a2 a3 shrt g9 seen ++ bChart tA b0 b1 b2 b3 b4 b5 ports legs lower upper leng reach meter) H → va_D A (bRoutes tA a0 a1 a2 a3 shrt g9 seen ++ bChart tA b0 b1 b2 b3 b4 b5 ports legs lower upper leng reach meter) → va_S A s.heap H locs → lv_has ls 5 [(4, .int (iI k)), (3, .int (iI gs)), (0, .ref a0), (1, .ref b0), (2, .int (iI r))] → W p l e (headSpec wsX5_countGroups ({ frames := 1, cells := 0, slots := 0, locals := 25 })).room s m args below meth c H locs 0 0 Q (F0 m 12 ls []) := by
    intro n
    induction n with
    | zero => intro k gs g9 H locs ls i0 i1 i2 i3 hmz; exact absurd hmz (Nat.not_lt_zero _)
    | succ n ih12 =>
      intro k gs g9 H locs ls i0 i1 i2 i3 hmz hP hD hS hl
      refine lv_iload hx hb dX5_countGroups_12 (lv_at hl 0 rfl) ?_
      refine lv_aload_n hx hb dX5_countGroups_14 rfl (lv_at hl 3 rfl) ?_
      refine va_get (D := D) (ci := 4) (v := .int (iI legs)) (C := RX1) (T := TX1) (N := 7) hx hb hts iX1 hown hK hP 4 rfl rfl 1 (by decide) f_40 (fun _ h9 => h9) rfl dX5_countGroups_15 ?_
      refine zz_icmp_ge (tgt := 62) hx hb dX5_countGroups_18 (by decide) (by omega) (by omega) (fun c_18 => ?_) (fun c_18 => ?_)
      · refine lv_iload_n hx hb dX5_countGroups_62 rfl (lv_at hl 1 rfl) ?_
        exact hret gs g9 _ _ _ _ dX5_countGroups_63 (show grpP (eg legs lower upper leng reach r) ports gs from by rw [show k = legs by omega] at i1; obtain ⟨x1, x2, mn, x3, x4⟩ := i2; rw [x4]; exact grp_end vp1 i1 x3) hP hD hS
      · refine lv_aload_n hx hb dX5_countGroups_21 rfl (lv_at hl 3 rfl) ?_
        refine va_get (D := D) (ci := 4) (v := .ref b4) (C := RX1) (T := TX1) (N := 7) hx hb hts iX1 hown hK hP 4 rfl rfl 5 (by decide) f_63 (fun _ h9 => h9) rfl dX5_countGroups_22 ?_
        refine lv_iload hx hb dX5_countGroups_25 (lv_at hl 0 rfl) ?_
        refine zz_iald hx hb hK hP 8 rfl (by decide) (by omega) dX5_countGroups_27 ?_
        have r_27 := hch.2.2.2.2.1 k (by omega) (by omega)
        refine lv_iload_n hx hb dX5_countGroups_28 rfl (lv_at hl 4 rfl) ?_
        refine zz_icmp_gt (tgt := 56) hx hb dX5_countGroups_29 (by decide) (by omega) (by omega) (fun c_29 => ?_) (fun c_29 => ?_)
        · refine zz_iinc (lv' := [(4, .int (iI (k + 1))), (3, .int (iI gs)), (0, .ref a0), (1, .ref b0), (2, .int (iI r))]) hx hb dX5_countGroups_56 hl (k := 0) rfl (by decide) rfl (fun ls hl => ?_)
          refine lv_goto (tgt := 12) hx hb dX5_countGroups_59 (by decide) ?_
          exact ih12 (k + 1) gs g9 _ _ _ (by omega) (by first | exact i1' | exact eqL_skip (by omega) i1) (by first | exact ⟨by omega, by omega, i2.2.2⟩ | exact (by obtain ⟨x1, x2, mn, x3, x4⟩ := i2; first | exact ⟨by omega, by omega, mn, mnL_same vp1 (by omega) q1_47 x3, x4⟩ | exact (by obtain ⟨mn2, y1, y2⟩ := mnL_join vp1 (by omega) (by omega) (by omega) q1_47 x3; exact ⟨by omega, by omega, mn2, y1, by omega⟩))) (by first | exact i3' | exact i3) (by omega) hP hD hS (lv_sub hl [0, 1, 2, 3, 4] rfl)
        · refine lv_aload_n hx hb dX5_countGroups_32 rfl (lv_at hl 2 rfl) ?_
          refine lv_aload_n hx hb dX5_countGroups_33 rfl (lv_at hl 3 rfl) ?_
          refine va_get (D := D) (ci := 4) (v := .ref b1) (C := RX1) (T := TX1) (N := 7) hx hb hts iX1 hown hK hP 4 rfl rfl 2 (by decide) f_43 (fun _ h9 => h9) rfl dX5_countGroups_34 ?_
          refine lv_iload hx hb dX5_countGroups_37 (lv_at hl 0 rfl) ?_
          refine zz_iald hx hb hK hP 5 rfl (by decide) (by omega) dX5_countGroups_39 ?_
          have r_39 := hch.2.2.2.2.1 k (by omega) (by omega)
          refine lv_aload_n hx hb dX5_countGroups_40 rfl (lv_at hl 3 rfl) ?_
          refine va_get (D := D) (ci := 4) (v := .ref b2) (C := RX1) (T := TX1) (N := 7) hx hb hts iX1 hown hK hP 4 rfl rfl 3 (by decide) f_46 (fun _ h9 => h9) rfl dX5_countGroups_41 ?_
          refine lv_iload hx hb dX5_countGroups_44 (lv_at hl 0 rfl) ?_
          refine zz_iald hx hb hK hP 6 rfl (by decide) (by omega) dX5_countGroups_46 ?_
          have r_46 := hch.2.2.2.2.1 k (by omega) (by omega)
          refine zz_callVi (As := [.int (iI (lower k)), .int (iI (upper k))]) (rest := []) (wf := fun u => bRoutes tA a0 a1 a2 a3 shrt u seen ++ bChart tA b0 b1 b2 b3 b4 b5 ports legs lower upper leng reach meter) ⟨hx, hb, hml, hown, hts⟩ (c_X5_join l D tA a0 a1 a2 a3 H.size shrt g9 seen (lower k) (upper k) (by first | assumption | omega) (by first | assumption | omega) (by first | assumption | omega) (by first | assumption | omega) i3) (cwV 2 hts gX5_countGroups_X5_join rfl rfl rfl (by decide +kernel) ⟨Nat.le_of_ble_eq_true rfl, Nat.le_of_ble_eq_true rfl⟩) hK hP hD hS hA [0, 1, 2, 3] [4, 5, 6, 7, 8, 9] [6, 7, 8, 9, 0, 1, 2, 3, 4, 5] rfl rfl (by decide) (by decide) (by decide) (by decide) (fun _ => rfl) (ci := 7) (q0 := 0) rfl rfl rfl rfl rfl hl.1 (Nat.le_of_ble_eq_true rfl) dX5_countGroups_47 ⟨Nat.le_of_ble_eq_true rfl, Nat.le_of_ble_eq_true rfl⟩ ?_
          intro z47_4 u H locs p47_5 hP hD hS
          obtain ⟨grp_3, rfl⟩ : ∃ q, q = u := ⟨_, rfl⟩
          have hP : va_P D vwCl (bRoutes tA a0 a1 a2 a3 shrt grp_3 seen ++ bChart tA b0 b1 b2 b3 b4 b5 ports legs lower upper leng reach meter) H := hP
          have hD : va_D A (bRoutes tA a0 a1 a2 a3 shrt grp_3 seen ++ bChart tA b0 b1 b2 b3 b4 b5 ports legs lower upper leng reach meter) := hD
          have q0_47 : (z47_4 = 0 ∧ g9 (lower k) = g9 (upper k)) ∨ (z47_4 = 1 ∧ ¬ g9 (lower k) = g9 (upper k)) := p47_5.1
          have q1_47 : ∀ j, 0 ≤ j → j < 10 → grp_3 j = if g9 j = g9 (upper k) then g9 (lower k) else g9 j := p47_5.2
          have i3' : zRn 10 grp_3 := joinR i3 (by omega) q1_47
          have i1' : eqL grp_3 (eg (k + 1) lower upper leng reach r) := eqL_step (by omega) (by omega) (by omega) (by omega) i1 (fun j j0 j1 _ => by have := hch.2.2.2.2.1 j j0 (by omega); omega) q1_47
          refine zz_if_eq (tgt := 56) hx hb dX5_countGroups_50 (by decide) (by omega) (fun c_50 => ?_) (fun c_50 => ?_)
          · refine zz_iinc (lv' := [(4, .int (iI (k + 1))), (3, .int (iI gs)), (0, .ref a0), (1, .ref b0), (2, .int (iI r))]) hx hb dX5_countGroups_56 hl (k := 0) rfl (by decide) rfl (fun ls hl => ?_)
            refine lv_goto (tgt := 12) hx hb dX5_countGroups_59 (by decide) ?_
            exact ih12 (k + 1) gs grp_3 _ _ _ (by omega) (by first | exact i1' | exact eqL_skip (by omega) i1) (by first | exact ⟨by omega, by omega, i2.2.2⟩ | exact (by obtain ⟨x1, x2, mn, x3, x4⟩ := i2; first | exact ⟨by omega, by omega, mn, mnL_same vp1 (by omega) q1_47 x3, x4⟩ | exact (by obtain ⟨mn2, y1, y2⟩ := mnL_join vp1 (by omega) (by omega) (by omega) q1_47 x3; exact ⟨by omega, by omega, mn2, y1, by omega⟩))) (by first | exact i3' | exact i3) (by omega) hP hD hS (lv_sub hl [0, 1, 2, 3, 4] rfl)
          · refine zz_iinc (lv' := [(3, .int (iI (gs + (-1)))), (4, .int (iI k)), (0, .ref a0), (1, .ref b0), (2, .int (iI r))]) hx hb dX5_countGroups_53 hl (k := 1) rfl (by decide) rfl (fun ls hl => ?_)
            refine zz_iinc (lv' := [(4, .int (iI (k + 1))), (3, .int (iI (gs + (-1)))), (0, .ref a0), (1, .ref b0), (2, .int (iI r))]) hx hb dX5_countGroups_56 hl (k := 1) rfl (by decide) rfl (fun ls hl => ?_)
            refine lv_goto (tgt := 12) hx hb dX5_countGroups_59 (by decide) ?_
            exact ih12 (k + 1) (gs + (-1)) grp_3 _ _ _ (by omega) (by first | exact i1' | exact eqL_skip (by omega) i1) (by first | exact ⟨by omega, by omega, i2.2.2⟩ | exact (by obtain ⟨x1, x2, mn, x3, x4⟩ := i2; first | exact ⟨by omega, by omega, mn, mnL_same vp1 (by omega) q1_47 x3, x4⟩ | exact (by obtain ⟨mn2, y1, y2⟩ := mnL_join vp1 (by omega) (by omega) (by omega) q1_47 x3; exact ⟨by omega, by omega, mn2, y1, by omega⟩))) (by first | exact i3' | exact i3) (by omega) hP hD hS (lv_sub hl [0, 1, 2, 3, 4] rfl)
  exact L12 _ 0 ports grp_1 _ _ _ (by omega) (by exact eqL_0 q_1) (by exact ⟨by omega, by omega, fun _ => 1, mnL_0 vp1 q_1, by rw [sm_one]; omega⟩) (by exact sepR q_1) (Nat.lt_succ_self _) hP hD hS (lv_sub hl [0, 1, 2, 3, 4] rfl)
