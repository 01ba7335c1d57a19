/-! ===== HarborLights.Script ===== -/
set_option maxHeartbeats 4000000 in
set_option maxRecDepth 100000 in
theorem c_X6_isFull (l : Launch) (K : Nat → Nat) (D : va_G) (tA : Nat → ClassId) (a0 a1 a2 : Nat) (sz : Nat) (pos : Int) (cmd : Int) (vals : Int → Int) (txt : Int → Int) (len : Int) (hln : 0 ≤ len ∧ len ≤ 60) : zMi l yX6_isFull wsX6_isFull ({ frames := 0, cells := 0, slots := 0, locals := 0 }) D tA [.ref a0] (bScript tA K a0 a1 a2 pos cmd vals txt len) sz (fun (z : Int) (u : Unit) => ((z = 1 ∧ 60 ≤ len) ∨ (z = 0 ∧ len < 60))) (fun (u : Unit) => bScript tA K a0 a1 a2 pos cmd vals txt len) 0 0 := by
  refine zMi_of (cc := cX6_isFull) (maxL := 1) (by decide) rfl (fun z u h => zbool z (by omega)) (Nat.le_of_ble_eq_true rfl) ?_
  intro p e s m args below meth c A Q ls hx hb hml hts hown hK hP hD hA hret hl
  obtain ⟨H, hHe⟩ : ∃ H : Heap, H = s.heap := ⟨_, rfl⟩
  have hS : va_S A s.heap H [] := by rw [hHe]; exact va_S.rf
  rw [← hHe] at hP ⊢
  have hl : lv_has ls 1 [(0, .ref a0)] := hl
  have iX6 : ∀ v ∈ wsX60, v ∈ wsX6_isFull := by decide +kernel
  have f_28 := hts (.fieldLink RX6 28 "HarborLights$Script" "length" "I") (by decide +kernel)
  refine lv_aload_n hx hb dX6_isFull_0 rfl (lv_at hl 0 rfl) ?_
  refine va_get (D := D) (ci := 8) (v := .int (iI len)) (C := RX6) (T := TX6) (N := 5) hx hb hts iX6 hown hK hP 0 rfl rfl 4 (by decide) f_28 (fun _ h9 => h9) rfl dX6_isFull_1 ?_
  refine zz_bipush hx hb dX6_isFull_4 (by decide) ?_
  refine zz_icmp_lt (tgt := 13) hx hb dX6_isFull_6 (by decide) (by omega) (by decide) (fun c_6 => ?_) (fun c_6 => ?_)
  · refine zz_iconst hx hb dX6_isFull_13 ?_
    exact hret 0 () _ _ _ _ dX6_isFull_14 (show ((0 : Int) = 1 ∧ 60 ≤ len) ∨ ((0 : Int) = 0 ∧ len < 60) from by omega) hP hD hS
  · refine zz_iconst hx hb dX6_isFull_9 ?_
    refine lv_goto (tgt := 14) hx hb dX6_isFull_10 (by decide) ?_
    exact hret 1 () _ _ _ _ dX6_isFull_14 (show ((1 : Int) = 1 ∧ 60 ≤ len) ∨ ((1 : Int) = 0 ∧ len < 60) from by omega) hP hD hS

set_option maxHeartbeats 4000000 in
set_option maxRecDepth 100000 in
theorem c_X6_append (l : Launch) (K : Nat → Nat) (D : va_G) (tA : Nat → ClassId) (a0 a1 a2 : Nat) (sz : Nat) (pos : Int) (cmd : Int) (vals : Int → Int) (txt : Int → Int) (len : Int) (ch : Int) (r_ch : -2147483648 ≤ ch ∧ ch ≤ 2147483647) (hln : 0 ≤ len ∧ len < 60) (hch : 32 ≤ ch ∧ ch ≤ 126) : zMi l yX6_append wsX6_append ({ frames := 1, cells := 0, slots := 0, locals := 20 }) D tA [.ref a0, .int (iI ch)] (bScript tA K a0 a1 a2 pos cmd vals txt len) sz (fun (z : Int) (u : Unit) => (z = len + 1)) (fun (u : Unit) => bScript tA K a0 a1 a2 pos cmd vals (zU txt len ch) (len + 1)) 0 0 := by
  refine zMi_of (cc := cX6_append) (maxL := 2) (by decide) rfl (fun z u h => rfl) (Nat.le_of_ble_eq_true rfl) ?_
  intro p e s m args below meth c A Q ls hx hb hml hts hown hK hP hD hA hret hl
  obtain ⟨H, hHe⟩ : ∃ H : Heap, H = s.heap := ⟨_, rfl⟩
  have hS : va_S A s.heap H [] := by rw [hHe]; exact va_S.rf
  rw [← hHe] at hP ⊢
  have hl : lv_has ls 2 [(0, .ref a0), (1, .int (iI ch))] := hl
  have iX6 : ∀ v ∈ wsX60, v ∈ wsX6_append := by decide +kernel
  have f_24 := hts (.fieldLink RX6 24 "HarborLights$Script" "text" "[C") (by decide +kernel)
  have f_28 := hts (.fieldLink RX6 28 "HarborLights$Script" "length" "I") (by decide +kernel)
  refine lv_aload_n hx hb dX6_append_0 rfl (lv_at hl 0 rfl) ?_
  refine zz_callVi (As := []) (rest := []) (wf := fun u => bScript tA K a0 a1 a2 pos cmd vals txt len) ⟨hx, hb, hml, hown, hts⟩ (c_X6_isFull l K D tA a0 a1 a2 H.size pos cmd vals txt len (by first | assumption | omega)) (cwV 0 hts gX6_append_X6_isFull rfl rfl rfl (by decide +kernel) ⟨Nat.le_of_ble_eq_true rfl, Nat.le_of_ble_eq_true rfl⟩) hK hP hD hS hA [0, 1, 2] [] [0, 1, 2] rfl rfl (by decide) (by decide) (by decide) (by decide) (fun _ => rfl) (ci := 8) (q0 := 0) rfl rfl rfl rfl rfl hl.1 (Nat.le_of_ble_eq_true rfl) dX6_append_1 ⟨Nat.le_of_ble_eq_true rfl, Nat.le_of_ble_eq_true rfl⟩ ?_
  intro z1_1 u H locs p1_2 hP hD hS
  have hP : va_P D vwCl (bScript tA K a0 a1 a2 pos cmd vals txt len) H := hP
  have hD : va_D A (bScript tA K a0 a1 a2 pos cmd vals txt len) := hD
  have q_1 : (z1_1 = 1 ∧ 60 ≤ len) ∨ (z1_1 = 0 ∧ len < 60) := p1_2
  refine zz_if_ne (tgt := 27) hx hb dX6_append_4 (by decide) (by omega) (fun c_4 => ?_) (fun c_4 => ?_)
  · exact absurd c_4 (by omega)
  · refine lv_aload_n hx hb dX6_append_7 rfl (lv_at hl 0 rfl) ?_
    refine va_get (D := D) (ci := 8) (v := .ref a2) (C := RX6) (T := TX6) (N := 5) hx hb hts iX6 hown hK hP 0 rfl rfl 3 (by decide) f_24 (fun _ h9 => h9) rfl dX6_append_8 ?_
    refine lv_aload_n hx hb dX6_append_11 rfl (lv_at hl 0 rfl) ?_
    refine va_get (D := D) (ci := 8) (v := .int (iI len)) (C := RX6) (T := TX6) (N := 5) hx hb hts iX6 hown hK hP 0 rfl rfl 4 (by decide) f_28 (fun _ h9 => h9) rfl dX6_append_12 ?_
    refine lv_iload_n hx hb dX6_append_15 rfl (lv_at hl 1 rfl) ?_
    refine zz_cast hx hb hK hP hD hS 2 rfl (by decide) (by omega) (by omega) dX6_append_16 (fun H locs hP hD hS => ?_)
    have hP : va_P D vwCl (bScript tA K a0 a1 a2 pos cmd vals (zU txt len ch) len) H := hP
    have hD : va_D A (bScript tA K a0 a1 a2 pos cmd vals (zU txt len ch) len) := hD
    refine lv_aload_n hx hb dX6_append_17 rfl (lv_at hl 0 rfl) ?_
    refine lv_dup hx hb dX6_append_18 rfl ?_
    refine va_get (D := D) (ci := 8) (v := .int (iI len)) (C := RX6) (T := TX6) (N := 5) hx hb hts iX6 hown hK hP 0 rfl rfl 4 (by decide) f_28 (fun _ h9 => h9) rfl dX6_append_19 ?_
    refine zz_iconst hx hb dX6_append_22 ?_
    refine zz_iadd hx hb dX6_append_23 ?_
    refine va_put (D := D) (ci := 8) (v := .int (iI (len + 1))) (ty := .int) (C := RX6) (T := TX6) (N := 5) hx hb hts iX6 tyX6 tyX6_ok nmX6 hown hK hP hD hS 0 rfl rfl 4 (by decide) f_28 (fun _ h9 => h9) rfl (by decide +kernel) rfl rfl (Nat.le_of_ble_eq_true rfl) dX6_append_24 (fun H locs hP hD hS => ?_)
    have hP : va_P D vwCl (bScript tA K a0 a1 a2 pos cmd vals (zU txt len ch) (len + 1)) H := hP
    have hD : va_D A (bScript tA K a0 a1 a2 pos cmd vals (zU txt len ch) (len + 1)) := hD
    refine lv_aload_n hx hb dX6_append_27 rfl (lv_at hl 0 rfl) ?_
    refine va_get (D := D) (ci := 8) (v := .int (iI (len + 1))) (C := RX6) (T := TX6) (N := 5) hx hb hts iX6 hown hK hP 0 rfl rfl 4 (by decide) f_28 (fun _ h9 => h9) rfl dX6_append_28 ?_
    exact hret (len + 1) () _ _ _ _ dX6_append_31 (show (len + 1) = len + 1 from by rfl) hP hD hS

set_option maxHeartbeats 4000000 in
set_option maxRecDepth 100000 in
theorem c_X6_clear (l : Launch) (K : Nat → Nat) (D : va_G) (tA : Nat → ClassId) (a0 a1 a2 : Nat) (sz : Nat) (pos : Int) (cmd : Int) (vals : Int → Int) (txt : Int → Int) (len : Int) : zMv l yX6_clear wsX6_clear ({ frames := 0, cells := 0, slots := 0, locals := 0 }) D tA [.ref a0] (bScript tA K a0 a1 a2 pos cmd vals txt len) sz (fun (u : Unit) => True) (fun (u : Unit) => bScript tA K a0 a1 a2 pos cmd vals txt 0) 0 0 := by
  refine zMv_of (cc := cX6_clear) (maxL := 1) (by decide) rfl (Nat.le_of_ble_eq_true rfl) ?_
  intro p e s m args below meth c A Q ls hx hb hml hts hown hK hP hD hA hret hl
  obtain ⟨H, hHe⟩ : ∃ H : Heap, H = s.heap := ⟨_, rfl⟩
  have hS : va_S A s.heap H [] := by rw [hHe]; exact va_S.rf
  rw [← hHe] at hP ⊢
  have hl : lv_has ls 1 [(0, .ref a0)] := hl
  have iX6 : ∀ v ∈ wsX60, v ∈ wsX6_clear := by decide +kernel
  have f_28 := hts (.fieldLink RX6 28 "HarborLights$Script" "length" "I") (by decide +kernel)
  refine lv_aload_n hx hb dX6_clear_0 rfl (lv_at hl 0 rfl) ?_
  refine zz_iconst hx hb dX6_clear_1 ?_
  refine va_put (D := D) (ci := 8) (v := .int (iI 0)) (ty := .int) (C := RX6) (T := TX6) (N := 5) hx hb hts iX6 tyX6 tyX6_ok nmX6 hown hK hP hD hS 0 rfl rfl 4 (by decide) f_28 (fun _ h9 => h9) rfl (by decide +kernel) rfl rfl (Nat.le_of_ble_eq_true rfl) dX6_clear_2 (fun H locs hP hD hS => ?_)
  have hP : va_P D vwCl (bScript tA K a0 a1 a2 pos cmd vals txt 0) H := hP
  have hD : va_D A (bScript tA K a0 a1 a2 pos cmd vals txt 0) := hD
  exact hret () _ _ _ _ dX6_clear_5 True.intro hP hD hS

set_option maxHeartbeats 4000000 in
set_option maxRecDepth 100000 in
theorem c_X6_rewind (l : Launch) (K : Nat → Nat) (D : va_G) (tA : Nat → ClassId) (a0 a1 a2 : Nat) (sz : Nat) (pos : Int) (cmd : Int) (vals : Int → Int) (txt : Int → Int) (len : Int) : zMv l yX6_rewind wsX6_rewind ({ frames := 0, cells := 0, slots := 0, locals := 0 }) D tA [.ref a0] (bScript tA K a0 a1 a2 pos cmd vals txt len) sz (fun (u : Unit) => True) (fun (u : Unit) => bScript tA K a0 a1 a2 0 cmd vals txt len) 0 0 := by
  refine zMv_of (cc := cX6_rewind) (maxL := 1) (by decide) rfl (Nat.le_of_ble_eq_true rfl) ?_
  intro p e s m args below meth c A Q ls hx hb hml hts hown hK hP hD hA hret hl
  obtain ⟨H, hHe⟩ : ∃ H : Heap, H = s.heap := ⟨_, rfl⟩
  have hS : va_S A s.heap H [] := by rw [hHe]; exact va_S.rf
  rw [← hHe] at hP ⊢
  have hl : lv_has ls 1 [(0, .ref a0)] := hl
  have iX6 : ∀ v ∈ wsX60, v ∈ wsX6_rewind := by decide +kernel
  have f_36 := hts (.fieldLink RX6 36 "HarborLights$Script" "position" "I") (by decide +kernel)
  refine lv_aload_n hx hb dX6_rewind_0 rfl (lv_at hl 0 rfl) ?_
  refine zz_iconst hx hb dX6_rewind_1 ?_
  refine va_put (D := D) (ci := 8) (v := .int (iI 0)) (ty := .int) (C := RX6) (T := TX6) (N := 5) hx hb hts iX6 tyX6 tyX6_ok nmX6 hown hK hP hD hS 0 rfl rfl 0 (by decide) f_36 (fun _ h9 => h9) rfl (by decide +kernel) rfl rfl (Nat.le_of_ble_eq_true rfl) dX6_rewind_2 (fun H locs hP hD hS => ?_)
  have hP : va_P D vwCl (bScript tA K a0 a1 a2 0 cmd vals txt len) H := hP
  have hD : va_D A (bScript tA K a0 a1 a2 0 cmd vals txt len) := hD
  exact hret () _ _ _ _ dX6_rewind_5 True.intro hP hD hS

set_option maxHeartbeats 4000000 in
set_option maxRecDepth 100000 in
theorem c_X6_isDigit (l : Launch) (D : va_G) (tA : Nat → ClassId) (sz : Nat) (ch : Int) (r_ch : -2147483648 ≤ ch ∧ ch ≤ 2147483647) : zMi l yX6_isDigit wsX6_isDigit ({ frames := 0, cells := 0, slots := 0, locals := 0 }) D tA [.int (iI ch)] ([]) sz (fun (z : Int) (u : Unit) => ((z = 1 ∧ 48 ≤ ch ∧ ch ≤ 57) ∨ (z = 0 ∧ ¬ (48 ≤ ch ∧ ch ≤ 57)))) (fun (u : Unit) => []) 0 0 := by
  refine zMi_of (cc := cX6_isDigit) (maxL := 1) (by decide) rfl (fun z u h => zbool z (by omega)) (Nat.le_of_ble_eq_true rfl) ?_
  intro p e s m args below meth c A Q ls hx hb hml hts hown hK hP hD hA hret hl
  obtain ⟨H, hHe⟩ : ∃ H : Heap, H = s.heap := ⟨_, rfl⟩
  have hS : va_S A s.heap H [] := by rw [hHe]; exact va_S.rf
  rw [← hHe] at hP ⊢
  have hl : lv_has ls 1 [(0, .int (iI ch))] := hl
  refine lv_iload_n hx hb dX6_isDigit_0 rfl (lv_at hl 0 rfl) ?_
  refine zz_bipush hx hb dX6_isDigit_1 (by decide) ?_
  refine zz_icmp_lt (tgt := 16) hx hb dX6_isDigit_3 (by decide) (by omega) (by decide) (fun c_3 => ?_) (fun c_3 => ?_)
  · refine zz_iconst hx hb dX6_isDigit_16 ?_
    exact hret 0 () _ _ _ _ dX6_isDigit_17 (show ((0 : Int) = 1 ∧ 48 ≤ ch ∧ ch ≤ 57) ∨ ((0 : Int) = 0 ∧ ¬ (48 ≤ ch ∧ ch ≤ 57)) from by omega) hP hD hS
  · refine lv_iload_n hx hb dX6_isDigit_6 rfl (lv_at hl 0 rfl) ?_
    refine zz_bipush hx hb dX6_isDigit_7 (by decide) ?_
    refine zz_icmp_gt (tgt := 16) hx hb dX6_isDigit_9 (by decide) (by omega) (by decide) (fun c_9 => ?_) (fun c_9 => ?_)
    · refine zz_iconst hx hb dX6_isDigit_16 ?_
      exact hret 0 () _ _ _ _ dX6_isDigit_17 (show ((0 : Int) = 1 ∧ 48 ≤ ch ∧ ch ≤ 57) ∨ ((0 : Int) = 0 ∧ ¬ (48 ≤ ch ∧ ch ≤ 57)) from by omega) hP hD hS
    · refine zz_iconst hx hb dX6_isDigit_12 ?_
      refine lv_goto (tgt := 17) hx hb dX6_isDigit_13 (by decide) ?_
      exact hret 1 () _ _ _ _ dX6_isDigit_17 (show ((1 : Int) = 1 ∧ 48 ≤ ch ∧ ch ≤ 57) ∨ ((1 : Int) = 0 ∧ ¬ (48 ≤ ch ∧ ch ≤ 57)) from by omega) hP hD hS

set_option maxHeartbeats 4000000 in
set_option maxRecDepth 100000 in
theorem c_X6_take (l : Launch) (K : Nat → Nat) (D : va_G) (tA : Nat → ClassId) (a0 a1 a2 : Nat) (sz : Nat) (pos : Int) (cmd : Int) (vals : Int → Int) (txt : Int → Int) (len : Int) (ch : Int) (r_ch : -2147483648 ≤ ch ∧ ch ≤ 2147483647) (hln : 0 ≤ len ∧ len ≤ 60) (htx : ∀ j, 0 ≤ j → j < len → 0 ≤ txt j ∧ txt j ≤ 65535) (hps : 0 ≤ pos ∧ pos ≤ len) : zMi l yX6_take wsX6_take ({ frames := 0, cells := 0, slots := 0, locals := 0 }) D tA [.ref a0, .int (iI ch)] (bScript tA K a0 a1 a2 pos cmd vals txt len) sz (fun (z : Int) (u : (Int)) => ((z = 1 ∧ pos < len ∧ txt pos = ch ∧ u = pos + 1) ∨ (z = 0 ∧ ¬ (pos < len ∧ txt pos = ch) ∧ u = pos))) (fun (u : (Int)) => bScript tA K a0 a1 a2 u cmd vals txt len) 0 0 := by
  refine zMi_of (cc := cX6_take) (maxL := 2) (by decide) rfl (fun z u h => zbool z (by omega)) (Nat.le_of_ble_eq_true rfl) ?_
  intro p e s m args below meth c A Q ls hx hb hml hts hown hK hP hD hA hret hl
  obtain ⟨H, hHe⟩ : ∃ H : Heap, H = s.heap := ⟨_, rfl⟩
  have hS : va_S A s.heap H [] := by rw [hHe]; exact va_S.rf
  rw [← hHe] at hP ⊢
  have hl : lv_has ls 2 [(0, .ref a0), (1, .int (iI ch))] := hl
  have iX6 : ∀ v ∈ wsX60, v ∈ wsX6_take := by decide +kernel
  have f_24 := hts (.fieldLink RX6 24 "HarborLights$Script" "text" "[C") (by decide +kernel)
  have f_28 := hts (.fieldLink RX6 28 "HarborLights$Script" "length" "I") (by decide +kernel)
  have f_36 := hts (.fieldLink RX6 36 "HarborLights$Script" "position" "I") (by decide +kernel)
  refine lv_aload_n hx hb dX6_take_0 rfl (lv_at hl 0 rfl) ?_
  refine va_get (D := D) (ci := 8) (v := .int (iI pos)) (C := RX6) (T := TX6) (N := 5) hx hb hts iX6 hown hK hP 0 rfl rfl 0 (by decide) f_36 (fun _ h9 => h9) rfl dX6_take_1 ?_
  refine lv_aload_n hx hb dX6_take_4 rfl (lv_at hl 0 rfl) ?_
  refine va_get (D := D) (ci := 8) (v := .int (iI len)) (C := RX6) (T := TX6) (N := 5) hx hb hts iX6 hown hK hP 0 rfl rfl 4 (by decide) f_28 (fun _ h9 => h9) rfl dX6_take_5 ?_
  refine zz_icmp_ge (tgt := 24) hx hb dX6_take_8 (by decide) (by omega) (by omega) (fun c_8 => ?_) (fun c_8 => ?_)
  · refine zz_iconst hx hb dX6_take_24 ?_
    exact hret 0 pos _ _ _ _ dX6_take_25 (show ((0 : Int) = 1 ∧ pos < len ∧ txt pos = ch ∧ pos = pos + 1) ∨ ((0 : Int) = 0 ∧ ¬ (pos < len ∧ txt pos = ch) ∧ pos = pos) from by omega) hP hD hS
  · refine lv_aload_n hx hb dX6_take_11 rfl (lv_at hl 0 rfl) ?_
    refine va_get (D := D) (ci := 8) (v := .ref a2) (C := RX6) (T := TX6) (N := 5) hx hb hts iX6 hown hK hP 0 rfl rfl 3 (by decide) f_24 (fun _ h9 => h9) rfl dX6_take_12 ?_
    refine lv_aload_n hx hb dX6_take_15 rfl (lv_at hl 0 rfl) ?_
    refine va_get (D := D) (ci := 8) (v := .int (iI pos)) (C := RX6) (T := TX6) (N := 5) hx hb hts iX6 hown hK hP 0 rfl rfl 0 (by decide) f_36 (fun _ h9 => h9) rfl dX6_take_16 ?_
    refine zz_cald hx hb hK hP 2 rfl (by decide) (by omega) dX6_take_19 ?_
    have r_19 := htx pos (by omega) (by omega)
    refine lv_iload_n hx hb dX6_take_20 rfl (lv_at hl 1 rfl) ?_
    refine zz_icmp_eq (tgt := 26) hx hb dX6_take_21 (by decide) (by omega) (by omega) (fun c_21 => ?_) (fun c_21 => ?_)
    · refine lv_aload_n hx hb dX6_take_26 rfl (lv_at hl 0 rfl) ?_
      refine lv_dup hx hb dX6_take_27 rfl ?_
      refine va_get (D := D) (ci := 8) (v := .int (iI pos)) (C := RX6) (T := TX6) (N := 5) hx hb hts iX6 hown hK hP 0 rfl rfl 0 (by decide) f_36 (fun _ h9 => h9) rfl dX6_take_28 ?_
      refine zz_iconst hx hb dX6_take_31 ?_
      refine zz_iadd hx hb dX6_take_32 ?_
      refine va_put (D := D) (ci := 8) (v := .int (iI (pos + 1))) (ty := .int) (C := RX6) (T := TX6) (N := 5) hx hb hts iX6 tyX6 tyX6_ok nmX6 hown hK hP hD hS 0 rfl rfl 0 (by decide) f_36 (fun _ h9 => h9) rfl (by decide +kernel) rfl rfl (Nat.le_of_ble_eq_true rfl) dX6_take_33 (fun H locs hP hD hS => ?_)
      have hP : va_P D vwCl (bScript tA K a0 a1 a2 (pos + 1) cmd vals txt len) H := hP
      have hD : va_D A (bScript tA K a0 a1 a2 (pos + 1) cmd vals txt len) := hD
      refine zz_iconst hx hb dX6_take_36 ?_
      exact hret 1 (pos + 1) _ _ _ _ dX6_take_37 (show ((1 : Int) = 1 ∧ pos < len ∧ txt pos = ch ∧ (pos + 1) = pos + 1) ∨ ((1 : Int) = 0 ∧ ¬ (pos < len ∧ txt pos = ch) ∧ (pos + 1) = pos) from by omega) hP hD hS
    · refine zz_iconst hx hb dX6_take_24 ?_
      exact hret 0 pos _ _ _ _ dX6_take_25 (show ((0 : Int) = 1 ∧ pos < len ∧ txt pos = ch ∧ pos = pos + 1) ∨ ((0 : Int) = 0 ∧ ¬ (pos < len ∧ txt pos = ch) ∧ pos = pos) from by omega) hP hD hS

set_option maxHeartbeats 4000000 in
set_option maxRecDepth 100000 in
theorem c_X6_countMatching (l : Launch) (K : Nat → Nat) (D : va_G) (tA : Nat → ClassId) (a0 a1 a2 : Nat) (sz : Nat) (pos : Int) (cmd : Int) (vals : Int → Int) (txt : Int → Int) (len : Int) (si : Nat) (hsi : si < 24) (hln : 0 ≤ len ∧ len ≤ 60) (htx : ∀ j, 0 ≤ j → j < len → 0 ≤ txt j ∧ txt j ≤ 65535) (hps : 0 ≤ pos ∧ pos ≤ len) : zCi l yX6_countMatching wsX6_countMatching ({ frames := 4, cells := 0, slots := 0, locals := 85 }) K D tA [.ref a0, .ref (K (100 + si))] (bScript tA K a0 a1 a2 pos cmd vals txt len) sz (fun (z : Int) (u : Unit) => (z = mtW txt len pos (sTx.getD si []))) (fun (u : Unit) => bScript tA K a0 a1 a2 pos cmd vals txt len) 0 0 := by
  refine zCi_of (cc := cX6_countMatching) (maxL := 3) (by decide) rfl (fun z u h => rfl) (Nat.le_of_ble_eq_true rfl) ?_
  intro p e s m args below meth c A Q ls hx hb hml hts hown hK hP hD hA hCn hret hl
  obtain ⟨H, hHe⟩ : ∃ H : Heap, H = s.heap := ⟨_, rfl⟩
  have hS : va_S A s.heap H [] := by rw [hHe]; exact va_S.rf
  rw [← hHe] at hP ⊢
  have hl : lv_has ls 3 [(0, .ref a0), (1, .ref (K (100 + si)))] := hl
  have iX6 : ∀ v ∈ wsX60, v ∈ wsX6_countMatching := by decide +kernel
  have f_24 := hts (.fieldLink RX6 24 "HarborLights$Script" "text" "[C") (by decide +kernel)
  have f_28 := hts (.fieldLink RX6 28 "HarborLights$Script" "length" "I") (by decide +kernel)
  have f_36 := hts (.fieldLink RX6 36 "HarborLights$Script" "position" "I") (by decide +kernel)
  refine zz_iconst hx hb dX6_countMatching_0 ?_
  refine lv_istore_n (lv' := [(2, .int (iI 0)), (0, .ref a0), (1, .ref (K (100 + si)))]) hx hb dX6_countMatching_1 rfl hl (by decide) rfl (fun ls hl => ?_)
  have L2 : ∀ (n : Nat) (k : Int) (H : Heap) (locs : List Loc) (ls : Array Slot), (mtI txt len pos si k) → (((sLn si : Nat) : Int) - k).toNat < n → va_P D vwCl (bScript tA K a0 a1 a2 pos cmd vals txt len) H → va_D A (bScript tA K a0 a1 a2 pos cmd vals txt len) → va_S A s.heap H locs → lv_has ls 3 [(2, .int (iI k)), (0, .ref a0), (1, .ref (K (100 + si)))] → W p l e (headSpec wsX6_countMatching ({ frames := 4, cells := 0, slots := 0, locals := 85 })).room s m args below meth c H locs 0 0 Q (F0 m 2 ls []) := by
    intro n
    induction n with
    | zero => intro k H locs ls i1 hmz; exact absurd hmz (Nat.not_lt_zero _)
    | succ n ih2 =>
      intro k H locs ls i1 hmz hP hD hS hl
      have k0 := i1.1
      have k1 := i1.2.1
      have k5 := sLn_le si
      refine lv_iload_n hx hb dX6_countMatching_2 rfl (lv_at hl 0 rfl) ?_
      refine lv_aload_n hx hb dX6_countMatching_3 rfl (lv_at hl 2 rfl) ?_
      refine zc_callOi (As := []) (rest := [.int (iI k)]) (wf := fun u => bScript tA K a0 a1 a2 pos cmd vals txt len) ⟨hx, hb, hml, hown, hts⟩ (c_J0_length_8abf5 l K D tA  H.size si (by first | assumption | omega)) (cwV 0 hts gX6_countMatching_J0_length_8abf5 rfl rfl rfl (by decide +kernel) ⟨Nat.le_of_ble_eq_true rfl, Nat.le_of_ble_eq_true rfl⟩) hK hP hD hS hA hCn [] [0, 1, 2] [0, 1, 2] rfl rfl (by decide) (by decide) (by decide) (by decide) (fun _ => rfl) (hCn.1.2.2 si (by omega)).1 rfl rfl hl.1 (Nat.le_of_ble_eq_true rfl) dX6_countMatching_4 ⟨Nat.le_of_ble_eq_true rfl, Nat.le_of_ble_eq_true rfl⟩ ?_
      intro z4_1 u H locs p4_2 hP hD hS
      have hP : va_P D vwCl (bScript tA K a0 a1 a2 pos cmd vals txt len) H := hP
      have hD : va_D A (bScript tA K a0 a1 a2 pos cmd vals txt len) := hD
      have q_4 : z4_1 = ((sLn si : Nat) : Int) := p4_2
      refine zz_icmp_ge (tgt := 48) hx hb dX6_countMatching_7 (by decide) (by omega) (by omega) (fun c_7 => ?_) (fun c_7 => ?_)
      · refine lv_iload_n hx hb dX6_countMatching_48 rfl (lv_at hl 0 rfl) ?_
        exact hret k () _ _ _ _ dX6_countMatching_49 (show k = mtW txt len pos (sTx.getD si []) from by first | exact mtI_end i1 (Or.inl (by omega)) | exact mtI_end i1 (Or.inr (by omega)) | exact mtI_end i1 (Or.inr (fun h => by have h2 := h.2; rw [← q_36] at h2; omega))) hP hD hS
      · refine lv_aload_n hx hb dX6_countMatching_10 rfl (lv_at hl 1 rfl) ?_
        refine va_get (D := D) (ci := 8) (v := .int (iI pos)) (C := RX6) (T := TX6) (N := 5) hx hb hts iX6 hown hK hP 0 rfl rfl 0 (by decide) f_36 (fun _ h9 => h9) rfl dX6_countMatching_11 ?_
        refine lv_iload_n hx hb dX6_countMatching_14 rfl (lv_at hl 0 rfl) ?_
        refine zz_iadd hx hb dX6_countMatching_15 ?_
        refine lv_aload_n hx hb dX6_countMatching_16 rfl (lv_at hl 1 rfl) ?_
        refine va_get (D := D) (ci := 8) (v := .int (iI len)) (C := RX6) (T := TX6) (N := 5) hx hb hts iX6 hown hK hP 0 rfl rfl 4 (by decide) f_28 (fun _ h9 => h9) rfl dX6_countMatching_17 ?_
        refine zz_icmp_ge (tgt := 48) hx hb dX6_countMatching_20 (by decide) (by omega) (by omega) (fun c_20 => ?_) (fun c_20 => ?_)
        · refine lv_iload_n hx hb dX6_countMatching_48 rfl (lv_at hl 0 rfl) ?_
          exact hret k () _ _ _ _ dX6_countMatching_49 (show k = mtW txt len pos (sTx.getD si []) from by first | exact mtI_end i1 (Or.inl (by omega)) | exact mtI_end i1 (Or.inr (by omega)) | exact mtI_end i1 (Or.inr (fun h => by have h2 := h.2; rw [← q_36] at h2; omega))) hP hD hS
        · refine lv_aload_n hx hb dX6_countMatching_23 rfl (lv_at hl 1 rfl) ?_
          refine va_get (D := D) (ci := 8) (v := .ref a2) (C := RX6) (T := TX6) (N := 5) hx hb hts iX6 hown hK hP 0 rfl rfl 3 (by decide) f_24 (fun _ h9 => h9) rfl dX6_countMatching_24 ?_
          refine lv_aload_n hx hb dX6_countMatching_27 rfl (lv_at hl 1 rfl) ?_
          refine va_get (D := D) (ci := 8) (v := .int (iI pos)) (C := RX6) (T := TX6) (N := 5) hx hb hts iX6 hown hK hP 0 rfl rfl 0 (by decide) f_36 (fun _ h9 => h9) rfl dX6_countMatching_28 ?_
          refine lv_iload_n hx hb dX6_countMatching_31 rfl (lv_at hl 0 rfl) ?_
          refine zz_iadd hx hb dX6_countMatching_32 ?_
          refine zz_cald hx hb hK hP 2 rfl (by decide) (by omega) dX6_countMatching_33 ?_
          have r_33 := htx (pos + k) (by omega) (by omega)
          refine lv_aload_n hx hb dX6_countMatching_34 rfl (lv_at hl 2 rfl) ?_
          refine lv_iload_n hx hb dX6_countMatching_35 rfl (lv_at hl 0 rfl) ?_
          refine zc_callOi (As := [.int (iI k)]) (rest := [.int (iI (txt (pos + k)))]) (wf := fun u => bScript tA K a0 a1 a2 pos cmd vals txt len) ⟨hx, hb, hml, hown, hts⟩ (c_J0_charAt_5068e l K D tA  H.size si k (by first | assumption | omega) (by first | assumption | omega) (by first | assumption | omega)) (cwV 1 hts gX6_countMatching_J0_charAt_5068e rfl rfl rfl (by decide +kernel) ⟨Nat.le_of_ble_eq_true rfl, Nat.le_of_ble_eq_true rfl⟩) hK hP hD hS hA hCn [] [0, 1, 2] [0, 1, 2] rfl rfl (by decide) (by decide) (by decide) (by decide) (fun _ => rfl) (hCn.1.2.2 si (by omega)).1 rfl rfl hl.1 (Nat.le_of_ble_eq_true rfl) dX6_countMatching_36 ⟨Nat.le_of_ble_eq_true rfl, Nat.le_of_ble_eq_true rfl⟩ ?_
          intro z36_3 u H locs p36_4 hP hD hS
          have hP : va_P D vwCl (bScript tA K a0 a1 a2 pos cmd vals txt len) H := hP
          have hD : va_D A (bScript tA K a0 a1 a2 pos cmd vals txt len) := hD
          have q_36 : z36_3 = sCh si k := p36_4.1
          have q2_36 : 0 ≤ z36_3 ∧ z36_3 ≤ 126 := p36_4.2
          refine zz_icmp_ne (tgt := 48) hx hb dX6_countMatching_39 (by decide) (by omega) (by omega) (fun c_39 => ?_) (fun c_39 => ?_)
          · refine lv_iload_n hx hb dX6_countMatching_48 rfl (lv_at hl 0 rfl) ?_
            exact hret k () _ _ _ _ dX6_countMatching_49 (show k = mtW txt len pos (sTx.getD si []) from by first | exact mtI_end i1 (Or.inl (by omega)) | exact mtI_end i1 (Or.inr (by omega)) | exact mtI_end i1 (Or.inr (fun h => by have h2 := h.2; rw [← q_36] at h2; omega))) hP hD hS
          · refine zz_iinc (lv' := [(2, .int (iI (k + 1))), (0, .ref a0), (1, .ref (K (100 + si)))]) hx hb dX6_countMatching_42 hl (k := 0) rfl (by decide) rfl (fun ls hl => ?_)
            refine lv_goto (tgt := 2) hx hb dX6_countMatching_45 (by decide) ?_
            exact ih2 (k + 1) _ _ _ (by exact mtI_s i1 (by omega) (by omega) (by rw [← q_36]; omega)) (by omega) hP hD hS (lv_sub hl [0, 1, 2] rfl)
  exact L2 _ 0 _ _ _ (by exact mtI_0) (Nat.lt_succ_self _) hP hD hS (lv_sub hl [0, 1, 2] rfl)

set_option maxHeartbeats 4000000 in
set_option maxRecDepth 100000 in
theorem c_X6_readWord (l : Launch) (K : Nat → Nat) (D : va_G) (tA : Nat → ClassId) (a0 a1 a2 : Nat) (sz : Nat) (pos : Int) (cmd : Int) (vals : Int → Int) (txt : Int → Int) (len : Int) (hln : 0 ≤ len ∧ len ≤ 60) (htx : ∀ j, 0 ≤ j → j < len → 0 ≤ txt j ∧ txt j ≤ 65535) (hps : 0 ≤ pos ∧ pos ≤ len) (hcmd : 0 ≤ cmd ∧ cmd < 8) : zCi l yX6_readWord wsX6_readWord ({ frames := 5, cells := 0, slots := 0, locals := 107 }) K D tA [.ref a0] (bScript tA K a0 a1 a2 pos cmd vals txt len) sz (fun (z : Int) (u : (Int) × (Int)) => (z = (pWd txt len pos 8 0 0).1 ∧ u.2 = (pWd txt len pos 8 0 0).2.2 ∧ (z = 1 → u.1 = (pWd txt len pos 8 0 0).2.1)) ∧ (z = 0 ∨ z = 1) ∧ ((0 ≤ u.1 ∧ u.1 < 8) ∧ 0 ≤ u.2 ∧ u.2 ≤ len)) (fun (u : (Int) × (Int)) => bScript tA K a0 a1 a2 u.2 u.1 vals txt len) 0 0 := by
  refine zCi_of (cc := cX6_readWord) (maxL := 5) (by decide) rfl (fun z u h => zbool z (by omega)) (Nat.le_of_ble_eq_true rfl) ?_
  intro p e s m args below meth c A Q ls hx hb hml hts hown hK hP hD hA hCn hret hl
  obtain ⟨H, hHe⟩ : ∃ H : Heap, H = s.heap := ⟨_, rfl⟩
  have hS : va_S A s.heap H [] := by rw [hHe]; exact va_S.rf
  rw [← hHe] at hP ⊢
  have hl : lv_has ls 5 [(0, .ref a0)] := hl
  have iX6 : ∀ v ∈ wsX60, v ∈ wsX6_readWord := by decide +kernel
  have f_15 := hts (.fieldLink RX6 15 "HarborLights$Script" "command" "LHarborLights$Command;") (by decide +kernel)
  have f_36 := hts (.fieldLink RX6 36 "HarborLights$Script" "position" "I") (by decide +kernel)
  have f_55 := hts (.fieldLink RX6 55 "HarborLights$Script" "COMMANDS" "[LHarborLights$Command;") (by decide +kernel)
  have f_59 := hts (.fieldLink RX6 59 "HarborLights$Command" "word" "Ljava/lang/String;") (by decide +kernel)
  have l_72 := hts (.methodLink RX6 72 Lib.Math.max.name) (by decide +kernel)
  have ls_72 := hts (.static Lib.Math.max.name) (by decide +kernel)
  have lc_72 := hts (.code Lib.Math.max.name Lib.Math.max.code 2 (some .int)) (by decide +kernel)
  have li_72 := hts (.initialized "java/lang/Math") (by decide +kernel)
  refine zz_iconst hx hb dX6_readWord_0 ?_
  refine lv_istore_n (lv' := [(1, .int (iI 0)), (0, .ref a0)]) hx hb dX6_readWord_1 rfl hl (by decide) rfl (fun ls hl => ?_)
  refine zz_iconst hx hb dX6_readWord_2 ?_
  refine lv_istore_n (lv' := [(2, .int (iI 0)), (1, .int (iI 0)), (0, .ref a0)]) hx hb dX6_readWord_3 rfl hl (by decide) rfl (fun ls hl => ?_)
  have L4 : ∀ (n : Nat) (i : Int) (f : Int) (H : Heap) (locs : List Loc) (ls : Array Slot), (0 ≤ i ∧ i ≤ 8 ∧ 0 ≤ f ∧ pos + f ≤ len) → (wdI txt len pos i f) → (8 - i).toNat < n → va_P D vwCl (bScript tA K a0 a1 a2 pos cmd vals txt len) H → va_D A (bScript tA K a0 a1 a2 pos cmd vals txt len) → va_S A s.heap H locs → lv_has ls 5 [(2, .int (iI i)), (1, .int (iI f)), (0, .ref a0)] → W p l e (headSpec wsX6_readWord ({ frames := 5, cells := 0, slots := 0, locals := 107 })).room s m args below meth c H locs 0 0 Q (F0 m 4 ls []) := by
    intro n
    induction n with
    | zero => intro i f H locs ls i0 i1 hmz; exact absurd hmz (Nat.not_lt_zero _)
    | succ n ih4 =>
      intro i f H locs ls i0 i1 hmz hP hD hS hl
      refine lv_iload_n hx hb dX6_readWord_4 rfl (lv_at hl 0 rfl) ?_
      refine va_gets hx hb hCn.1.1.2.2.2.2.2.1 hS hown f_55 (fun _ h9 => h9) dX6_readWord_5 ?_
      refine va_tlen hx hb hCn.1.1.2.2.2.2.2.2 hS (v := iI 8) rfl dX6_readWord_8 ?_
      refine zz_icmp_ge (tgt := 72) hx hb dX6_readWord_9 (by decide) (by omega) (by decide) (fun c_9 => ?_) (fun c_9 => ?_)
      · refine lv_aload_n hx hb dX6_readWord_72 rfl (lv_at hl 2 rfl) ?_
        refine lv_dup hx hb dX6_readWord_73 rfl ?_
        refine va_get (D := D) (ci := 8) (v := .int (iI pos)) (C := RX6) (T := TX6) (N := 5) hx hb hts iX6 hown hK hP 0 rfl rfl 0 (by decide) f_36 (fun _ h9 => h9) rfl dX6_readWord_74 ?_
        refine lv_iload_n hx hb dX6_readWord_77 rfl (lv_at hl 1 rfl) ?_
        refine zz_iadd hx hb dX6_readWord_78 ?_
        refine va_put (D := D) (ci := 8) (v := .int (iI (pos + f))) (ty := .int) (C := RX6) (T := TX6) (N := 5) hx hb hts iX6 tyX6 tyX6_ok nmX6 hown hK hP hD hS 0 rfl rfl 0 (by decide) f_36 (fun _ h9 => h9) rfl (by decide +kernel) rfl rfl (Nat.le_of_ble_eq_true rfl) dX6_readWord_79 (fun H locs hP hD hS => ?_)
        have hP : va_P D vwCl (bScript tA K a0 a1 a2 (pos + f) cmd vals txt len) H := hP
        have hD : va_D A (bScript tA K a0 a1 a2 (pos + f) cmd vals txt len) := hD
        refine zz_iconst hx hb dX6_readWord_82 ?_
        exact hret 0 (cmd, (pos + f)) _ _ _ _ dX6_readWord_83 ⟨(show (0 : Int) = (pWd txt len pos 8 0 0).1 ∧ (pos + f) = (pWd txt len pos 8 0 0).2.2 ∧ ((0 : Int) = 1 → cmd = (pWd txt len pos 8 0 0).2.1) from by rw [wdI_no i1 (by omega)]; exact ⟨rfl, rfl, fun h => absurd h (by decide)⟩), (show (0 : Int) = 0 ∨ (0 : Int) = 1 from by omega), (show (0 ≤ cmd ∧ cmd < 8) ∧ 0 ≤ (pos + f) ∧ (pos + f) ≤ len from by omega)⟩ hP hD hS
      · refine va_gets hx hb hCn.1.1.2.2.2.2.2.1 hS hown f_55 (fun _ h9 => h9) dX6_readWord_12 ?_
        refine lv_iload_n hx hb dX6_readWord_15 rfl (lv_at hl 0 rfl) ?_
        refine vb_tq hx hb hCn.1.1.2.2.2.2.2.2 hS (zin (k := i) (n := 8) (by omega) (by decide)) (v := .ref (K (Int.toNat i))) (by show Value.ref (K (iI i).toNatClampNeg) = _; rw [iI_clamp (by omega)]) dX6_readWord_16 ?_
        refine vk_getf hx hb (hCn.1.2.1 (Int.toNat i) (by omega)).2.2.1 hS hown f_59 (fun _ h9 => h9) dX6_readWord_17 ?_
        refine lv_astore_n (lv' := [(3, .ref (K (100 + (Int.toNat i)))), (2, .int (iI i)), (1, .int (iI f)), (0, .ref a0)]) hx hb dX6_readWord_20 rfl hl (by decide) rfl (fun ls hl => ?_)
        refine lv_aload_n hx hb dX6_readWord_21 rfl (lv_at hl 3 rfl) ?_
        refine lv_aload_n hx hb dX6_readWord_22 rfl (lv_at hl 0 rfl) ?_
        refine zc_callVi (As := [.ref (K (100 + (Int.toNat i)))]) (rest := []) (wf := fun u => bScript tA K a0 a1 a2 pos cmd vals txt len) ⟨hx, hb, hml, hown, hts⟩ (c_X6_countMatching l K D tA a0 a1 a2 H.size pos cmd vals txt len (Int.toNat i) (by first | assumption | omega) (by first | assumption | omega) (by first | assumption | omega) (by first | assumption | omega)) (cwV 1 hts gX6_readWord_X6_countMatching rfl rfl rfl (by decide +kernel) ⟨Nat.le_of_ble_eq_true rfl, Nat.le_of_ble_eq_true rfl⟩) hK hP hD hS hA hCn [0, 1, 2] [] [0, 1, 2] rfl rfl (by decide) (by decide) (by decide) (by decide) (fun _ => rfl) (ci := 8) (q0 := 0) rfl rfl rfl rfl rfl hl.1 (Nat.le_of_ble_eq_true rfl) dX6_readWord_23 ⟨Nat.le_of_ble_eq_true rfl, Nat.le_of_ble_eq_true rfl⟩ ?_
        intro z23_1 u H locs p23_2 hP hD hS
        have hP : va_P D vwCl (bScript tA K a0 a1 a2 pos cmd vals txt len) H := hP
        have hD : va_D A (bScript tA K a0 a1 a2 pos cmd vals txt len) := hD
        have q_23 : z23_1 = mtW txt len pos (sTx.getD (Int.toNat i) []) := p23_2
        have hmi := mtW_in txt len (sTx.getD (Int.toNat i) []) pos (by omega)
        rw [← q_23] at hmi
        have hsl := sLn_le (Int.toNat i)
        have hsl2 : ((sTx.getD (Int.toNat i) []).length : Int) = ((sLn (Int.toNat i) : Nat) : Int) := rfl
        refine lv_istore (lv' := [(4, .int (iI z23_1)), (3, .ref (K (100 + (Int.toNat i)))), (2, .int (iI i)), (1, .int (iI f)), (0, .ref a0)]) hx hb dX6_readWord_26 hl (by decide) rfl (fun ls hl => ?_)
        refine lv_iload hx hb dX6_readWord_28 (lv_at hl 0 rfl) ?_
        refine lv_aload_n hx hb dX6_readWord_30 rfl (lv_at hl 1 rfl) ?_
        refine zc_callOi (As := []) (rest := [.int (iI z23_1)]) (wf := fun u => bScript tA K a0 a1 a2 pos cmd vals txt len) ⟨hx, hb, hml, hown, hts⟩ (c_J0_length_8abf5 l K D tA  H.size (Int.toNat i) (by first | assumption | omega)) (cwV 0 hts gX6_readWord_J0_length_8abf5 rfl rfl rfl (by decide +kernel) ⟨Nat.le_of_ble_eq_true rfl, Nat.le_of_ble_eq_true rfl⟩) hK hP hD hS hA hCn [] [0, 1, 2] [0, 1, 2] rfl rfl (by decide) (by decide) (by decide) (by decide) (fun _ => rfl) (hCn.1.2.2 (Int.toNat i) (by omega)).1 rfl rfl hl.1 (Nat.le_of_ble_eq_true rfl) dX6_readWord_31 ⟨Nat.le_of_ble_eq_true rfl, Nat.le_of_ble_eq_true rfl⟩ ?_
        intro z31_3 u H locs p31_4 hP hD hS
        have hP : va_P D vwCl (bScript tA K a0 a1 a2 pos cmd vals txt len) H := hP
        have hD : va_D A (bScript tA K a0 a1 a2 pos cmd vals txt len) := hD
        have q_31 : z31_3 = ((sLn (Int.toNat i) : Nat) : Int) := p31_4
        refine zz_icmp_ne (tgt := 59) hx hb dX6_readWord_34 (by decide) (by omega) (by omega) (fun c_34 => ?_) (fun c_34 => ?_)
        · refine lv_iload_n hx hb dX6_readWord_59 rfl (lv_at hl 3 rfl) ?_
          refine lv_iload hx hb dX6_readWord_60 (lv_at hl 0 rfl) ?_
          refine zz_mmax hx hb (by rw [hml]; exact hl.1.symm) hown l_72 ls_72 li_72 lc_72 (Nat.le_of_ble_eq_true rfl) (Nat.le_of_ble_eq_true rfl) (Nat.le_of_ble_eq_true rfl) (Nat.le_of_ble_eq_true rfl) (by omega) (by omega) dX6_readWord_62 ?_
          refine lv_istore_n (lv' := [(1, .int (iI (max f z23_1))), (4, .int (iI z23_1)), (3, .ref (K (100 + (Int.toNat i)))), (2, .int (iI i)), (0, .ref a0)]) hx hb dX6_readWord_65 rfl hl (by decide) rfl (fun ls hl => ?_)
          refine zz_iinc (lv' := [(2, .int (iI (i + 1))), (1, .int (iI (max f z23_1))), (4, .int (iI z23_1)), (3, .ref (K (100 + (Int.toNat i)))), (0, .ref a0)]) hx hb dX6_readWord_66 hl (k := 3) rfl (by decide) rfl (fun ls hl => ?_)
          refine lv_goto (tgt := 4) hx hb dX6_readWord_69 (by decide) ?_
          exact ih4 (i + 1) (max f z23_1) _ _ _ (by omega) (by rw [q_23]; exact wdI_s i1 (by omega) (by omega) (by rw [← q_23, ← q_31]; exact c_34)) (by omega) hP hD hS (lv_sub hl [0, 1, 4] rfl)
        · refine lv_aload_n hx hb dX6_readWord_37 rfl (lv_at hl 4 rfl) ?_
          refine va_gets hx hb hCn.1.1.2.2.2.2.2.1 hS hown f_55 (fun _ h9 => h9) dX6_readWord_38 ?_
          refine lv_iload_n hx hb dX6_readWord_41 rfl (lv_at hl 2 rfl) ?_
          refine vb_tq hx hb hCn.1.1.2.2.2.2.2.2 hS (zin (k := i) (n := 8) (by omega) (by decide)) (v := .ref (K (Int.toNat i))) (by show Value.ref (K (iI i).toNatClampNeg) = _; rw [iI_clamp (by omega)]) dX6_readWord_42 ?_
          refine va_put (D := D) (ci := 8) (v := .ref (K (Int.toNat (Int.toNat i)))) (ty := (.object "HarborLights$Command")) (C := RX6) (T := TX6) (N := 5) hx hb hts iX6 tyX6 tyX6_ok nmX6 hown hK hP hD hS 0 rfl rfl 1 (by decide) f_15 (fun _ h9 => h9) rfl (by decide +kernel) rfl rfl (Nat.le_of_ble_eq_true rfl) dX6_readWord_43 (fun H locs hP hD hS => ?_)
          have hP : va_P D vwCl (bScript tA K a0 a1 a2 pos i vals txt len) H := hP
          have hD : va_D A (bScript tA K a0 a1 a2 pos i vals txt len) := hD
          refine lv_aload_n hx hb dX6_readWord_46 rfl (lv_at hl 4 rfl) ?_
          refine lv_dup hx hb dX6_readWord_47 rfl ?_
          refine va_get (D := D) (ci := 8) (v := .int (iI pos)) (C := RX6) (T := TX6) (N := 5) hx hb hts iX6 hown hK hP 0 rfl rfl 0 (by decide) f_36 (fun _ h9 => h9) rfl dX6_readWord_48 ?_
          refine lv_iload hx hb dX6_readWord_51 (lv_at hl 0 rfl) ?_
          refine zz_iadd hx hb dX6_readWord_53 ?_
          refine va_put (D := D) (ci := 8) (v := .int (iI (pos + z23_1))) (ty := .int) (C := RX6) (T := TX6) (N := 5) hx hb hts iX6 tyX6 tyX6_ok nmX6 hown hK hP hD hS 0 rfl rfl 0 (by decide) f_36 (fun _ h9 => h9) rfl (by decide +kernel) rfl rfl (Nat.le_of_ble_eq_true rfl) dX6_readWord_54 (fun H locs hP hD hS => ?_)
          have hP : va_P D vwCl (bScript tA K a0 a1 a2 (pos + z23_1) i vals txt len) H := hP
          have hD : va_D A (bScript tA K a0 a1 a2 (pos + z23_1) i vals txt len) := hD
          refine zz_iconst hx hb dX6_readWord_57 ?_
          exact hret 1 (i, (pos + z23_1)) _ _ _ _ dX6_readWord_58 ⟨(show (1 : Int) = (pWd txt len pos 8 0 0).1 ∧ (pos + z23_1) = (pWd txt len pos 8 0 0).2.2 ∧ ((1 : Int) = 1 → i = (pWd txt len pos 8 0 0).2.1) from by rw [wdI_yes i1 (by omega) (by omega) (by rw [← q_23, ← q_31]; omega), q_23]; exact ⟨rfl, rfl, fun _ => rfl⟩), (show (1 : Int) = 0 ∨ (1 : Int) = 1 from by omega), (show (0 ≤ i ∧ i < 8) ∧ 0 ≤ (pos + z23_1) ∧ (pos + z23_1) ≤ len from by omega)⟩ hP hD hS
  exact L4 _ 0 0 _ _ _ (by omega) (by exact wdI_0) (Nat.lt_succ_self _) hP hD hS (lv_sub hl [0, 1, 2] rfl)

set_option maxHeartbeats 4000000 in
set_option maxRecDepth 100000 in
theorem c_X6_readNumber (l : Launch) (K : Nat → Nat) (D : va_G) (tA : Nat → ClassId) (a0 a1 a2 : Nat) (sz : Nat) (pos : Int) (cmd : Int) (vals : Int → Int) (txt : Int → Int) (len : Int) (pl : Int) (mx : Int) (r_pl : -2147483648 ≤ pl ∧ pl ≤ 2147483647) (r_mx : -2147483648 ≤ mx ∧ mx ≤ 2147483647) (hln : 0 ≤ len ∧ len ≤ 60) (htx : ∀ j, 0 ≤ j → j < len → 0 ≤ txt j ∧ txt j ≤ 65535) (hps : 0 ≤ pos ∧ pos ≤ len) (hpl : 0 ≤ pl ∧ pl < 4) (hm : 0 ≤ mx ∧ mx ≤ 9) : zMi l yX6_readNumber wsX6_readNumber ({ frames := 1, cells := 0, slots := 0, locals := 20 }) D tA [.ref a0, .int (iI pl), .int (iI mx)] (bScript tA K a0 a1 a2 pos cmd vals txt len) sz (fun (z : Int) (u : Unit) => ((z = 1 ∧ ctD txt len mx.toNat pos ≠ 0) ∨ (z = 0 ∧ ctD txt len mx.toNat pos = 0))) (fun (u : Unit) => bScript tA K a0 a1 a2 (pos + ctD txt len mx.toNat pos) cmd (zU vals pl (nvD txt pos (ctD txt len mx.toNat pos).toNat)) txt len) 0 0 := by
  refine zMi_of (cc := cX6_readNumber) (maxL := 5) (by decide) rfl (fun z u h => zbool z (by omega)) (Nat.le_of_ble_eq_true rfl) ?_
  intro p e s m args below meth c A Q ls hx hb hml hts hown hK hP hD hA hret hl
  obtain ⟨H, hHe⟩ : ∃ H : Heap, H = s.heap := ⟨_, rfl⟩
  have hS : va_S A s.heap H [] := by rw [hHe]; exact va_S.rf
  rw [← hHe] at hP ⊢
  have hl : lv_has ls 5 [(0, .ref a0), (1, .int (iI pl)), (2, .int (iI mx))] := hl
  have iX6 : ∀ v ∈ wsX60, v ∈ wsX6_readNumber := by decide +kernel
  have f_20 := hts (.fieldLink RX6 20 "HarborLights$Script" "values" "[I") (by decide +kernel)
  have f_24 := hts (.fieldLink RX6 24 "HarborLights$Script" "text" "[C") (by decide +kernel)
  have f_28 := hts (.fieldLink RX6 28 "HarborLights$Script" "length" "I") (by decide +kernel)
  have f_36 := hts (.fieldLink RX6 36 "HarborLights$Script" "position" "I") (by decide +kernel)
  refine zz_iconst hx hb dX6_readNumber_0 ?_
  refine lv_istore_n (lv' := [(3, .int (iI 0)), (0, .ref a0), (1, .int (iI pl)), (2, .int (iI mx))]) hx hb dX6_readNumber_1 rfl hl (by decide) rfl (fun ls hl => ?_)
  refine zz_iconst hx hb dX6_readNumber_2 ?_
  refine lv_istore (lv' := [(4, .int (iI 0)), (3, .int (iI 0)), (0, .ref a0), (1, .int (iI pl)), (2, .int (iI mx))]) hx hb dX6_readNumber_3 hl (by decide) rfl (fun ls hl => ?_)
  have L5 : ∀ (n : Nat) (k : Int) (v : Int) (p9 : Int) (H : Heap) (locs : List Loc) (ls : Array Slot), (ctI txt len pos mx k v) → (p9 = pos + k) → (0 ≤ k ∧ k ≤ mx ∧ p9 ≤ len) → (mx - k).toNat < n → va_P D vwCl (bScript tA K a0 a1 a2 p9 cmd vals txt len) H → va_D A (bScript tA K a0 a1 a2 p9 cmd vals txt len) → va_S A s.heap H locs → lv_has ls 5 [(4, .int (iI k)), (3, .int (iI v)), (0, .ref a0), (1, .int (iI pl)), (2, .int (iI mx))] → W p l e (headSpec wsX6_readNumber ({ frames := 1, cells := 0, slots := 0, locals := 20 })).room s m args below meth c H locs 0 0 Q (F0 m 5 ls []) := by
    intro n
    induction n with
    | zero => intro k v p9 H locs ls i1 i2 i3 hmz; exact absurd hmz (Nat.not_lt_zero _)
    | succ n ih5 =>
      intro k v p9 H locs ls i1 i2 i3 hmz hP hD hS hl
      refine lv_iload hx hb dX6_readNumber_5 (lv_at hl 0 rfl) ?_
      refine lv_iload_n hx hb dX6_readNumber_7 rfl (lv_at hl 4 rfl) ?_
      refine zz_icmp_ge (tgt := 71) hx hb dX6_readNumber_8 (by decide) (by omega) (by omega) (fun c_8 => ?_) (fun c_8 => ?_)
      · have hce := ctI_end i1 (by subst i2; omega)
        refine lv_aload_n hx hb dX6_readNumber_71 rfl (lv_at hl 2 rfl) ?_
        refine va_get (D := D) (ci := 8) (v := .ref a1) (C := RX6) (T := TX6) (N := 5) hx hb hts iX6 hown hK hP 0 rfl rfl 2 (by decide) f_20 (fun _ h9 => h9) rfl dX6_readNumber_72 ?_
        refine lv_iload_n hx hb dX6_readNumber_75 rfl (lv_at hl 3 rfl) ?_
        refine lv_iload_n hx hb dX6_readNumber_76 rfl (lv_at hl 1 rfl) ?_
        refine zz_iast hx hb hK hP hD hS 1 rfl (by decide) (by omega) dX6_readNumber_77 (fun H locs hP hD hS => ?_)
        have hP : va_P D vwCl (bScript tA K a0 a1 a2 p9 cmd (zU vals pl v) txt len) H := hP
        have hD : va_D A (bScript tA K a0 a1 a2 p9 cmd (zU vals pl v) txt len) := hD
        refine lv_iload hx hb dX6_readNumber_78 (lv_at hl 0 rfl) ?_
        refine zz_if_le (tgt := 87) hx hb dX6_readNumber_80 (by decide) (by omega) (fun c_80 => ?_) (fun c_80 => ?_)
        · refine zz_iconst hx hb dX6_readNumber_87 ?_
          have e_pos : (p9 : Int) = (pos + ctD txt len mx.toNat pos) := by rw [i2, hce.1]
          have hP : va_P D vwCl (bScript tA K a0 a1 a2 (pos + ctD txt len mx.toNat pos) cmd (zU vals pl v) txt len) H := by rw [← e_pos]; exact hP
          have hD : va_D A (bScript tA K a0 a1 a2 (pos + ctD txt len mx.toNat pos) cmd (zU vals pl v) txt len) := by rw [← e_pos]; exact hD
          have e_vals : ((zU vals pl v) : Int → Int) = (zU vals pl (nvD txt pos (ctD txt len mx.toNat pos).toNat)) := by rw [hce.2]
          rw [e_vals] at hP hD
          exact hret 0 () _ _ _ _ dX6_readNumber_88 (show ((0 : Int) = 1 ∧ ctD txt len mx.toNat pos ≠ 0) ∨ ((0 : Int) = 0 ∧ ctD txt len mx.toNat pos = 0) from by omega) hP hD hS
        · refine zz_iconst hx hb dX6_readNumber_83 ?_
          refine lv_goto (tgt := 88) hx hb dX6_readNumber_84 (by decide) ?_
          have e_pos : (p9 : Int) = (pos + ctD txt len mx.toNat pos) := by rw [i2, hce.1]
          have hP : va_P D vwCl (bScript tA K a0 a1 a2 (pos + ctD txt len mx.toNat pos) cmd (zU vals pl v) txt len) H := by rw [← e_pos]; exact hP
          have hD : va_D A (bScript tA K a0 a1 a2 (pos + ctD txt len mx.toNat pos) cmd (zU vals pl v) txt len) := by rw [← e_pos]; exact hD
          have e_vals : ((zU vals pl v) : Int → Int) = (zU vals pl (nvD txt pos (ctD txt len mx.toNat pos).toNat)) := by rw [hce.2]
          rw [e_vals] at hP hD
          exact hret 1 () _ _ _ _ dX6_readNumber_88 (show ((1 : Int) = 1 ∧ ctD txt len mx.toNat pos ≠ 0) ∨ ((1 : Int) = 0 ∧ ctD txt len mx.toNat pos = 0) from by omega) hP hD hS
      · refine lv_aload_n hx hb dX6_readNumber_11 rfl (lv_at hl 2 rfl) ?_
        refine va_get (D := D) (ci := 8) (v := .int (iI p9)) (C := RX6) (T := TX6) (N := 5) hx hb hts iX6 hown hK hP 0 rfl rfl 0 (by decide) f_36 (fun _ h9 => h9) rfl dX6_readNumber_12 ?_
        refine lv_aload_n hx hb dX6_readNumber_15 rfl (lv_at hl 2 rfl) ?_
        refine va_get (D := D) (ci := 8) (v := .int (iI len)) (C := RX6) (T := TX6) (N := 5) hx hb hts iX6 hown hK hP 0 rfl rfl 4 (by decide) f_28 (fun _ h9 => h9) rfl dX6_readNumber_16 ?_
        refine zz_icmp_ge (tgt := 71) hx hb dX6_readNumber_19 (by decide) (by omega) (by omega) (fun c_19 => ?_) (fun c_19 => ?_)
        · have hce := ctI_end i1 (by subst i2; omega)
          refine lv_aload_n hx hb dX6_readNumber_71 rfl (lv_at hl 2 rfl) ?_
          refine va_get (D := D) (ci := 8) (v := .ref a1) (C := RX6) (T := TX6) (N := 5) hx hb hts iX6 hown hK hP 0 rfl rfl 2 (by decide) f_20 (fun _ h9 => h9) rfl dX6_readNumber_72 ?_
          refine lv_iload_n hx hb dX6_readNumber_75 rfl (lv_at hl 3 rfl) ?_
          refine lv_iload_n hx hb dX6_readNumber_76 rfl (lv_at hl 1 rfl) ?_
          refine zz_iast hx hb hK hP hD hS 1 rfl (by decide) (by omega) dX6_readNumber_77 (fun H locs hP hD hS => ?_)
          have hP : va_P D vwCl (bScript tA K a0 a1 a2 p9 cmd (zU vals pl v) txt len) H := hP
          have hD : va_D A (bScript tA K a0 a1 a2 p9 cmd (zU vals pl v) txt len) := hD
          refine lv_iload hx hb dX6_readNumber_78 (lv_at hl 0 rfl) ?_
          refine zz_if_le (tgt := 87) hx hb dX6_readNumber_80 (by decide) (by omega) (fun c_80 => ?_) (fun c_80 => ?_)
          · refine zz_iconst hx hb dX6_readNumber_87 ?_
            have e_pos : (p9 : Int) = (pos + ctD txt len mx.toNat pos) := by rw [i2, hce.1]
            have hP : va_P D vwCl (bScript tA K a0 a1 a2 (pos + ctD txt len mx.toNat pos) cmd (zU vals pl v) txt len) H := by rw [← e_pos]; exact hP
            have hD : va_D A (bScript tA K a0 a1 a2 (pos + ctD txt len mx.toNat pos) cmd (zU vals pl v) txt len) := by rw [← e_pos]; exact hD
            have e_vals : ((zU vals pl v) : Int → Int) = (zU vals pl (nvD txt pos (ctD txt len mx.toNat pos).toNat)) := by rw [hce.2]
            rw [e_vals] at hP hD
            exact hret 0 () _ _ _ _ dX6_readNumber_88 (show ((0 : Int) = 1 ∧ ctD txt len mx.toNat pos ≠ 0) ∨ ((0 : Int) = 0 ∧ ctD txt len mx.toNat pos = 0) from by omega) hP hD hS
          · refine zz_iconst hx hb dX6_readNumber_83 ?_
            refine lv_goto (tgt := 88) hx hb dX6_readNumber_84 (by decide) ?_
            have e_pos : (p9 : Int) = (pos + ctD txt len mx.toNat pos) := by rw [i2, hce.1]
            have hP : va_P D vwCl (bScript tA K a0 a1 a2 (pos + ctD txt len mx.toNat pos) cmd (zU vals pl v) txt len) H := by rw [← e_pos]; exact hP
            have hD : va_D A (bScript tA K a0 a1 a2 (pos + ctD txt len mx.toNat pos) cmd (zU vals pl v) txt len) := by rw [← e_pos]; exact hD
            have e_vals : ((zU vals pl v) : Int → Int) = (zU vals pl (nvD txt pos (ctD txt len mx.toNat pos).toNat)) := by rw [hce.2]
            rw [e_vals] at hP hD
            exact hret 1 () _ _ _ _ dX6_readNumber_88 (show ((1 : Int) = 1 ∧ ctD txt len mx.toNat pos ≠ 0) ∨ ((1 : Int) = 0 ∧ ctD txt len mx.toNat pos = 0) from by omega) hP hD hS
        · refine lv_aload_n hx hb dX6_readNumber_22 rfl (lv_at hl 2 rfl) ?_
          refine va_get (D := D) (ci := 8) (v := .ref a2) (C := RX6) (T := TX6) (N := 5) hx hb hts iX6 hown hK hP 0 rfl rfl 3 (by decide) f_24 (fun _ h9 => h9) rfl dX6_readNumber_23 ?_
          refine lv_aload_n hx hb dX6_readNumber_26 rfl (lv_at hl 2 rfl) ?_
          refine va_get (D := D) (ci := 8) (v := .int (iI p9)) (C := RX6) (T := TX6) (N := 5) hx hb hts iX6 hown hK hP 0 rfl rfl 0 (by decide) f_36 (fun _ h9 => h9) rfl dX6_readNumber_27 ?_
          refine zz_cald hx hb hK hP 2 rfl (by decide) (by omega) dX6_readNumber_30 ?_
          have r_30 := htx p9 (by omega) (by omega)
          refine zz_callSi (As := [.int (iI (txt p9))]) (rest := []) (wf := fun u => bScript tA K a0 a1 a2 p9 cmd vals txt len) ⟨hx, hb, hml, hown, hts⟩ (c_X6_isDigit l D tA  H.size (txt p9) (by first | assumption | omega)) (va_cwS 1 hts gX6_readNumber_X6_isDigit rfl rfl rfl (by decide +kernel) ⟨Nat.le_of_ble_eq_true rfl, Nat.le_of_ble_eq_true rfl⟩) hK hP hD hS hA [] [0, 1, 2] [0, 1, 2] rfl rfl (by decide) (by decide) (by decide) (by decide) (fun _ => rfl) rfl rfl hl.1 (Nat.le_of_ble_eq_true rfl) dX6_readNumber_31 ⟨Nat.le_of_ble_eq_true rfl, Nat.le_of_ble_eq_true rfl⟩ ?_
          intro z31_1 u H locs p31_2 hP hD hS
          have hP : va_P D vwCl (bScript tA K a0 a1 a2 p9 cmd vals txt len) H := hP
          have hD : va_D A (bScript tA K a0 a1 a2 p9 cmd vals txt len) := hD
          have q_31 : (z31_1 = 1 ∧ 48 ≤ (txt p9) ∧ (txt p9) ≤ 57) ∨ (z31_1 = 0 ∧ ¬ (48 ≤ (txt p9) ∧ (txt p9) ≤ 57)) := p31_2
          refine zz_if_eq (tgt := 71) hx hb dX6_readNumber_34 (by decide) (by omega) (fun c_34 => ?_) (fun c_34 => ?_)
          · have hce := ctI_end i1 (by subst i2; omega)
            refine lv_aload_n hx hb dX6_readNumber_71 rfl (lv_at hl 2 rfl) ?_
            refine va_get (D := D) (ci := 8) (v := .ref a1) (C := RX6) (T := TX6) (N := 5) hx hb hts iX6 hown hK hP 0 rfl rfl 2 (by decide) f_20 (fun _ h9 => h9) rfl dX6_readNumber_72 ?_
            refine lv_iload_n hx hb dX6_readNumber_75 rfl (lv_at hl 3 rfl) ?_
            refine lv_iload_n hx hb dX6_readNumber_76 rfl (lv_at hl 1 rfl) ?_
            refine zz_iast hx hb hK hP hD hS 1 rfl (by decide) (by omega) dX6_readNumber_77 (fun H locs hP hD hS => ?_)
            have hP : va_P D vwCl (bScript tA K a0 a1 a2 p9 cmd (zU vals pl v) txt len) H := hP
            have hD : va_D A (bScript tA K a0 a1 a2 p9 cmd (zU vals pl v) txt len) := hD
            refine lv_iload hx hb dX6_readNumber_78 (lv_at hl 0 rfl) ?_
            refine zz_if_le (tgt := 87) hx hb dX6_readNumber_80 (by decide) (by omega) (fun c_80 => ?_) (fun c_80 => ?_)
            · refine zz_iconst hx hb dX6_readNumber_87 ?_
              have e_pos : (p9 : Int) = (pos + ctD txt len mx.toNat pos) := by rw [i2, hce.1]
              have hP : va_P D vwCl (bScript tA K a0 a1 a2 (pos + ctD txt len mx.toNat pos) cmd (zU vals pl v) txt len) H := by rw [← e_pos]; exact hP
              have hD : va_D A (bScript tA K a0 a1 a2 (pos + ctD txt len mx.toNat pos) cmd (zU vals pl v) txt len) := by rw [← e_pos]; exact hD
              have e_vals : ((zU vals pl v) : Int → Int) = (zU vals pl (nvD txt pos (ctD txt len mx.toNat pos).toNat)) := by rw [hce.2]
              rw [e_vals] at hP hD
              exact hret 0 () _ _ _ _ dX6_readNumber_88 (show ((0 : Int) = 1 ∧ ctD txt len mx.toNat pos ≠ 0) ∨ ((0 : Int) = 0 ∧ ctD txt len mx.toNat pos = 0) from by omega) hP hD hS
            · refine zz_iconst hx hb dX6_readNumber_83 ?_
              refine lv_goto (tgt := 88) hx hb dX6_readNumber_84 (by decide) ?_
              have e_pos : (p9 : Int) = (pos + ctD txt len mx.toNat pos) := by rw [i2, hce.1]
              have hP : va_P D vwCl (bScript tA K a0 a1 a2 (pos + ctD txt len mx.toNat pos) cmd (zU vals pl v) txt len) H := by rw [← e_pos]; exact hP
              have hD : va_D A (bScript tA K a0 a1 a2 (pos + ctD txt len mx.toNat pos) cmd (zU vals pl v) txt len) := by rw [← e_pos]; exact hD
              have e_vals : ((zU vals pl v) : Int → Int) = (zU vals pl (nvD txt pos (ctD txt len mx.toNat pos).toNat)) := by rw [hce.2]
              rw [e_vals] at hP hD
              exact hret 1 () _ _ _ _ dX6_readNumber_88 (show ((1 : Int) = 1 ∧ ctD txt len mx.toNat pos ≠ 0) ∨ ((1 : Int) = 0 ∧ ctD txt len mx.toNat pos = 0) from by omega) hP hD hS
          · refine lv_iload_n hx hb dX6_readNumber_37 rfl (lv_at hl 1 rfl) ?_
            refine zz_bipush hx hb dX6_readNumber_38 (by decide) ?_
            refine zz_imul hx hb dX6_readNumber_40 ?_
            refine lv_aload_n hx hb dX6_readNumber_41 rfl (lv_at hl 2 rfl) ?_
            refine va_get (D := D) (ci := 8) (v := .ref a2) (C := RX6) (T := TX6) (N := 5) hx hb hts iX6 hown hK hP 0 rfl rfl 3 (by decide) f_24 (fun _ h9 => h9) rfl dX6_readNumber_42 ?_
            refine lv_aload_n hx hb dX6_readNumber_45 rfl (lv_at hl 2 rfl) ?_
            refine va_get (D := D) (ci := 8) (v := .int (iI p9)) (C := RX6) (T := TX6) (N := 5) hx hb hts iX6 hown hK hP 0 rfl rfl 0 (by decide) f_36 (fun _ h9 => h9) rfl dX6_readNumber_46 ?_
            refine zz_cald hx hb hK hP 2 rfl (by decide) (by omega) dX6_readNumber_49 ?_
            have r_49 := htx p9 (by omega) (by omega)
            refine zz_bipush hx hb dX6_readNumber_50 (by decide) ?_
            refine zz_isub hx hb dX6_readNumber_52 ?_
            refine zz_iadd hx hb dX6_readNumber_53 ?_
            refine lv_istore_n (lv' := [(3, .int (iI ((v * 10) + ((txt p9) - 48)))), (4, .int (iI k)), (0, .ref a0), (1, .int (iI pl)), (2, .int (iI mx))]) hx hb dX6_readNumber_54 rfl hl (by decide) rfl (fun ls hl => ?_)
            refine lv_aload_n hx hb dX6_readNumber_55 rfl (lv_at hl 2 rfl) ?_
            refine lv_dup hx hb dX6_readNumber_56 rfl ?_
            refine va_get (D := D) (ci := 8) (v := .int (iI p9)) (C := RX6) (T := TX6) (N := 5) hx hb hts iX6 hown hK hP 0 rfl rfl 0 (by decide) f_36 (fun _ h9 => h9) rfl dX6_readNumber_57 ?_
            refine zz_iconst hx hb dX6_readNumber_60 ?_
            refine zz_iadd hx hb dX6_readNumber_61 ?_
            refine va_put (D := D) (ci := 8) (v := .int (iI (p9 + 1))) (ty := .int) (C := RX6) (T := TX6) (N := 5) hx hb hts iX6 tyX6 tyX6_ok nmX6 hown hK hP hD hS 0 rfl rfl 0 (by decide) f_36 (fun _ h9 => h9) rfl (by decide +kernel) rfl rfl (Nat.le_of_ble_eq_true rfl) dX6_readNumber_62 (fun H locs hP hD hS => ?_)
            have hP : va_P D vwCl (bScript tA K a0 a1 a2 (p9 + 1) cmd vals txt len) H := hP
            have hD : va_D A (bScript tA K a0 a1 a2 (p9 + 1) cmd vals txt len) := hD
            refine zz_iinc (lv' := [(4, .int (iI (k + 1))), (3, .int (iI ((v * 10) + ((txt p9) - 48)))), (0, .ref a0), (1, .int (iI pl)), (2, .int (iI mx))]) hx hb dX6_readNumber_65 hl (k := 1) rfl (by decide) rfl (fun ls hl => ?_)
            refine lv_goto (tgt := 5) hx hb dX6_readNumber_68 (by decide) ?_
            exact ih5 (k + 1) ((v * 10) + ((txt p9) - 48)) (p9 + 1) _ _ _ (by subst i2; exact ctI_s i1 (by omega) (by omega)) (by omega) (by omega) (by omega) hP hD hS (lv_sub hl [0, 1, 2, 3, 4] rfl)
  exact L5 _ 0 0 pos _ _ _ (by exact ctI_0 hm.1) (by omega) (by omega) (Nat.lt_succ_self _) hP hD hS (lv_sub hl [0, 1, 2, 3, 4] rfl)

set_option maxHeartbeats 4000000 in
set_option maxRecDepth 100000 in
theorem c_X6_readValues (l : Launch) (K : Nat → Nat) (D : va_G) (tA : Nat → ClassId) (a0 a1 a2 : Nat) (sz : Nat) (pos : Int) (cmd : Int) (vals : Int → Int) (txt : Int → Int) (len : Int) (hln : 0 ≤ len ∧ len ≤ 60) (htx : ∀ j, 0 ≤ j → j < len → 0 ≤ txt j ∧ txt j ≤ 65535) (hps : 0 ≤ pos ∧ pos ≤ len) (hcmd : 0 ≤ cmd ∧ cmd < 8) (hva : ∀ j, 0 ≤ j → j < 4 → 0 ≤ vals j ∧ vals j ≤ 9999) : zCi l yX6_readValues wsX6_readValues ({ frames := 4, cells := 0, slots := 0, locals := 85 }) K D tA [.ref a0] (bScript tA K a0 a1 a2 pos cmd vals txt len) sz (fun (z : Int) (u : (Int → Int) × (Int)) => (z = (pVals txt len (sTx.getD (dgI (Int.toNat cmd)) []) pos).1 ∧ u.2 = (pVals txt len (sTx.getD (dgI (Int.toNat cmd)) []) pos).2.1 ∧ (z = 1 → ∀ j, 0 ≤ j → j < ((sLn (dgI (Int.toNat cmd)) : Nat) : Int) → u.1 j = (pVals txt len (sTx.getD (dgI (Int.toNat cmd)) []) pos).2.2.getD j.toNat 0)) ∧ (z = 0 ∨ z = 1) ∧ (0 ≤ u.2 ∧ u.2 ≤ len) ∧ (∀ j, 0 ≤ j → j < 4 → 0 ≤ u.1 j ∧ u.1 j ≤ 9999)) (fun (u : (Int → Int) × (Int)) => bScript tA K a0 a1 a2 u.2 cmd u.1 txt len) 0 0 := by
  refine zCi_of (cc := cX6_readValues) (maxL := 3) (by decide) rfl (fun z u h => zbool z (by omega)) (Nat.le_of_ble_eq_true rfl) ?_
  intro p e s m args below meth c A Q ls hx hb hml hts hown hK hP hD hA hCn hret hl
  obtain ⟨H, hHe⟩ : ∃ H : Heap, H = s.heap := ⟨_, rfl⟩
  have hS : va_S A s.heap H [] := by rw [hHe]; exact va_S.rf
  rw [← hHe] at hP ⊢
  have hl : lv_has ls 3 [(0, .ref a0)] := hl
  have iX6 : ∀ v ∈ wsX60, v ∈ wsX6_readValues := by decide +kernel
  have f_15 := hts (.fieldLink RX6 15 "HarborLights$Script" "command" "LHarborLights$Command;") (by decide +kernel)
  have f_82 := hts (.fieldLink RX6 82 "HarborLights$Command" "digits" "Ljava/lang/String;") (by decide +kernel)
  have hdg := dgI_in (Int.toNat cmd)
  have hd4 := dgI_4 (Int.toNat cmd)
  have hld : (((sTx.getD (dgI (Int.toNat cmd)) []).length : Nat) : Int) = ((sLn (dgI (Int.toNat cmd)) : Nat) : Int) := rfl
  refine lv_aload_n hx hb dX6_readValues_0 rfl (lv_at hl 0 rfl) ?_
  refine va_get (D := D) (ci := 8) (v := .ref (K (Int.toNat (Int.toNat cmd)))) (C := RX6) (T := TX6) (N := 5) hx hb hts iX6 hown hK hP 0 rfl rfl 1 (by decide) f_15 (fun _ h9 => h9) rfl dX6_readValues_1 ?_
  refine vk_getf hx hb (hCn.1.2.1 (Int.toNat cmd) (by omega)).2.2.2 hS hown f_82 (fun _ h9 => h9) dX6_readValues_4 ?_
  refine lv_astore_n (lv' := [(1, .ref (K (100 + (dgI (Int.toNat cmd))))), (0, .ref a0)]) hx hb dX6_readValues_7 rfl hl (by decide) rfl (fun ls hl => ?_)
  refine zz_iconst hx hb dX6_readValues_8 ?_
  refine lv_istore_n (lv' := [(2, .int (iI 0)), (1, .ref (K (100 + (dgI (Int.toNat cmd))))), (0, .ref a0)]) hx hb dX6_readValues_9 rfl hl (by decide) rfl (fun ls hl => ?_)
  have L10 : ∀ (n : Nat) (i : Int) (p9 : Int) (v9 : Int → Int) (H : Heap) (locs : List Loc) (ls : Array Slot), (0 ≤ i ∧ i ≤ ((sLn (dgI (Int.toNat cmd)) : Nat) : Int) ∧ 0 ≤ p9 ∧ p9 ≤ len) → (vlI txt len (sTx.getD (dgI (Int.toNat cmd)) []) pos i p9 v9) → (∀ j, 0 ≤ j → j < 4 → 0 ≤ v9 j ∧ v9 j ≤ 9999) → (((sLn (dgI (Int.toNat cmd)) : Nat) : Int) - i).toNat < n → va_P D vwCl (bScript tA K a0 a1 a2 p9 cmd v9 txt len) H → va_D A (bScript tA K a0 a1 a2 p9 cmd v9 txt len) → va_S A s.heap H locs → lv_has ls 3 [(2, .int (iI i)), (1, .ref (K (100 + (dgI (Int.toNat cmd))))), (0, .ref a0)] → W p l e (headSpec wsX6_readValues ({ frames := 4, cells := 0, slots := 0, locals := 85 })).room s m args below meth c H locs 0 0 Q (F0 m 10 ls []) := by
    intro n
    induction n with
    | zero => intro i p9 v9 H locs ls i0 i1 i2 hmz; exact absurd hmz (Nat.not_lt_zero _)
    | succ n ih10 =>
      intro i p9 v9 H locs ls i0 i1 i2 hmz hP hD hS hl
      refine lv_iload_n hx hb dX6_readValues_10 rfl (lv_at hl 0 rfl) ?_
      refine lv_aload_n hx hb dX6_readValues_11 rfl (lv_at hl 1 rfl) ?_
      refine zc_callOi (As := []) (rest := [.int (iI i)]) (wf := fun u => bScript tA K a0 a1 a2 p9 cmd v9 txt len) ⟨hx, hb, hml, hown, hts⟩ (c_J0_length_8abf5 l K D tA  H.size (dgI (Int.toNat cmd)) (by first | assumption | omega)) (cwV 0 hts gX6_readValues_J0_length_8abf5 rfl rfl rfl (by decide +kernel) ⟨Nat.le_of_ble_eq_true rfl, Nat.le_of_ble_eq_true rfl⟩) hK hP hD hS hA hCn [] [0, 1, 2] [0, 1, 2] rfl rfl (by decide) (by decide) (by decide) (by decide) (fun _ => rfl) (hCn.1.2.2 (dgI (Int.toNat cmd)) (by omega)).1 rfl rfl hl.1 (Nat.le_of_ble_eq_true rfl) dX6_readValues_12 ⟨Nat.le_of_ble_eq_true rfl, Nat.le_of_ble_eq_true rfl⟩ ?_
      intro z12_1 u H locs p12_2 hP hD hS
      have hP : va_P D vwCl (bScript tA K a0 a1 a2 p9 cmd v9 txt len) H := hP
      have hD : va_D A (bScript tA K a0 a1 a2 p9 cmd v9 txt len) := hD
      have q_12 : z12_1 = ((sLn (dgI (Int.toNat cmd)) : Nat) : Int) := p12_2
      refine zz_icmp_ge (tgt := 56) hx hb dX6_readValues_15 (by decide) (by omega) (by omega) (fun c_15 => ?_) (fun c_15 => ?_)
      · refine zz_iconst hx hb dX6_readValues_56 ?_
        exact hret 1 (v9, p9) _ _ _ _ dX6_readValues_57 ⟨(show (1 : Int) = (pVals txt len (sTx.getD (dgI (Int.toNat cmd)) []) pos).1 ∧ p9 = (pVals txt len (sTx.getD (dgI (Int.toNat cmd)) []) pos).2.1 ∧ ((1 : Int) = 1 → ∀ j, 0 ≤ j → j < ((sLn (dgI (Int.toNat cmd)) : Nat) : Int) → v9 j = (pVals txt len (sTx.getD (dgI (Int.toNat cmd)) []) pos).2.2.getD j.toNat 0) from by exact vlI_end i1 (by omega)), (show (1 : Int) = 0 ∨ (1 : Int) = 1 from by omega), (show 0 ≤ p9 ∧ p9 ≤ len from by omega), (show ∀ j, 0 ≤ j → j < 4 → 0 ≤ v9 j ∧ v9 j ≤ 9999 from by first | exact i2 | exact vrg_s i2 hnv)⟩ hP hD hS
      · refine lv_iload_n hx hb dX6_readValues_18 rfl (lv_at hl 0 rfl) ?_
        refine zz_iconst hx hb dX6_readValues_19 ?_
        refine zz_icmp_ge (tgt := 56) hx hb dX6_readValues_20 (by decide) (by omega) (by decide) (fun c_20 => ?_) (fun c_20 => ?_)
        · refine zz_iconst hx hb dX6_readValues_56 ?_
          exact hret 1 (v9, p9) _ _ _ _ dX6_readValues_57 ⟨(show (1 : Int) = (pVals txt len (sTx.getD (dgI (Int.toNat cmd)) []) pos).1 ∧ p9 = (pVals txt len (sTx.getD (dgI (Int.toNat cmd)) []) pos).2.1 ∧ ((1 : Int) = 1 → ∀ j, 0 ≤ j → j < ((sLn (dgI (Int.toNat cmd)) : Nat) : Int) → v9 j = (pVals txt len (sTx.getD (dgI (Int.toNat cmd)) []) pos).2.2.getD j.toNat 0) from by exact vlI_end i1 (by omega)), (show (1 : Int) = 0 ∨ (1 : Int) = 1 from by omega), (show 0 ≤ p9 ∧ p9 ≤ len from by omega), (show ∀ j, 0 ≤ j → j < 4 → 0 ≤ v9 j ∧ v9 j ≤ 9999 from by first | exact i2 | exact vrg_s i2 hnv)⟩ hP hD hS
        · refine lv_aload_n hx hb dX6_readValues_23 rfl (lv_at hl 2 rfl) ?_
          refine zz_bipush hx hb dX6_readValues_24 (by decide) ?_
          refine zz_callVi (As := [.int (iI 32)]) (rest := []) (wf := fun u => bScript tA K a0 a1 a2 u cmd v9 txt len) ⟨hx, hb, hml, hown, hts⟩ (c_X6_take l K D tA a0 a1 a2 H.size p9 cmd v9 txt len 32 (by first | assumption | omega) (by first | assumption | omega) (by first | assumption | omega) (by first | assumption | omega)) (cwV 1 hts gX6_readValues_X6_take rfl rfl rfl (by decide +kernel) ⟨Nat.le_of_ble_eq_true rfl, Nat.le_of_ble_eq_true rfl⟩) hK hP hD hS hA [0, 1, 2] [] [0, 1, 2] rfl rfl (by decide) (by decide) (by decide) (by decide) (fun _ => rfl) (ci := 8) (q0 := 0) rfl rfl rfl rfl rfl hl.1 (Nat.le_of_ble_eq_true rfl) dX6_readValues_26 ⟨Nat.le_of_ble_eq_true rfl, Nat.le_of_ble_eq_true rfl⟩ ?_
          intro z26_4 u H locs p26_5 hP hD hS
          obtain ⟨pos_3, rfl⟩ : ∃ q, q = u := ⟨_, rfl⟩
          have hP : va_P D vwCl (bScript tA K a0 a1 a2 pos_3 cmd v9 txt len) H := hP
          have hD : va_D A (bScript tA K a0 a1 a2 pos_3 cmd v9 txt len) := hD
          have q_26 : (z26_4 = 1 ∧ p9 < len ∧ txt p9 = 32 ∧ pos_3 = p9 + 1) ∨ (z26_4 = 0 ∧ ¬ (p9 < len ∧ txt p9 = 32) ∧ pos_3 = p9) := p26_5
          refine zz_if_eq (tgt := 48) hx hb dX6_readValues_29 (by decide) (by omega) (fun c_29 => ?_) (fun c_29 => ?_)
          · refine zz_iconst hx hb dX6_readValues_48 ?_
            exact hret 0 (v9, pos_3) _ _ _ _ dX6_readValues_49 ⟨(show (0 : Int) = (pVals txt len (sTx.getD (dgI (Int.toNat cmd)) []) pos).1 ∧ pos_3 = (pVals txt len (sTx.getD (dgI (Int.toNat cmd)) []) pos).2.1 ∧ ((0 : Int) = 1 → ∀ j, 0 ≤ j → j < ((sLn (dgI (Int.toNat cmd)) : Nat) : Int) → v9 j = (pVals txt len (sTx.getD (dgI (Int.toNat cmd)) []) pos).2.2.getD j.toNat 0) from by first | exact vlI_no1 i1 (by omega) (by omega) (by omega) (by omega) | exact vlI_no2 (px := pos_3) (m := z36_6 - 48) i1 (by omega) (by omega) (by omega) (by omega) (by rw [q_36]; rfl) (by omega)), (show (0 : Int) = 0 ∨ (0 : Int) = 1 from by omega), (show 0 ≤ pos_3 ∧ pos_3 ≤ len from by omega), (show ∀ j, 0 ≤ j → j < 4 → 0 ≤ v9 j ∧ v9 j ≤ 9999 from by first | exact i2 | exact vrg_s i2 hnv)⟩ hP hD hS
          · refine lv_aload_n hx hb dX6_readValues_32 rfl (lv_at hl 2 rfl) ?_
            refine lv_iload_n hx hb dX6_readValues_33 rfl (lv_at hl 0 rfl) ?_
            refine lv_aload_n hx hb dX6_readValues_34 rfl (lv_at hl 1 rfl) ?_
            refine lv_iload_n hx hb dX6_readValues_35 rfl (lv_at hl 0 rfl) ?_
            refine zc_callOi (As := [.int (iI i)]) (rest := [.int (iI i), .ref a0]) (wf := fun u => bScript tA K a0 a1 a2 pos_3 cmd v9 txt len) ⟨hx, hb, hml, hown, hts⟩ (c_J0_charAt_5068e l K D tA  H.size (dgI (Int.toNat cmd)) i (by first | assumption | omega) (by first | assumption | omega) (by first | assumption | omega)) (cwV 1 hts gX6_readValues_J0_charAt_5068e rfl rfl rfl (by decide +kernel) ⟨Nat.le_of_ble_eq_true rfl, Nat.le_of_ble_eq_true rfl⟩) hK hP hD hS hA hCn [] [0, 1, 2] [0, 1, 2] rfl rfl (by decide) (by decide) (by decide) (by decide) (fun _ => rfl) (hCn.1.2.2 (dgI (Int.toNat cmd)) (by omega)).1 rfl rfl hl.1 (Nat.le_of_ble_eq_true rfl) dX6_readValues_36 ⟨Nat.le_of_ble_eq_true rfl, Nat.le_of_ble_eq_true rfl⟩ ?_
            intro z36_6 u H locs p36_7 hP hD hS
            have hP : va_P D vwCl (bScript tA K a0 a1 a2 pos_3 cmd v9 txt len) H := hP
            have hD : va_D A (bScript tA K a0 a1 a2 pos_3 cmd v9 txt len) := hD
            have q_36 : z36_6 = sCh (dgI (Int.toNat cmd)) i := p36_7.1
            have q2_36 : 0 ≤ z36_6 ∧ z36_6 ≤ 126 := p36_7.2
            have hdc := dgI_ch (Int.toNat cmd) i (by omega) (by omega)
            rw [← q_36] at hdc
            refine zz_bipush hx hb dX6_readValues_39 (by decide) ?_
            refine zz_isub hx hb dX6_readValues_41 ?_
            refine zz_callVi (As := [.int (iI i), .int (iI (z36_6 - 48))]) (rest := []) (wf := fun u => bScript tA K a0 a1 a2 (pos_3 + ctD txt len (z36_6 - 48).toNat pos_3) cmd (zU v9 i (nvD txt pos_3 (ctD txt len (z36_6 - 48).toNat pos_3).toNat)) txt len) ⟨hx, hb, hml, hown, hts⟩ (c_X6_readNumber l K D tA a0 a1 a2 H.size pos_3 cmd v9 txt len i (z36_6 - 48) (by first | assumption | omega) (by first | assumption | omega) (by first | assumption | omega) (by first | assumption | omega) (by first | assumption | omega) (by first | assumption | omega) (by first | assumption | omega)) (cwV 2 hts gX6_readValues_X6_readNumber rfl rfl rfl (by decide +kernel) ⟨Nat.le_of_ble_eq_true rfl, Nat.le_of_ble_eq_true rfl⟩) hK hP hD hS hA [0, 1, 2] [] [0, 1, 2] rfl rfl (by decide) (by decide) (by decide) (by decide) (fun _ => rfl) (ci := 8) (q0 := 0) rfl rfl rfl rfl rfl hl.1 (Nat.le_of_ble_eq_true rfl) dX6_readValues_42 ⟨Nat.le_of_ble_eq_true rfl, Nat.le_of_ble_eq_true rfl⟩ ?_
            intro z42_8 u H locs p42_9 hP hD hS
            have hP : va_P D vwCl (bScript tA K a0 a1 a2 (pos_3 + ctD txt len (z36_6 - 48).toNat pos_3) cmd (zU v9 i (nvD txt pos_3 (ctD txt len (z36_6 - 48).toNat pos_3).toNat)) txt len) H := hP
            have hD : va_D A (bScript tA K a0 a1 a2 (pos_3 + ctD txt len (z36_6 - 48).toNat pos_3) cmd (zU v9 i (nvD txt pos_3 (ctD txt len (z36_6 - 48).toNat pos_3).toNat)) txt len) := hD
            have q_42 : (z42_8 = 1 ∧ ctD txt len (z36_6 - 48).toNat pos_3 ≠ 0) ∨ (z42_8 = 0 ∧ ctD txt len (z36_6 - 48).toNat pos_3 = 0) := p42_9
            have hcd := ctD_in txt len (Int.toNat (z36_6 - 48)) pos_3 (by omega)
            have hnv := nvD_9999 (txt := txt) (len := len) (p := pos_3) (m := z36_6 - 48) (by omega) (by omega) (by omega)
            refine zz_if_ne (tgt := 50) hx hb dX6_readValues_45 (by decide) (by omega) (fun c_45 => ?_) (fun c_45 => ?_)
            · refine zz_iinc (lv' := [(2, .int (iI (i + 1))), (1, .ref (K (100 + (dgI (Int.toNat cmd))))), (0, .ref a0)]) hx hb dX6_readValues_50 hl (k := 0) rfl (by decide) rfl (fun ls hl => ?_)
              refine lv_goto (tgt := 10) hx hb dX6_readValues_53 (by decide) ?_
              exact ih10 (i + 1) (pos_3 + ctD txt len (z36_6 - 48).toNat pos_3) (zU v9 i (nvD txt pos_3 (ctD txt len (z36_6 - 48).toNat pos_3).toNat)) _ _ _ (by omega) (by exact vlI_s i1 (by omega) (by omega) (by omega) (by omega) (by rw [q_36]; rfl) (by omega)) (by exact vrg_s i2 hnv) (by omega) hP hD hS (lv_sub hl [0, 1, 2] rfl)
            · refine zz_iconst hx hb dX6_readValues_48 ?_
              exact hret 0 ((zU v9 i (nvD txt pos_3 (ctD txt len (z36_6 - 48).toNat pos_3).toNat)), (pos_3 + ctD txt len (z36_6 - 48).toNat pos_3)) _ _ _ _ dX6_readValues_49 ⟨(show (0 : Int) = (pVals txt len (sTx.getD (dgI (Int.toNat cmd)) []) pos).1 ∧ (pos_3 + ctD txt len (z36_6 - 48).toNat pos_3) = (pVals txt len (sTx.getD (dgI (Int.toNat cmd)) []) pos).2.1 ∧ ((0 : Int) = 1 → ∀ j, 0 ≤ j → j < ((sLn (dgI (Int.toNat cmd)) : Nat) : Int) → (zU v9 i (nvD txt pos_3 (ctD txt len (z36_6 - 48).toNat pos_3).toNat)) j = (pVals txt len (sTx.getD (dgI (Int.toNat cmd)) []) pos).2.2.getD j.toNat 0) from by first | exact vlI_no1 i1 (by omega) (by omega) (by omega) (by omega) | exact vlI_no2 (px := pos_3) (m := z36_6 - 48) i1 (by omega) (by omega) (by omega) (by omega) (by rw [q_36]; rfl) (by omega)), (show (0 : Int) = 0 ∨ (0 : Int) = 1 from by omega), (show 0 ≤ (pos_3 + ctD txt len (z36_6 - 48).toNat pos_3) ∧ (pos_3 + ctD txt len (z36_6 - 48).toNat pos_3) ≤ len from by omega), (show ∀ j, 0 ≤ j → j < 4 → 0 ≤ (zU v9 i (nvD txt pos_3 (ctD txt len (z36_6 - 48).toNat pos_3).toNat)) j ∧ (zU v9 i (nvD txt pos_3 (ctD txt len (z36_6 - 48).toNat pos_3).toNat)) j ≤ 9999 from by first | exact i2 | exact vrg_s i2 hnv)⟩ hP hD hS
  exact L10 _ 0 pos vals _ _ _ (by omega) (by exact vlI_0) (by exact hva) (Nat.lt_succ_self _) hP hD hS (lv_sub hl [0, 1, 2] rfl)

set_option maxHeartbeats 4000000 in
set_option maxRecDepth 100000 in
theorem c_X6_readNext (l : Launch) (K : Nat → Nat) (D : va_G) (tA : Nat → ClassId) (a0 a1 a2 : Nat) (sz : Nat) (pos : Int) (cmd : Int) (vals : Int → Int) (txt : Int → Int) (len : Int) (hln : 0 ≤ len ∧ len ≤ 60) (htx : ∀ j, 0 ≤ j → j < len → 0 ≤ txt j ∧ txt j ≤ 65535) (hps : 0 ≤ pos ∧ pos ≤ len) (hcmd : 0 ≤ cmd ∧ cmd < 8) (hva : ∀ j, 0 ≤ j → j < 4 → 0 ≤ vals j ∧ vals j ≤ 9999) : zCi l yX6_readNext wsX6_readNext ({ frames := 6, cells := 0, slots := 0, locals := 131 }) K D tA [.ref a0] (bScript tA K a0 a1 a2 pos cmd vals txt len) sz (fun (z : Int) (u : (Int) × (Int → Int) × (Int)) => (nxP txt len pos z u.1 u.2.2 u.2.1) ∧ (z = 0 ∨ z = 1) ∧ ((0 ≤ u.1 ∧ u.1 < 8) ∧ 0 ≤ u.2.2 ∧ u.2.2 ≤ len) ∧ (∀ j, 0 ≤ j → j < 4 → 0 ≤ u.2.1 j ∧ u.2.1 j ≤ 9999)) (fun (u : (Int) × (Int → Int) × (Int)) => bScript tA K a0 a1 a2 u.2.2 u.1 u.2.1 txt len) 0 0 := by
  refine zCi_of (cc := cX6_readNext) (maxL := 1) (by decide) rfl (fun z u h => zbool z (by omega)) (Nat.le_of_ble_eq_true rfl) ?_
  intro p e s m args below meth c A Q ls hx hb hml hts hown hK hP hD hA hCn hret hl
  obtain ⟨H, hHe⟩ : ∃ H : Heap, H = s.heap := ⟨_, rfl⟩
  have hS : va_S A s.heap H [] := by rw [hHe]; exact va_S.rf
  rw [← hHe] at hP ⊢
  have hl : lv_has ls 1 [(0, .ref a0)] := hl
  have iX6 : ∀ v ∈ wsX60, v ∈ wsX6_readNext := by decide +kernel
  have f_36 := hts (.fieldLink RX6 36 "HarborLights$Script" "position" "I") (by decide +kernel)
  refine lv_aload_n hx hb dX6_readNext_0 rfl (lv_at hl 0 rfl) ?_
  refine va_get (D := D) (ci := 8) (v := .int (iI pos)) (C := RX6) (T := TX6) (N := 5) hx hb hts iX6 hown hK hP 0 rfl rfl 0 (by decide) f_36 (fun _ h9 => h9) rfl dX6_readNext_1 ?_
  refine zz_if_le (tgt := 18) hx hb dX6_readNext_4 (by decide) (by omega) (fun c_4 => ?_) (fun c_4 => ?_)
  · refine lv_aload_n hx hb dX6_readNext_18 rfl (lv_at hl 0 rfl) ?_
    refine zc_callVi (As := []) (rest := []) (wf := fun u => bScript tA K a0 a1 a2 u.2 u.1 vals txt len) ⟨hx, hb, hml, hown, hts⟩ (c_X6_readWord l K D tA a0 a1 a2 H.size pos cmd vals txt len (by first | assumption | omega) (by first | assumption | omega) (by first | assumption | omega) (by first | assumption | omega)) (cwV 0 hts gX6_readNext_X6_readWord rfl rfl rfl (by decide +kernel) ⟨Nat.le_of_ble_eq_true rfl, Nat.le_of_ble_eq_true rfl⟩) hK hP hD hS hA hCn [0, 1, 2] [] [0, 1, 2] rfl rfl (by decide) (by decide) (by decide) (by decide) (fun _ => rfl) (ci := 8) (q0 := 0) rfl rfl rfl rfl rfl hl.1 (Nat.le_of_ble_eq_true rfl) dX6_readNext_19 ⟨Nat.le_of_ble_eq_true rfl, Nat.le_of_ble_eq_true rfl⟩ ?_
    intro z19_3 u H locs p19_4 hP hD hS
    obtain ⟨cmd_1, pos_2⟩ := u
    have hP : va_P D vwCl (bScript tA K a0 a1 a2 pos_2 cmd_1 vals txt len) H := hP
    have hD : va_D A (bScript tA K a0 a1 a2 pos_2 cmd_1 vals txt len) := hD
    have q_19 : z19_3 = (pWd txt len pos 8 0 0).1 ∧ pos_2 = (pWd txt len pos 8 0 0).2.2 ∧ (z19_3 = 1 → cmd_1 = (pWd txt len pos 8 0 0).2.1) := p19_4.1
    have q2_19 : z19_3 = 0 ∨ z19_3 = 1 := p19_4.2.1
    have q3_19 : (0 ≤ cmd_1 ∧ cmd_1 < 8) ∧ 0 ≤ pos_2 ∧ pos_2 ≤ len := p19_4.2.2
    refine zz_if_eq (tgt := 36) hx hb dX6_readNext_22 (by decide) (by omega) (fun c_22 => ?_) (fun c_22 => ?_)
    · refine zz_iconst hx hb dX6_readNext_36 ?_
      exact hret 0 (cmd_1, vals, pos_2) _ _ _ _ dX6_readNext_37 ⟨(show nxP txt len pos (0 : Int) cmd_1 pos_2 vals from by first | exact nxP_0 (by omega) q_19 q_26 (by omega) (by omega) | exact nxP_1 (by omega) (by omega) q_19 q_26 (by omega) (by omega) | exact nxP_w0 (by omega) q_19 (by omega) | exact nxP_w1 (by omega) (by omega) q_19 (by omega)), (show (0 : Int) = 0 ∨ (0 : Int) = 1 from by omega), (show (0 ≤ cmd_1 ∧ cmd_1 < 8) ∧ 0 ≤ pos_2 ∧ pos_2 ≤ len from by omega), (show ∀ j, 0 ≤ j → j < 4 → 0 ≤ vals j ∧ vals j ≤ 9999 from by assumption)⟩ hP hD hS
    · refine lv_aload_n hx hb dX6_readNext_25 rfl (lv_at hl 0 rfl) ?_
      refine zc_callVi (As := []) (rest := []) (wf := fun u => bScript tA K a0 a1 a2 u.2 cmd_1 u.1 txt len) ⟨hx, hb, hml, hown, hts⟩ (c_X6_readValues l K D tA a0 a1 a2 H.size pos_2 cmd_1 vals txt len (by first | assumption | omega) (by first | assumption | omega) (by first | assumption | omega) (by first | assumption | omega) (by first | assumption | omega)) (cwV 0 hts gX6_readNext_X6_readValues rfl rfl rfl (by decide +kernel) ⟨Nat.le_of_ble_eq_true rfl, Nat.le_of_ble_eq_true rfl⟩) hK hP hD hS hA hCn [0, 1, 2] [] [0, 1, 2] rfl rfl (by decide) (by decide) (by decide) (by decide) (fun _ => rfl) (ci := 8) (q0 := 0) rfl rfl rfl rfl rfl hl.1 (Nat.le_of_ble_eq_true rfl) dX6_readNext_26 ⟨Nat.le_of_ble_eq_true rfl, Nat.le_of_ble_eq_true rfl⟩ ?_
      intro z26_7 u H locs p26_8 hP hD hS
      obtain ⟨vals_5, pos_6⟩ := u
      have hP : va_P D vwCl (bScript tA K a0 a1 a2 pos_6 cmd_1 vals_5 txt len) H := hP
      have hD : va_D A (bScript tA K a0 a1 a2 pos_6 cmd_1 vals_5 txt len) := hD
      have q_26 : z26_7 = (pVals txt len (sTx.getD (dgI (Int.toNat cmd_1)) []) pos_2).1 ∧ pos_6 = (pVals txt len (sTx.getD (dgI (Int.toNat cmd_1)) []) pos_2).2.1 ∧ (z26_7 = 1 → ∀ j, 0 ≤ j → j < ((sLn (dgI (Int.toNat cmd_1)) : Nat) : Int) → vals_5 j = (pVals txt len (sTx.getD (dgI (Int.toNat cmd_1)) []) pos_2).2.2.getD j.toNat 0) := p26_8.1
      have q2_26 : z26_7 = 0 ∨ z26_7 = 1 := p26_8.2.1
      have q3_26 : 0 ≤ pos_6 ∧ pos_6 ≤ len := p26_8.2.2.1
      have q4_26 : ∀ j, 0 ≤ j → j < 4 → 0 ≤ vals_5 j ∧ vals_5 j ≤ 9999 := p26_8.2.2.2
      refine zz_if_eq (tgt := 36) hx hb dX6_readNext_29 (by decide) (by omega) (fun c_29 => ?_) (fun c_29 => ?_)
      · refine zz_iconst hx hb dX6_readNext_36 ?_
        exact hret 0 (cmd_1, vals_5, pos_6) _ _ _ _ dX6_readNext_37 ⟨(show nxP txt len pos (0 : Int) cmd_1 pos_6 vals_5 from by first | exact nxP_0 (by omega) q_19 q_26 (by omega) (by omega) | exact nxP_1 (by omega) (by omega) q_19 q_26 (by omega) (by omega) | exact nxP_w0 (by omega) q_19 (by omega) | exact nxP_w1 (by omega) (by omega) q_19 (by omega)), (show (0 : Int) = 0 ∨ (0 : Int) = 1 from by omega), (show (0 ≤ cmd_1 ∧ cmd_1 < 8) ∧ 0 ≤ pos_6 ∧ pos_6 ≤ len from by omega), (show ∀ j, 0 ≤ j → j < 4 → 0 ≤ vals_5 j ∧ vals_5 j ≤ 9999 from by assumption)⟩ hP hD hS
      · refine zz_iconst hx hb dX6_readNext_32 ?_
        refine lv_goto (tgt := 37) hx hb dX6_readNext_33 (by decide) ?_
        exact hret 1 (cmd_1, vals_5, pos_6) _ _ _ _ dX6_readNext_37 ⟨(show nxP txt len pos (1 : Int) cmd_1 pos_6 vals_5 from by first | exact nxP_0 (by omega) q_19 q_26 (by omega) (by omega) | exact nxP_1 (by omega) (by omega) q_19 q_26 (by omega) (by omega) | exact nxP_w0 (by omega) q_19 (by omega) | exact nxP_w1 (by omega) (by omega) q_19 (by omega)), (show (1 : Int) = 0 ∨ (1 : Int) = 1 from by omega), (show (0 ≤ cmd_1 ∧ cmd_1 < 8) ∧ 0 ≤ pos_6 ∧ pos_6 ≤ len from by omega), (show ∀ j, 0 ≤ j → j < 4 → 0 ≤ vals_5 j ∧ vals_5 j ≤ 9999 from by assumption)⟩ hP hD hS
  · refine lv_aload_n hx hb dX6_readNext_7 rfl (lv_at hl 0 rfl) ?_
    refine zz_bipush hx hb dX6_readNext_8 (by decide) ?_
    refine zz_callVi (As := [.int (iI 59)]) (rest := []) (wf := fun u => bScript tA K a0 a1 a2 u cmd vals txt len) ⟨hx, hb, hml, hown, hts⟩ (c_X6_take l K D tA a0 a1 a2 H.size pos cmd vals txt len 59 (by first | assumption | omega) (by first | assumption | omega) (by first | assumption | omega) (by first | assumption | omega)) (cwV 1 hts gX6_readNext_X6_take rfl rfl rfl (by decide +kernel) ⟨Nat.le_of_ble_eq_true rfl, Nat.le_of_ble_eq_true rfl⟩) hK hP hD hS hA [0, 1, 2] [] [0, 1, 2] rfl rfl (by decide) (by decide) (by decide) (by decide) (fun _ => rfl) (ci := 8) (q0 := 0) rfl rfl rfl rfl rfl hl.1 (Nat.le_of_ble_eq_true rfl) dX6_readNext_10 ⟨Nat.le_of_ble_eq_true rfl, Nat.le_of_ble_eq_true rfl⟩ ?_
    intro z10_10 u H locs p10_11 hP hD hS
    obtain ⟨pos_9, rfl⟩ : ∃ q, q = u := ⟨_, rfl⟩
    have hP : va_P D vwCl (bScript tA K a0 a1 a2 pos_9 cmd vals txt len) H := hP
    have hD : va_D A (bScript tA K a0 a1 a2 pos_9 cmd vals txt len) := hD
    have q_10 : (z10_10 = 1 ∧ pos < len ∧ txt pos = 59 ∧ pos_9 = pos + 1) ∨ (z10_10 = 0 ∧ ¬ (pos < len ∧ txt pos = 59) ∧ pos_9 = pos) := p10_11
    refine zz_if_ne (tgt := 18) hx hb dX6_readNext_13 (by decide) (by omega) (fun c_13 => ?_) (fun c_13 => ?_)
    · refine lv_aload_n hx hb dX6_readNext_18 rfl (lv_at hl 0 rfl) ?_
      refine zc_callVi (As := []) (rest := []) (wf := fun u => bScript tA K a0 a1 a2 u.2 u.1 vals txt len) ⟨hx, hb, hml, hown, hts⟩ (c_X6_readWord l K D tA a0 a1 a2 H.size pos_9 cmd vals txt len (by first | assumption | omega) (by first | assumption | omega) (by first | assumption | omega) (by first | assumption | omega)) (cwV 0 hts gX6_readNext_X6_readWord rfl rfl rfl (by decide +kernel) ⟨Nat.le_of_ble_eq_true rfl, Nat.le_of_ble_eq_true rfl⟩) hK hP hD hS hA hCn [0, 1, 2] [] [0, 1, 2] rfl rfl (by decide) (by decide) (by decide) (by decide) (fun _ => rfl) (ci := 8) (q0 := 0) rfl rfl rfl rfl rfl hl.1 (Nat.le_of_ble_eq_true rfl) dX6_readNext_19 ⟨Nat.le_of_ble_eq_true rfl, Nat.le_of_ble_eq_true rfl⟩ ?_
      intro z19_14 u H locs p19_15 hP hD hS
      obtain ⟨cmd_12, pos_13⟩ := u
      have hP : va_P D vwCl (bScript tA K a0 a1 a2 pos_13 cmd_12 vals txt len) H := hP
      have hD : va_D A (bScript tA K a0 a1 a2 pos_13 cmd_12 vals txt len) := hD
      have q_19 : z19_14 = (pWd txt len pos_9 8 0 0).1 ∧ pos_13 = (pWd txt len pos_9 8 0 0).2.2 ∧ (z19_14 = 1 → cmd_12 = (pWd txt len pos_9 8 0 0).2.1) := p19_15.1
      have q2_19 : z19_14 = 0 ∨ z19_14 = 1 := p19_15.2.1
      have q3_19 : (0 ≤ cmd_12 ∧ cmd_12 < 8) ∧ 0 ≤ pos_13 ∧ pos_13 ≤ len := p19_15.2.2
      refine zz_if_eq (tgt := 36) hx hb dX6_readNext_22 (by decide) (by omega) (fun c_22 => ?_) (fun c_22 => ?_)
      · refine zz_iconst hx hb dX6_readNext_36 ?_
        exact hret 0 (cmd_12, vals, pos_13) _ _ _ _ dX6_readNext_37 ⟨(show nxP txt len pos (0 : Int) cmd_12 pos_13 vals from by first | exact nxP_0 (by omega) q_19 q_26 (by omega) (by omega) | exact nxP_1 (by omega) (by omega) q_19 q_26 (by omega) (by omega) | exact nxP_w0 (by omega) q_19 (by omega) | exact nxP_w1 (by omega) (by omega) q_19 (by omega)), (show (0 : Int) = 0 ∨ (0 : Int) = 1 from by omega), (show (0 ≤ cmd_12 ∧ cmd_12 < 8) ∧ 0 ≤ pos_13 ∧ pos_13 ≤ len from by omega), (show ∀ j, 0 ≤ j → j < 4 → 0 ≤ vals j ∧ vals j ≤ 9999 from by assumption)⟩ hP hD hS
      · refine lv_aload_n hx hb dX6_readNext_25 rfl (lv_at hl 0 rfl) ?_
        refine zc_callVi (As := []) (rest := []) (wf := fun u => bScript tA K a0 a1 a2 u.2 cmd_12 u.1 txt len) ⟨hx, hb, hml, hown, hts⟩ (c_X6_readValues l K D tA a0 a1 a2 H.size pos_13 cmd_12 vals txt len (by first | assumption | omega) (by first | assumption | omega) (by first | assumption | omega) (by first | assumption | omega) (by first | assumption | omega)) (cwV 0 hts gX6_readNext_X6_readValues rfl rfl rfl (by decide +kernel) ⟨Nat.le_of_ble_eq_true rfl, Nat.le_of_ble_eq_true rfl⟩) hK hP hD hS hA hCn [0, 1, 2] [] [0, 1, 2] rfl rfl (by decide) (by decide) (by decide) (by decide) (fun _ => rfl) (ci := 8) (q0 := 0) rfl rfl rfl rfl rfl hl.1 (Nat.le_of_ble_eq_true rfl) dX6_readNext_26 ⟨Nat.le_of_ble_eq_true rfl, Nat.le_of_ble_eq_true rfl⟩ ?_
        intro z26_18 u H locs p26_19 hP hD hS
        obtain ⟨vals_16, pos_17⟩ := u
        have hP : va_P D vwCl (bScript tA K a0 a1 a2 pos_17 cmd_12 vals_16 txt len) H := hP
        have hD : va_D A (bScript tA K a0 a1 a2 pos_17 cmd_12 vals_16 txt len) := hD
        have q_26 : z26_18 = (pVals txt len (sTx.getD (dgI (Int.toNat cmd_12)) []) pos_13).1 ∧ pos_17 = (pVals txt len (sTx.getD (dgI (Int.toNat cmd_12)) []) pos_13).2.1 ∧ (z26_18 = 1 → ∀ j, 0 ≤ j → j < ((sLn (dgI (Int.toNat cmd_12)) : Nat) : Int) → vals_16 j = (pVals txt len (sTx.getD (dgI (Int.toNat cmd_12)) []) pos_13).2.2.getD j.toNat 0) := p26_19.1
        have q2_26 : z26_18 = 0 ∨ z26_18 = 1 := p26_19.2.1
        have q3_26 : 0 ≤ pos_17 ∧ pos_17 ≤ len := p26_19.2.2.1
        have q4_26 : ∀ j, 0 ≤ j → j < 4 → 0 ≤ vals_16 j ∧ vals_16 j ≤ 9999 := p26_19.2.2.2
        refine zz_if_eq (tgt := 36) hx hb dX6_readNext_29 (by decide) (by omega) (fun c_29 => ?_) (fun c_29 => ?_)
        · refine zz_iconst hx hb dX6_readNext_36 ?_
          exact hret 0 (cmd_12, vals_16, pos_17) _ _ _ _ dX6_readNext_37 ⟨(show nxP txt len pos (0 : Int) cmd_12 pos_17 vals_16 from by first | exact nxP_0 (by omega) q_19 q_26 (by omega) (by omega) | exact nxP_1 (by omega) (by omega) q_19 q_26 (by omega) (by omega) | exact nxP_w0 (by omega) q_19 (by omega) | exact nxP_w1 (by omega) (by omega) q_19 (by omega)), (show (0 : Int) = 0 ∨ (0 : Int) = 1 from by omega), (show (0 ≤ cmd_12 ∧ cmd_12 < 8) ∧ 0 ≤ pos_17 ∧ pos_17 ≤ len from by omega), (show ∀ j, 0 ≤ j → j < 4 → 0 ≤ vals_16 j ∧ vals_16 j ≤ 9999 from by assumption)⟩ hP hD hS
        · refine zz_iconst hx hb dX6_readNext_32 ?_
          refine lv_goto (tgt := 37) hx hb dX6_readNext_33 (by decide) ?_
          exact hret 1 (cmd_12, vals_16, pos_17) _ _ _ _ dX6_readNext_37 ⟨(show nxP txt len pos (1 : Int) cmd_12 pos_17 vals_16 from by first | exact nxP_0 (by omega) q_19 q_26 (by omega) (by omega) | exact nxP_1 (by omega) (by omega) q_19 q_26 (by omega) (by omega) | exact nxP_w0 (by omega) q_19 (by omega) | exact nxP_w1 (by omega) (by omega) q_19 (by omega)), (show (1 : Int) = 0 ∨ (1 : Int) = 1 from by omega), (show (0 ≤ cmd_12 ∧ cmd_12 < 8) ∧ 0 ≤ pos_17 ∧ pos_17 ≤ len from by omega), (show ∀ j, 0 ≤ j → j < 4 → 0 ≤ vals_16 j ∧ vals_16 j ≤ 9999 from by assumption)⟩ hP hD hS
    · refine zz_iconst hx hb dX6_readNext_16 ?_
      exact hret 0 (cmd, vals, pos_9) _ _ _ _ dX6_readNext_17 ⟨(show nxP txt len pos (0 : Int) cmd pos_9 vals from by exact nxP_sep (by omega) (by omega)), (show (0 : Int) = 0 ∨ (0 : Int) = 1 from by omega), (show (0 ≤ cmd ∧ cmd < 8) ∧ 0 ≤ pos_9 ∧ pos_9 ≤ len from by omega), (show ∀ j, 0 ≤ j → j < 4 → 0 ≤ vals j ∧ vals j ≤ 9999 from by assumption)⟩ hP hD hS

set_option maxHeartbeats 4000000 in
set_option maxRecDepth 100000 in
theorem c_X6_countCommands (l : Launch) (K : Nat → Nat) (D : va_G) (tA : Nat → ClassId) (a0 a1 a2 : Nat) (sz : Nat) (pos : Int) (cmd : Int) (vals : Int → Int) (txt : Int → Int) (len : Int) (hln : 0 ≤ len ∧ len ≤ 60) (htx : ∀ j, 0 ≤ j → j < len → 0 ≤ txt j ∧ txt j ≤ 65535) (hcmd : 0 ≤ cmd ∧ cmd < 8) (hva : ∀ j, 0 ≤ j → j < 4 → 0 ≤ vals j ∧ vals j ≤ 9999) : zCi l yX6_countCommands wsX6_countCommands ({ frames := 7, cells := 0, slots := 0, locals := 151 }) K D tA [.ref a0] (bScript tA K a0 a1 a2 pos cmd vals txt len) sz (fun (z : Int) (u : (Int) × (Int → Int) × (Int)) => (z = (pCnt txt len 60 1 0).1 ∧ u.2.2 = (pCnt txt len 60 1 0).2) ∧ ((0 ≤ u.1 ∧ u.1 < 8) ∧ 0 ≤ u.2.2 ∧ u.2.2 ≤ len ∧ -1 ≤ z ∧ z ≤ 60 ∧ z ≠ 0) ∧ (∀ j, 0 ≤ j → j < 4 → 0 ≤ u.2.1 j ∧ u.2.1 j ≤ 9999)) (fun (u : (Int) × (Int → Int) × (Int)) => bScript tA K a0 a1 a2 u.2.2 u.1 u.2.1 txt len) 0 0 := by
  refine zCi_of (cc := cX6_countCommands) (maxL := 2) (by decide) rfl (fun z u h => rfl) (Nat.le_of_ble_eq_true rfl) ?_
  intro p e s m args below meth c A Q ls hx hb hml hts hown hK hP hD hA hCn hret hl
  obtain ⟨H, hHe⟩ : ∃ H : Heap, H = s.heap := ⟨_, rfl⟩
  have hS : va_S A s.heap H [] := by rw [hHe]; exact va_S.rf
  rw [← hHe] at hP ⊢
  have hl : lv_has ls 2 [(0, .ref a0)] := hl
  have iX6 : ∀ v ∈ wsX60, v ∈ wsX6_countCommands := by decide +kernel
  have f_28 := hts (.fieldLink RX6 28 "HarborLights$Script" "length" "I") (by decide +kernel)
  have f_36 := hts (.fieldLink RX6 36 "HarborLights$Script" "position" "I") (by decide +kernel)
  refine lv_aload_n hx hb dX6_countCommands_0 rfl (lv_at hl 0 rfl) ?_
  refine zz_callVv (As := []) (rest := []) (wf := fun u => bScript tA K a0 a1 a2 0 cmd vals txt len) ⟨hx, hb, hml, hown, hts⟩ (c_X6_rewind l K D tA a0 a1 a2 H.size pos cmd vals txt len) (cwV 0 hts gX6_countCommands_X6_rewind rfl rfl rfl (by decide +kernel) ⟨Nat.le_of_ble_eq_true rfl, Nat.le_of_ble_eq_true rfl⟩) hK hP hD hS hA [0, 1, 2] [] [0, 1, 2] rfl rfl (by decide) (by decide) (by decide) (by decide) (fun _ => rfl) (ci := 8) (q0 := 0) rfl rfl rfl rfl rfl hl.1 (Nat.le_of_ble_eq_true rfl) dX6_countCommands_1 ⟨Nat.le_of_ble_eq_true rfl, Nat.le_of_ble_eq_true rfl⟩ ?_
  intro u H locs p1_1 hP hD hS
  have hP : va_P D vwCl (bScript tA K a0 a1 a2 0 cmd vals txt len) H := hP
  have hD : va_D A (bScript tA K a0 a1 a2 0 cmd vals txt len) := hD
  refine zz_iconst hx hb dX6_countCommands_4 ?_
  refine lv_istore_n (lv' := [(1, .int (iI 1)), (0, .ref a0)]) hx hb dX6_countCommands_5 rfl hl (by decide) rfl (fun ls hl => ?_)
  have L6 : ∀ (n : Nat) (c1 : Int) (m9 : Int) (v9 : Int → Int) (p9 : Int) (H : Heap) (locs : List Loc) (ls : Array Slot), (1 ≤ c1 ∧ c1 ≤ 61 ∧ 0 ≤ p9 ∧ p9 ≤ len ∧ 0 ≤ m9 ∧ m9 < 8) → (pCnt txt len 60 1 0 = pCnt txt len (61 - c1).toNat c1 p9) → (∀ j, 0 ≤ j → j < 4 → 0 ≤ v9 j ∧ v9 j ≤ 9999) → (61 - c1).toNat < n → va_P D vwCl (bScript tA K a0 a1 a2 p9 m9 v9 txt len) H → va_D A (bScript tA K a0 a1 a2 p9 m9 v9 txt len) → va_S A s.heap H locs → lv_has ls 2 [(1, .int (iI c1)), (0, .ref a0)] → W p l e (headSpec wsX6_countCommands ({ frames := 7, cells := 0, slots := 0, locals := 151 })).room s m args below meth c H locs 0 0 Q (F0 m 6 ls []) := by
    intro n
    induction n with
    | zero => intro c1 m9 v9 p9 H locs ls i0 i1 i2 hmz; exact absurd hmz (Nat.not_lt_zero _)
    | succ n ih6 =>
      intro c1 m9 v9 p9 H locs ls i0 i1 i2 hmz hP hD hS hl
      refine lv_iload_n hx hb dX6_countCommands_6 rfl (lv_at hl 0 rfl) ?_
      refine zz_bipush hx hb dX6_countCommands_7 (by decide) ?_
      refine zz_icmp_gt (tgt := 40) hx hb dX6_countCommands_9 (by decide) (by omega) (by decide) (fun c_9 => ?_) (fun c_9 => ?_)
      · refine zz_iconst hx hb dX6_countCommands_40 ?_
        exact hret (-1) (m9, v9, p9) _ _ _ _ dX6_countCommands_41 ⟨(show ((-1) : Int) = (pCnt txt len 60 1 0).1 ∧ p9 = (pCnt txt len 60 1 0).2 from by rw [i1, show c1 = 61 by omega]; exact ⟨rfl, rfl⟩), (show (0 ≤ m9 ∧ m9 < 8) ∧ 0 ≤ p9 ∧ p9 ≤ len ∧ -1 ≤ ((-1) : Int) ∧ ((-1) : Int) ≤ 60 ∧ ((-1) : Int) ≠ 0 from by omega), (show ∀ j, 0 ≤ j → j < 4 → 0 ≤ v9 j ∧ v9 j ≤ 9999 from by first | exact q4_13 | exact i2)⟩ hP hD hS
      · refine lv_aload_n hx hb dX6_countCommands_12 rfl (lv_at hl 1 rfl) ?_
        refine zc_callVi (As := []) (rest := []) (wf := fun u => bScript tA K a0 a1 a2 u.2.2 u.1 u.2.1 txt len) ⟨hx, hb, hml, hown, hts⟩ (c_X6_readNext l K D tA a0 a1 a2 H.size p9 m9 v9 txt len (by first | assumption | omega) (by first | assumption | omega) (by first | assumption | omega) (by first | assumption | omega) (by first | assumption | omega)) (cwV 0 hts gX6_countCommands_X6_readNext rfl rfl rfl (by decide +kernel) ⟨Nat.le_of_ble_eq_true rfl, Nat.le_of_ble_eq_true rfl⟩) hK hP hD hS hA hCn [0, 1, 2] [] [0, 1, 2] rfl rfl (by decide) (by decide) (by decide) (by decide) (fun _ => rfl) (ci := 8) (q0 := 0) rfl rfl rfl rfl rfl hl.1 (Nat.le_of_ble_eq_true rfl) dX6_countCommands_13 ⟨Nat.le_of_ble_eq_true rfl, Nat.le_of_ble_eq_true rfl⟩ ?_
        intro z13_5 u H locs p13_6 hP hD hS
        obtain ⟨cmd_2, vals_3, pos_4⟩ := u
        have hP : va_P D vwCl (bScript tA K a0 a1 a2 pos_4 cmd_2 vals_3 txt len) H := hP
        have hD : va_D A (bScript tA K a0 a1 a2 pos_4 cmd_2 vals_3 txt len) := hD
        have q_13 : nxP txt len p9 z13_5 cmd_2 pos_4 vals_3 := p13_6.1
        have q2_13 : z13_5 = 0 ∨ z13_5 = 1 := p13_6.2.1
        have q3_13 : (0 ≤ cmd_2 ∧ cmd_2 < 8) ∧ 0 ≤ pos_4 ∧ pos_4 ≤ len := p13_6.2.2.1
        have q4_13 : ∀ j, 0 ≤ j → j < 4 → 0 ≤ vals_3 j ∧ vals_3 j ≤ 9999 := p13_6.2.2.2
        refine zz_if_ne (tgt := 21) hx hb dX6_countCommands_16 (by decide) (by omega) (fun c_16 => ?_) (fun c_16 => ?_)
        · refine lv_aload_n hx hb dX6_countCommands_21 rfl (lv_at hl 1 rfl) ?_
          refine va_get (D := D) (ci := 8) (v := .int (iI pos_4)) (C := RX6) (T := TX6) (N := 5) hx hb hts iX6 hown hK hP 0 rfl rfl 0 (by decide) f_36 (fun _ h9 => h9) rfl dX6_countCommands_22 ?_
          refine lv_aload_n hx hb dX6_countCommands_25 rfl (lv_at hl 1 rfl) ?_
          refine va_get (D := D) (ci := 8) (v := .int (iI len)) (C := RX6) (T := TX6) (N := 5) hx hb hts iX6 hown hK hP 0 rfl rfl 4 (by decide) f_28 (fun _ h9 => h9) rfl dX6_countCommands_26 ?_
          refine zz_icmp_ne (tgt := 34) hx hb dX6_countCommands_29 (by decide) (by omega) (by omega) (fun c_29 => ?_) (fun c_29 => ?_)
          · refine zz_iinc (lv' := [(1, .int (iI (c1 + 1))), (0, .ref a0)]) hx hb dX6_countCommands_34 hl (k := 0) rfl (by decide) rfl (fun ls hl => ?_)
            refine lv_goto (tgt := 6) hx hb dX6_countCommands_37 (by decide) ?_
            exact ih6 (c1 + 1) cmd_2 vals_3 pos_4 _ _ _ (by omega) (by rw [i1]; exact cnt_s q_13 (by omega) (by omega) (by omega)) (by exact q4_13) (by omega) hP hD hS (lv_sub hl [0, 1] rfl)
          · refine lv_iload_n hx hb dX6_countCommands_32 rfl (lv_at hl 0 rfl) ?_
            exact hret c1 (cmd_2, vals_3, pos_4) _ _ _ _ dX6_countCommands_33 ⟨(show c1 = (pCnt txt len 60 1 0).1 ∧ pos_4 = (pCnt txt len 60 1 0).2 from by rw [i1]; exact cnt_yes q_13 (by omega) (by omega) (by omega)), (show (0 ≤ cmd_2 ∧ cmd_2 < 8) ∧ 0 ≤ pos_4 ∧ pos_4 ≤ len ∧ -1 ≤ c1 ∧ c1 ≤ 60 ∧ c1 ≠ 0 from by omega), (show ∀ j, 0 ≤ j → j < 4 → 0 ≤ vals_3 j ∧ vals_3 j ≤ 9999 from by first | exact q4_13 | exact i2)⟩ hP hD hS
        · refine zz_iconst hx hb dX6_countCommands_19 ?_
          exact hret (-1) (cmd_2, vals_3, pos_4) _ _ _ _ dX6_countCommands_20 ⟨(show ((-1) : Int) = (pCnt txt len 60 1 0).1 ∧ pos_4 = (pCnt txt len 60 1 0).2 from by rw [i1]; exact cnt_no q_13 (by omega) (by omega)), (show (0 ≤ cmd_2 ∧ cmd_2 < 8) ∧ 0 ≤ pos_4 ∧ pos_4 ≤ len ∧ -1 ≤ ((-1) : Int) ∧ ((-1) : Int) ≤ 60 ∧ ((-1) : Int) ≠ 0 from by omega), (show ∀ j, 0 ≤ j → j < 4 → 0 ≤ vals_3 j ∧ vals_3 j ≤ 9999 from by first | exact q4_13 | exact i2)⟩ hP hD hS
  exact L6 _ 1 cmd vals 0 _ _ _ (by omega) (by rfl) (by exact hva) (Nat.lt_succ_self _) hP hD hS (lv_sub hl [0, 1] rfl)

