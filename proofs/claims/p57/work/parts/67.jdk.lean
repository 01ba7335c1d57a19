/-! ===== the JDK's own methods ===== -/
abbrev bLine (tA : Nat → ClassId) (a0 a1 : Nat) (lnb : Int → Int) (lml : Int) (lct : Int) : va_W := [(a0, .inr (1, [.ref a1, .int (iI 0), .int (iI lml), .int (iI lct)])), (a1, .inl (tA 3, 16, .inl (zA lnb)))]
abbrev bScript (tA : Nat → ClassId) (K : Nat → Nat) (a0 a1 a2 : Nat) (pos : Int) (cmd : Int) (vals : Int → Int) (txt : Int → Int) (len : Int) : va_W := [(a0, .inr (8, [.int (iI pos), .ref (K (Int.toNat cmd)), .ref a1, .ref a2, .int (iI len)])), (a1, .inl (tA 0, 4, .inl (zA vals))), (a2, .inl (tA 2, 60, .inl (zA txt)))]
set_option maxHeartbeats 4000000 in
set_option maxRecDepth 100000 in
theorem c_J0_coder_7d493 (l : Launch) (K : Nat → Nat) (D : va_G) (tA : Nat → ClassId) (sz : Nat) (si : Nat) (hsi : si < 24) : zCi l yJ0_coder_7d493 wsJ0_coder_7d493 ({ frames := 0, cells := 0, slots := 0, locals := 0 }) K D tA [.ref (K (100 + si))] ([]) sz (fun (z : Int) (u : Unit) => (z = 0)) (fun (u : Unit) => []) 0 0 := by
  refine zCi_of (cc := cJ0_coder_7d493) (maxL := 1) (by decide) rfl (fun z u h => by have h0 : z = 0 := h; subst h0; rfl) (Nat.le_of_ble_eq_true rfl) ?_
  intro p e s m args below meth c A Q ls hx hb hml hts hown hK hP hD hA hCn hret hl
  obtain ⟨H, hHe⟩ : ∃ H : Heap, H = s.heap := ⟨_, rfl⟩
  have hS : va_S A s.heap H [] := by rw [hHe]; exact va_S.rf
  rw [← hHe] at hP ⊢
  have hl : lv_has ls 1 [(0, .ref (K (100 + si)))] := hl
  have f_15 := hts (.fieldLink RJ0 15 "java/lang/String" "coder" "B") (by decide +kernel)
  have f_38 := hts (.fieldLink RJ0 38 "java/lang/String" "COMPACT_STRINGS" "Z") (by decide +kernel)
  refine va_gets hx hb hCn.1.1.1 hS hown f_38 (fun _ h9 => h9) dJ0_coder_7d493_0 ?_
  refine zz_if_eq (tgt := 13) hx hb dJ0_coder_7d493_3 (by decide) (by decide) (fun c_3 => ?_) (fun c_3 => ?_)
  · exact absurd c_3 (by decide)
  · refine lv_aload_n hx hb dJ0_coder_7d493_6 rfl (lv_at hl 0 rfl) ?_
    refine vk_getf hx hb (hCn.1.2.2 si (by omega)).2.1 hS hown f_15 (fun _ h9 => h9) dJ0_coder_7d493_7 ?_
    refine lv_goto (tgt := 14) hx hb dJ0_coder_7d493_10 (by decide) ?_
    exact hret 0 () _ _ _ _ dJ0_coder_7d493_14 (show (0 : Int) = 0 from by omega) hP hD hS

set_option maxHeartbeats 4000000 in
set_option maxRecDepth 100000 in
theorem c_J0_isLatin1_aae02 (l : Launch) (K : Nat → Nat) (D : va_G) (tA : Nat → ClassId) (sz : Nat) (si : Nat) (hsi : si < 24) : zCi l yJ0_isLatin1_aae02 wsJ0_isLatin1_aae02 ({ frames := 0, cells := 0, slots := 0, locals := 0 }) K D tA [.ref (K (100 + si))] ([]) sz (fun (z : Int) (u : Unit) => (z = 1)) (fun (u : Unit) => []) 0 0 := by
  refine zCi_of (cc := cJ0_isLatin1_aae02) (maxL := 1) (by decide) rfl (fun z u h => zbool z (by omega)) (Nat.le_of_ble_eq_true rfl) ?_
  intro p e s m args below meth c A Q ls hx hb hml hts hown hK hP hD hA hCn hret hl
  obtain ⟨H, hHe⟩ : ∃ H : Heap, H = s.heap := ⟨_, rfl⟩
  have hS : va_S A s.heap H [] := by rw [hHe]; exact va_S.rf
  rw [← hHe] at hP ⊢
  have hl : lv_has ls 1 [(0, .ref (K (100 + si)))] := hl
  have f_15 := hts (.fieldLink RJ0 15 "java/lang/String" "coder" "B") (by decide +kernel)
  have f_38 := hts (.fieldLink RJ0 38 "java/lang/String" "COMPACT_STRINGS" "Z") (by decide +kernel)
  refine va_gets hx hb hCn.1.1.1 hS hown f_38 (fun _ h9 => h9) dJ0_isLatin1_aae02_0 ?_
  refine zz_if_eq (tgt := 17) hx hb dJ0_isLatin1_aae02_3 (by decide) (by decide) (fun c_3 => ?_) (fun c_3 => ?_)
  · exact absurd c_3 (by decide)
  · refine lv_aload_n hx hb dJ0_isLatin1_aae02_6 rfl (lv_at hl 0 rfl) ?_
    refine vk_getf hx hb (hCn.1.2.2 si (by omega)).2.1 hS hown f_15 (fun _ h9 => h9) dJ0_isLatin1_aae02_7 ?_
    refine zz_if_ne (tgt := 17) hx hb dJ0_isLatin1_aae02_10 (by decide) (by decide) (fun c_10 => ?_) (fun c_10 => ?_)
    · exact absurd c_10 (by decide)
    · refine zz_iconst hx hb dJ0_isLatin1_aae02_13 ?_
      refine lv_goto (tgt := 18) hx hb dJ0_isLatin1_aae02_14 (by decide) ?_
      exact hret 1 () _ _ _ _ dJ0_isLatin1_aae02_18 (show (1 : Int) = 1 from by omega) hP hD hS

set_option maxHeartbeats 4000000 in
set_option maxRecDepth 100000 in
theorem c_J0_length_8abf5 (l : Launch) (K : Nat → Nat) (D : va_G) (tA : Nat → ClassId) (sz : Nat) (si : Nat) (hsi : si < 24) : zCi l yJ0_length_8abf5 wsJ0_length_8abf5 ({ frames := 1, cells := 0, slots := 0, locals := 20 }) K D tA [.ref (K (100 + si))] ([]) sz (fun (z : Int) (u : Unit) => (z = ((sLn si : Nat) : Int))) (fun (u : Unit) => []) 0 0 := by
  refine zCi_of (cc := cJ0_length_8abf5) (maxL := 1) (by decide) rfl (fun z u h => rfl) (Nat.le_of_ble_eq_true rfl) ?_
  intro p e s m args below meth c A Q ls hx hb hml hts hown hK hP hD hA hCn hret hl
  obtain ⟨H, hHe⟩ : ∃ H : Heap, H = s.heap := ⟨_, rfl⟩
  have hS : va_S A s.heap H [] := by rw [hHe]; exact va_S.rf
  rw [← hHe] at hP ⊢
  have hl : lv_has ls 1 [(0, .ref (K (100 + si)))] := hl
  have f_9 := hts (.fieldLink RJ0 9 "java/lang/String" "value" "[B") (by decide +kernel)
  refine lv_aload_n hx hb dJ0_length_8abf5_0 rfl (lv_at hl 0 rfl) ?_
  refine vk_getf hx hb (hCn.1.2.2 si (by omega)).2.2.1 hS hown f_9 (fun _ h9 => h9) dJ0_length_8abf5_1 ?_
  refine va_tlen hx hb (hCn.1.2.2 si (by omega)).2.2.2 hS (v := iI ((sLn si : Nat) : Int)) rfl dJ0_length_8abf5_4 ?_
  have rl_4 := sLn_le si
  refine lv_aload_n hx hb dJ0_length_8abf5_5 rfl (lv_at hl 0 rfl) ?_
  refine zc_callOi (As := []) (rest := [.int (iI ((sLn si : Nat) : Int))]) (wf := fun u => []) ⟨hx, hb, hml, hown, hts⟩ (c_J0_coder_7d493 l K D tA  H.size si (by first | assumption | omega)) (cwV 0 hts gJ0_length_8abf5_J0_coder_7d493 rfl rfl rfl (by decide +kernel) ⟨Nat.le_of_ble_eq_true rfl, Nat.le_of_ble_eq_true rfl⟩) hK hP hD hS hA hCn [] [] [] rfl rfl (by decide) (by decide) (by decide) (by decide) (fun _ => rfl) (hCn.1.2.2 si (by omega)).1 rfl rfl hl.1 (Nat.le_of_ble_eq_true rfl) dJ0_length_8abf5_6 ⟨Nat.le_of_ble_eq_true rfl, Nat.le_of_ble_eq_true rfl⟩ ?_
  intro z6_1 u H locs p6_2 hP hD hS
  have hP : va_P D vwCl ([]) H := hP
  have hD : va_D A ([]) := hD
  have q_6 : z6_1 = 0 := p6_2
  have hz6 : z6_1 = 0 := by first | exact q_6 | omega
  subst hz6
  refine zz_ishr0 hx hb dJ0_length_8abf5_9 (by have := sLn_le si; omega) ?_
  exact hret ((sLn si : Nat) : Int) () _ _ _ _ dJ0_length_8abf5_10 (show ((sLn si : Nat) : Int) = ((sLn si : Nat) : Int) from by rfl) hP hD hS

set_option maxHeartbeats 4000000 in
set_option maxRecDepth 100000 in
theorem c_J3_checkIndex_8e157 (l : Launch) (K : Nat → Nat) (D : va_G) (tA : Nat → ClassId) (sz : Nat) (i : Int) (n1 : Int) (r_i : -2147483648 ≤ i ∧ i ≤ 2147483647) (r_n1 : -2147483648 ≤ n1 ∧ n1 ≤ 2147483647) (hi : 0 ≤ i ∧ i < n1) : zCi l yJ3_checkIndex_8e157 wsJ3_checkIndex_8e157 ({ frames := 0, cells := 0, slots := 0, locals := 0 }) K D tA [.int (iI i), .int (iI n1), .null] ([]) sz (fun (z : Int) (u : Unit) => (z = i)) (fun (u : Unit) => []) 0 0 := by
  refine zCi_of (cc := cJ3_checkIndex_8e157) (maxL := 3) (by decide) rfl (fun z u h => rfl) (Nat.le_of_ble_eq_true rfl) ?_
  intro p e s m args below meth c A Q ls hx hb hml hts hown hK hP hD hA hCn hret hl
  obtain ⟨H, hHe⟩ : ∃ H : Heap, H = s.heap := ⟨_, rfl⟩
  have hS : va_S A s.heap H [] := by rw [hHe]; exact va_S.rf
  rw [← hHe] at hP ⊢
  have hl : lv_has ls 3 [(0, .int (iI i)), (1, .int (iI n1)), (2, .null)] := hl
  refine lv_iload_n hx hb dJ3_checkIndex_8e157_0 rfl (lv_at hl 0 rfl) ?_
  refine zz_if_lt (tgt := 9) hx hb dJ3_checkIndex_8e157_1 (by decide) (by omega) (fun c_1 => ?_) (fun c_1 => ?_)
  · exact absurd c_1 (by omega)
  · refine lv_iload_n hx hb dJ3_checkIndex_8e157_4 rfl (lv_at hl 0 rfl) ?_
    refine lv_iload_n hx hb dJ3_checkIndex_8e157_5 rfl (lv_at hl 1 rfl) ?_
    refine zz_icmp_lt (tgt := 16) hx hb dJ3_checkIndex_8e157_6 (by decide) (by omega) (by omega) (fun c_6 => ?_) (fun c_6 => ?_)
    · refine lv_iload_n hx hb dJ3_checkIndex_8e157_16 rfl (lv_at hl 0 rfl) ?_
      exact hret i () _ _ _ _ dJ3_checkIndex_8e157_17 (show i = i from by rfl) hP hD hS
    · exact absurd c_6 (by omega)

set_option maxHeartbeats 4000000 in
set_option maxRecDepth 100000 in
theorem c_J3_checkIndex_8e157_r (l : Launch) (K : Nat → Nat) (D : va_G) (tA : Nat → ClassId) (sz : Nat) (t9 : Nat) (i : Int) (n1 : Int) (r_i : -2147483648 ≤ i ∧ i ≤ 2147483647) (r_n1 : -2147483648 ≤ n1 ∧ n1 ≤ 2147483647) (hi : 0 ≤ i ∧ i < n1) : zCi l yJ3_checkIndex_8e157 wsJ3_checkIndex_8e157 ({ frames := 0, cells := 0, slots := 0, locals := 0 }) K D tA [.int (iI i), .int (iI n1), .ref t9] ([]) sz (fun (z : Int) (u : Unit) => (z = i)) (fun (u : Unit) => []) 0 0 := by
  refine zCi_of (cc := cJ3_checkIndex_8e157) (maxL := 3) (by decide) rfl (fun z u h => rfl) (Nat.le_of_ble_eq_true rfl) ?_
  intro p e s m args below meth c A Q ls hx hb hml hts hown hK hP hD hA hCn hret hl
  obtain ⟨H, hHe⟩ : ∃ H : Heap, H = s.heap := ⟨_, rfl⟩
  have hS : va_S A s.heap H [] := by rw [hHe]; exact va_S.rf
  rw [← hHe] at hP ⊢
  have hl : lv_has ls 3 [(0, .int (iI i)), (1, .int (iI n1)), (2, .ref t9)] := hl
  refine lv_iload_n hx hb dJ3_checkIndex_8e157_0 rfl (lv_at hl 0 rfl) ?_
  refine zz_if_lt (tgt := 9) hx hb dJ3_checkIndex_8e157_1 (by decide) (by omega) (fun c_1 => ?_) (fun c_1 => ?_)
  · exact absurd c_1 (by omega)
  · refine lv_iload_n hx hb dJ3_checkIndex_8e157_4 rfl (lv_at hl 0 rfl) ?_
    refine lv_iload_n hx hb dJ3_checkIndex_8e157_5 rfl (lv_at hl 1 rfl) ?_
    refine zz_icmp_lt (tgt := 16) hx hb dJ3_checkIndex_8e157_6 (by decide) (by omega) (by omega) (fun c_6 => ?_) (fun c_6 => ?_)
    · refine lv_iload_n hx hb dJ3_checkIndex_8e157_16 rfl (lv_at hl 0 rfl) ?_
      exact hret i () _ _ _ _ dJ3_checkIndex_8e157_17 (show i = i from by rfl) hP hD hS
    · exact absurd c_6 (by omega)

set_option maxHeartbeats 4000000 in
set_option maxRecDepth 100000 in
theorem c_J0_checkIndex_df160 (l : Launch) (K : Nat → Nat) (D : va_G) (tA : Nat → ClassId) (sz : Nat) (i : Int) (n1 : Int) (r_i : -2147483648 ≤ i ∧ i ≤ 2147483647) (r_n1 : -2147483648 ≤ n1 ∧ n1 ≤ 2147483647) (hi : 0 ≤ i ∧ i < n1) : zCv l yJ0_checkIndex_df160 wsJ0_checkIndex_df160 ({ frames := 1, cells := 0, slots := 0, locals := 22 }) K D tA [.int (iI i), .int (iI n1)] ([]) sz (fun (u : Unit) => True) (fun (u : Unit) => []) 0 0 := by
  refine zCv_of (cc := cJ0_checkIndex_df160) (maxL := 2) (by decide) rfl (Nat.le_of_ble_eq_true rfl) ?_
  intro p e s m args below meth c A Q ls hx hb hml hts hown hK hP hD hA hCn hret hl
  obtain ⟨H, hHe⟩ : ∃ H : Heap, H = s.heap := ⟨_, rfl⟩
  have hS : va_S A s.heap H [] := by rw [hHe]; exact va_S.rf
  rw [← hHe] at hP ⊢
  have hl : lv_has ls 2 [(0, .int (iI i)), (1, .int (iI n1))] := hl
  have f_1053 := hts (.fieldLink RJ0 1053 "jdk/internal/util/Preconditions" "SIOOBE_FORMATTER" "Ljava/util/function/BiFunction;") (by decide +kernel)
  refine lv_iload_n hx hb dJ0_checkIndex_df160_0 rfl (lv_at hl 0 rfl) ?_
  refine lv_iload_n hx hb dJ0_checkIndex_df160_1 rfl (lv_at hl 1 rfl) ?_
  rcases hCn.1.1.2.1 with hq9 | ⟨t9, hq9⟩
  · refine va_gets hx hb hq9 hS hown f_1053 (fun _ h9 => h9) dJ0_checkIndex_df160_2 ?_
    refine zc_callSi (As := [.int (iI i), .int (iI n1), .null]) (rest := []) (wf := fun u => []) ⟨hx, hb, hml, hown, hts⟩ (c_J3_checkIndex_8e157 l K D tA  H.size i n1 (by first | assumption | omega) (by first | assumption | omega) (by first | assumption | omega)) (va_cwS 3 hts gJ0_checkIndex_df160_J3_checkIndex_8e157 rfl rfl rfl (by decide +kernel) ⟨Nat.le_of_ble_eq_true rfl, Nat.le_of_ble_eq_true rfl⟩) hK hP hD hS hA hCn [] [] [] rfl rfl (by decide) (by decide) (by decide) (by decide) (fun _ => rfl) rfl rfl hl.1 (Nat.le_of_ble_eq_true rfl) dJ0_checkIndex_df160_5 ⟨Nat.le_of_ble_eq_true rfl, Nat.le_of_ble_eq_true rfl⟩ ?_
    intro z5_1 u H locs p5_2 hP hD hS
    have hP : va_P D vwCl ([]) H := hP
    have hD : va_D A ([]) := hD
    have q_5 : z5_1 = i := p5_2
    refine lv_pop hx hb dJ0_checkIndex_df160_8 rfl ?_
    exact hret () _ _ _ _ dJ0_checkIndex_df160_9 True.intro hP hD hS
  · refine va_gets hx hb hq9 hS hown f_1053 (fun _ h9 => h9) dJ0_checkIndex_df160_2 ?_
    refine zc_callSi (As := [.int (iI i), .int (iI n1), .ref t9]) (rest := []) (wf := fun u => []) ⟨hx, hb, hml, hown, hts⟩ (c_J3_checkIndex_8e157_r l K D tA  H.size t9 i n1 (by first | assumption | omega) (by first | assumption | omega) (by first | assumption | omega)) (va_cwS 3 hts gJ0_checkIndex_df160_J3_checkIndex_8e157 rfl rfl rfl (by decide +kernel) ⟨Nat.le_of_ble_eq_true rfl, Nat.le_of_ble_eq_true rfl⟩) hK hP hD hS hA hCn [] [] [] rfl rfl (by decide) (by decide) (by decide) (by decide) (fun _ => rfl) rfl rfl hl.1 (Nat.le_of_ble_eq_true rfl) dJ0_checkIndex_df160_5 ⟨Nat.le_of_ble_eq_true rfl, Nat.le_of_ble_eq_true rfl⟩ ?_
    intro z5_3 u H locs p5_4 hP hD hS
    have hP : va_P D vwCl ([]) H := hP
    have hD : va_D A ([]) := hD
    have q_5 : z5_3 = i := p5_4
    refine lv_pop hx hb dJ0_checkIndex_df160_8 rfl ?_
    exact hret () _ _ _ _ dJ0_checkIndex_df160_9 True.intro hP hD hS

set_option maxHeartbeats 4000000 in
set_option maxRecDepth 100000 in
theorem c_J1_charAt_3b067 (l : Launch) (K : Nat → Nat) (D : va_G) (tA : Nat → ClassId) (sz : Nat) (si : Nat) (i : Int) (r_i : -2147483648 ≤ i ∧ i ≤ 2147483647) (hsi : si < 24) (hi : 0 ≤ i ∧ i < ((sLn si : Nat) : Int)) : zCi l yJ1_charAt_3b067 wsJ1_charAt_3b067 ({ frames := 2, cells := 0, slots := 0, locals := 43 }) K D tA [.ref (K (200 + si)), .int (iI i)] ([]) sz (fun (z : Int) (u : Unit) => (z = sCh si i) ∧ (0 ≤ z ∧ z ≤ 126)) (fun (u : Unit) => []) 0 0 := by
  refine zCi_of (cc := cJ1_charAt_3b067) (maxL := 2) (by decide) rfl (fun z u h => (zcharv z (by omega)).1) (Nat.le_of_ble_eq_true rfl) ?_
  intro p e s m args below meth c A Q ls hx hb hml hts hown hK hP hD hA hCn hret hl
  obtain ⟨H, hHe⟩ : ∃ H : Heap, H = s.heap := ⟨_, rfl⟩
  have hS : va_S A s.heap H [] := by rw [hHe]; exact va_S.rf
  rw [← hHe] at hP ⊢
  have hl : lv_has ls 2 [(0, .ref (K (200 + si))), (1, .int (iI i))] := hl
  refine lv_iload_n hx hb dJ1_charAt_3b067_0 rfl (lv_at hl 1 rfl) ?_
  refine lv_aload_n hx hb dJ1_charAt_3b067_1 rfl (lv_at hl 0 rfl) ?_
  refine va_tlen hx hb (hCn.1.2.2 si (by omega)).2.2.2 hS (v := iI ((sLn si : Nat) : Int)) rfl dJ1_charAt_3b067_2 ?_
  have rl_2 := sLn_le si
  refine zc_callSv (As := [.int (iI i), .int (iI ((sLn si : Nat) : Int))]) (rest := []) (wf := fun u => []) ⟨hx, hb, hml, hown, hts⟩ (c_J0_checkIndex_df160 l K D tA  H.size i ((sLn si : Nat) : Int) (by first | assumption | omega) (by first | assumption | omega) (by first | assumption | omega)) (va_cwS 2 hts gJ1_charAt_3b067_J0_checkIndex_df160 rfl rfl rfl (by decide +kernel) ⟨Nat.le_of_ble_eq_true rfl, Nat.le_of_ble_eq_true rfl⟩) hK hP hD hS hA hCn [] [] [] rfl rfl (by decide) (by decide) (by decide) (by decide) (fun _ => rfl) rfl rfl hl.1 (Nat.le_of_ble_eq_true rfl) dJ1_charAt_3b067_3 ⟨Nat.le_of_ble_eq_true rfl, Nat.le_of_ble_eq_true rfl⟩ ?_
  intro u H locs p3_1 hP hD hS
  have hP : va_P D vwCl ([]) H := hP
  have hD : va_D A ([]) := hD
  refine lv_aload_n hx hb dJ1_charAt_3b067_6 rfl (lv_at hl 0 rfl) ?_
  refine lv_iload_n hx hb dJ1_charAt_3b067_7 rfl (lv_at hl 1 rfl) ?_
  refine va_tb hx hb (hCn.1.2.2 si (by omega)).2.2.2 hS (zin (k := i) (n := sLn si) (by omega) (by have := sLn_le si; omega)) (v := .int (iI (sCh si i))) (by show Value.int (iI (sCh si (((iI i).toNatClampNeg : Nat) : Int))) = _; rw [iI_clamp (by have := sLn_le si; omega), Int.toNat_of_nonneg (by omega)]) dJ1_charAt_3b067_8 ?_
  have rc_8 := sCh_in si i
  refine zz_sipush hx hb dJ1_charAt_3b067_9 (by decide) ?_
  refine zz_iand255 hx hb dJ1_charAt_3b067_12 (by omega) ?_
  refine zz_i2c hx hb dJ1_charAt_3b067_13 (by omega) ?_
  exact hret (sCh si i) () _ _ _ _ dJ1_charAt_3b067_14 ⟨(show (sCh si i) = sCh si i from by rfl), (show 0 ≤ (sCh si i) ∧ (sCh si i) ≤ 126 from by omega)⟩ hP hD hS

set_option maxHeartbeats 4000000 in
set_option maxRecDepth 100000 in
theorem c_J0_charAt_5068e (l : Launch) (K : Nat → Nat) (D : va_G) (tA : Nat → ClassId) (sz : Nat) (si : Nat) (i : Int) (r_i : -2147483648 ≤ i ∧ i ≤ 2147483647) (hsi : si < 24) (hi : 0 ≤ i ∧ i < ((sLn si : Nat) : Int)) : zCi l yJ0_charAt_5068e wsJ0_charAt_5068e ({ frames := 3, cells := 0, slots := 0, locals := 64 }) K D tA [.ref (K (100 + si)), .int (iI i)] ([]) sz (fun (z : Int) (u : Unit) => (z = sCh si i) ∧ (0 ≤ z ∧ z ≤ 126)) (fun (u : Unit) => []) 0 0 := by
  refine zCi_of (cc := cJ0_charAt_5068e) (maxL := 2) (by decide) rfl (fun z u h => (zcharv z (by omega)).1) (Nat.le_of_ble_eq_true rfl) ?_
  intro p e s m args below meth c A Q ls hx hb hml hts hown hK hP hD hA hCn hret hl
  obtain ⟨H, hHe⟩ : ∃ H : Heap, H = s.heap := ⟨_, rfl⟩
  have hS : va_S A s.heap H [] := by rw [hHe]; exact va_S.rf
  rw [← hHe] at hP ⊢
  have hl : lv_has ls 2 [(0, .ref (K (100 + si))), (1, .int (iI i))] := hl
  have f_9 := hts (.fieldLink RJ0 9 "java/lang/String" "value" "[B") (by decide +kernel)
  refine lv_aload_n hx hb dJ0_charAt_5068e_0 rfl (lv_at hl 0 rfl) ?_
  refine zc_callOi (As := []) (rest := []) (wf := fun u => []) ⟨hx, hb, hml, hown, hts⟩ (c_J0_isLatin1_aae02 l K D tA  H.size si (by first | assumption | omega)) (cwV 0 hts gJ0_charAt_5068e_J0_isLatin1_aae02 rfl rfl rfl (by decide +kernel) ⟨Nat.le_of_ble_eq_true rfl, Nat.le_of_ble_eq_true rfl⟩) hK hP hD hS hA hCn [] [] [] rfl rfl (by decide) (by decide) (by decide) (by decide) (fun _ => rfl) (hCn.1.2.2 si (by omega)).1 rfl rfl hl.1 (Nat.le_of_ble_eq_true rfl) dJ0_charAt_5068e_1 ⟨Nat.le_of_ble_eq_true rfl, Nat.le_of_ble_eq_true rfl⟩ ?_
  intro z1_1 u H locs p1_2 hP hD hS
  have hP : va_P D vwCl ([]) H := hP
  have hD : va_D A ([]) := hD
  have q_1 : z1_1 = 1 := p1_2
  have hz1 : z1_1 = 1 := by first | exact q_1 | omega
  subst hz1
  refine zz_if_eq (tgt := 16) hx hb dJ0_charAt_5068e_4 (by decide) (by decide) (fun c_4 => ?_) (fun c_4 => ?_)
  · exact absurd c_4 (by decide)
  · refine lv_aload_n hx hb dJ0_charAt_5068e_7 rfl (lv_at hl 0 rfl) ?_
    refine vk_getf hx hb (hCn.1.2.2 si (by omega)).2.2.1 hS hown f_9 (fun _ h9 => h9) dJ0_charAt_5068e_8 ?_
    refine lv_iload_n hx hb dJ0_charAt_5068e_11 rfl (lv_at hl 1 rfl) ?_
    refine zc_callSi (As := [.ref (K (200 + si)), .int (iI i)]) (rest := []) (wf := fun u => []) ⟨hx, hb, hml, hown, hts⟩ (c_J1_charAt_3b067 l K D tA  H.size si i (by first | assumption | omega) (by first | assumption | omega) (by first | assumption | omega)) (va_cwS 2 hts gJ0_charAt_5068e_J1_charAt_3b067 rfl rfl rfl (by decide +kernel) ⟨Nat.le_of_ble_eq_true rfl, Nat.le_of_ble_eq_true rfl⟩) hK hP hD hS hA hCn [] [] [] rfl rfl (by decide) (by decide) (by decide) (by decide) (fun _ => rfl) rfl rfl hl.1 (Nat.le_of_ble_eq_true rfl) dJ0_charAt_5068e_12 ⟨Nat.le_of_ble_eq_true rfl, Nat.le_of_ble_eq_true rfl⟩ ?_
    intro z12_3 u H locs p12_4 hP hD hS
    have hP : va_P D vwCl ([]) H := hP
    have hD : va_D A ([]) := hD
    have q_12 : z12_3 = sCh si i := p12_4.1
    have q2_12 : 0 ≤ z12_3 ∧ z12_3 ≤ 126 := p12_4.2
    exact hret z12_3 () _ _ _ _ dJ0_charAt_5068e_15 ⟨(show z12_3 = sCh si i from by omega), (show 0 ≤ z12_3 ∧ z12_3 ≤ 126 from by omega)⟩ hP hD hS

set_option maxHeartbeats 4000000 in
set_option maxRecDepth 100000 in
theorem c_Jx29ce0_ordinal_8abf5 (l : Launch) (K : Nat → Nat) (D : va_G) (tA : Nat → ClassId) (sz : Nat) (ci : Nat) (hci : ci < 8) : zCi l yJx29ce0_ordinal_8abf5 wsJx29ce0_ordinal_8abf5 ({ frames := 0, cells := 0, slots := 0, locals := 0 }) K D tA [.ref (K (Int.toNat ci))] ([]) sz (fun (z : Int) (u : Unit) => (z = ((ci : Nat) : Int))) (fun (u : Unit) => []) 0 0 := by
  refine zCi_of (cc := cJx29ce0_ordinal_8abf5) (maxL := 1) (by decide) rfl (fun z u h => rfl) (Nat.le_of_ble_eq_true rfl) ?_
  intro p e s m args below meth c A Q ls hx hb hml hts hown hK hP hD hA hCn hret hl
  obtain ⟨H, hHe⟩ : ∃ H : Heap, H = s.heap := ⟨_, rfl⟩
  have hS : va_S A s.heap H [] := by rw [hHe]; exact va_S.rf
  rw [← hHe] at hP ⊢
  have hl : lv_has ls 1 [(0, .ref (K (Int.toNat ci)))] := hl
  have f_7 := hts (.fieldLink RJx29ce0 7 "java/lang/Enum" "ordinal" "I") (by decide +kernel)
  refine lv_aload_n hx hb dJx29ce0_ordinal_8abf5_0 rfl (lv_at hl 0 rfl) ?_
  refine vk_getf hx hb (hCn.1.2.1 ci (by omega)).2.1 hS hown f_7 (fun _ h9 => h9) dJx29ce0_ordinal_8abf5_1 ?_
  exact hret ((ci : Nat) : Int) () _ _ _ _ dJx29ce0_ordinal_8abf5_4 (show ((ci : Nat) : Int) = ((ci : Nat) : Int) from by rfl) hP hD hS

set_option maxHeartbeats 4000000 in
set_option maxRecDepth 100000 in
theorem c_J5_isLatin1_aae02 (l : Launch) (K : Nat → Nat) (D : va_G) (tA : Nat → ClassId) (a0 a1 : Nat) (sz : Nat) (lnb : Int → Int) (lml : Int) (lct : Int) : zCi l yJ5_isLatin1_aae02 wsJ5_isLatin1_aae02 ({ frames := 0, cells := 0, slots := 0, locals := 0 }) K D tA [.ref a0] (bLine tA a0 a1 lnb lml lct) sz (fun (z : Int) (u : Unit) => (z = 1)) (fun (u : Unit) => bLine tA a0 a1 lnb lml lct) 0 0 := by
  refine zCi_of (cc := cJ5_isLatin1_aae02) (maxL := 1) (by decide) rfl (fun z u h => zbool z (by omega)) (Nat.le_of_ble_eq_true rfl) ?_
  intro p e s m args below meth c A Q ls hx hb hml hts hown hK hP hD hA hCn hret hl
  obtain ⟨H, hHe⟩ : ∃ H : Heap, H = s.heap := ⟨_, rfl⟩
  have hS : va_S A s.heap H [] := by rw [hHe]; exact va_S.rf
  rw [← hHe] at hP ⊢
  have hl : lv_has ls 1 [(0, .ref a0)] := hl
  have iJ4 : ∀ v ∈ wsJ40, v ∈ wsJ5_isLatin1_aae02 := by decide +kernel
  have f_18 := hts (.fieldLink RJ5 18 "java/lang/String" "COMPACT_STRINGS" "Z") (by decide +kernel)
  have f_22 := hts (.fieldLink RJ5 22 "java/lang/AbstractStringBuilder" "coder" "B") (by decide +kernel)
  refine va_gets hx hb hCn.1.1.1 hS hown f_18 (fun _ h9 => h9) dJ5_isLatin1_aae02_0 ?_
  refine zz_if_eq (tgt := 17) hx hb dJ5_isLatin1_aae02_3 (by decide) (by decide) (fun c_3 => ?_) (fun c_3 => ?_)
  · exact absurd c_3 (by decide)
  · refine lv_aload_n hx hb dJ5_isLatin1_aae02_6 rfl (lv_at hl 0 rfl) ?_
    refine va_get (D := D) (ci := 1) (v := .int (iI 0)) (C := RJ4) (T := TJ4) (N := 4) hx hb hts iJ4 hown hK hP 0 rfl rfl 1 (by decide) f_22 (fun _ h9 => h9) rfl dJ5_isLatin1_aae02_7 ?_
    refine zz_if_ne (tgt := 17) hx hb dJ5_isLatin1_aae02_10 (by decide) (by decide) (fun c_10 => ?_) (fun c_10 => ?_)
    · exact absurd c_10 (by decide)
    · refine zz_iconst hx hb dJ5_isLatin1_aae02_13 ?_
      refine lv_goto (tgt := 18) hx hb dJ5_isLatin1_aae02_14 (by decide) ?_
      exact hret 1 () _ _ _ _ dJ5_isLatin1_aae02_18 (show (1 : Int) = 1 from by omega) hP hD hS

set_option maxHeartbeats 4000000 in
set_option maxRecDepth 100000 in
theorem c_J1_canEncode_fc78d (l : Launch) (K : Nat → Nat) (D : va_G) (tA : Nat → ClassId) (sz : Nat) (ch : Int) (r_ch : -2147483648 ≤ ch ∧ ch ≤ 2147483647) (hch : 0 ≤ ch ∧ ch ≤ 255) : zCi l yJ1_canEncode_fc78d wsJ1_canEncode_fc78d ({ frames := 0, cells := 0, slots := 0, locals := 0 }) K D tA [.int (iI ch)] ([]) sz (fun (z : Int) (u : Unit) => (z = 1)) (fun (u : Unit) => []) 0 0 := by
  refine zCi_of (cc := cJ1_canEncode_fc78d) (maxL := 1) (by decide) rfl (fun z u h => zbool z (by omega)) (Nat.le_of_ble_eq_true rfl) ?_
  intro p e s m args below meth c A Q ls hx hb hml hts hown hK hP hD hA hCn hret hl
  obtain ⟨H, hHe⟩ : ∃ H : Heap, H = s.heap := ⟨_, rfl⟩
  have hS : va_S A s.heap H [] := by rw [hHe]; exact va_S.rf
  rw [← hHe] at hP ⊢
  have hl : lv_has ls 1 [(0, .int (iI ch))] := hl
  refine lv_iload_n hx hb dJ1_canEncode_fc78d_0 rfl (lv_at hl 0 rfl) ?_
  refine zz_sipush hx hb dJ1_canEncode_fc78d_1 (by decide) ?_
  refine zz_icmp_gt (tgt := 11) hx hb dJ1_canEncode_fc78d_4 (by decide) (by omega) (by decide) (fun c_4 => ?_) (fun c_4 => ?_)
  · refine zz_iconst hx hb dJ1_canEncode_fc78d_11 ?_
    exact hret 0 () _ _ _ _ dJ1_canEncode_fc78d_12 (show (0 : Int) = 1 from by omega) hP hD hS
  · refine zz_iconst hx hb dJ1_canEncode_fc78d_7 ?_
    refine lv_goto (tgt := 12) hx hb dJ1_canEncode_fc78d_8 (by decide) ?_
    exact hret 1 () _ _ _ _ dJ1_canEncode_fc78d_12 (show (1 : Int) = 1 from by omega) hP hD hS

set_option maxHeartbeats 4000000 in
set_option maxRecDepth 100000 in
theorem c_J5_ensureCapacityInternal_d00df (l : Launch) (K : Nat → Nat) (D : va_G) (tA : Nat → ClassId) (a0 a1 : Nat) (sz : Nat) (lnb : Int → Int) (lml : Int) (lct : Int) (mn : Int) (r_mn : -2147483648 ≤ mn ∧ mn ≤ 2147483647) (hmn : 0 ≤ mn ∧ mn ≤ 16) : zCv l yJ5_ensureCapacityInternal_d00df wsJ5_ensureCapacityInternal_d00df ({ frames := 0, cells := 0, slots := 0, locals := 0 }) K D tA [.ref a0, .int (iI mn)] (bLine tA a0 a1 lnb lml lct) sz (fun (u : Unit) => True) (fun (u : Unit) => bLine tA a0 a1 lnb lml lct) 0 0 := by
  refine zCv_of (cc := cJ5_ensureCapacityInternal_d00df) (maxL := 3) (by decide) rfl (Nat.le_of_ble_eq_true rfl) ?_
  intro p e s m args below meth c A Q ls hx hb hml hts hown hK hP hD hA hCn hret hl
  obtain ⟨H, hHe⟩ : ∃ H : Heap, H = s.heap := ⟨_, rfl⟩
  have hS : va_S A s.heap H [] := by rw [hHe]; exact va_S.rf
  rw [← hHe] at hP ⊢
  have hl : lv_has ls 3 [(0, .ref a0), (1, .int (iI mn))] := hl
  have iJ4 : ∀ v ∈ wsJ40, v ∈ wsJ5_ensureCapacityInternal_d00df := by decide +kernel
  have f_15 := hts (.fieldLink RJ5 15 "java/lang/AbstractStringBuilder" "value" "[B") (by decide +kernel)
  have f_22 := hts (.fieldLink RJ5 22 "java/lang/AbstractStringBuilder" "coder" "B") (by decide +kernel)
  refine lv_aload_n hx hb dJ5_ensureCapacityInternal_d00df_0 rfl (lv_at hl 0 rfl) ?_
  refine va_get (D := D) (ci := 1) (v := .ref a1) (C := RJ4) (T := TJ4) (N := 4) hx hb hts iJ4 hown hK hP 0 rfl rfl 0 (by decide) f_15 (fun _ h9 => h9) rfl dJ5_ensureCapacityInternal_d00df_1 ?_
  refine va_alen hx hb hK hP 1 3 rfl rfl (v := iI 16) rfl dJ5_ensureCapacityInternal_d00df_4 ?_
  refine lv_aload_n hx hb dJ5_ensureCapacityInternal_d00df_5 rfl (lv_at hl 0 rfl) ?_
  refine va_get (D := D) (ci := 1) (v := .int (iI 0)) (C := RJ4) (T := TJ4) (N := 4) hx hb hts iJ4 hown hK hP 0 rfl rfl 1 (by decide) f_22 (fun _ h9 => h9) rfl dJ5_ensureCapacityInternal_d00df_6 ?_
  refine zz_ishr0 hx hb dJ5_ensureCapacityInternal_d00df_9 (by omega) ?_
  refine lv_istore_n (lv' := [(2, .int (iI 16)), (0, .ref a0), (1, .int (iI mn))]) hx hb dJ5_ensureCapacityInternal_d00df_10 rfl hl (by decide) rfl (fun ls hl => ?_)
  refine lv_iload_n hx hb dJ5_ensureCapacityInternal_d00df_11 rfl (lv_at hl 2 rfl) ?_
  refine lv_iload_n hx hb dJ5_ensureCapacityInternal_d00df_12 rfl (lv_at hl 0 rfl) ?_
  refine zz_isub hx hb dJ5_ensureCapacityInternal_d00df_13 ?_
  refine zz_if_le (tgt := 38) hx hb dJ5_ensureCapacityInternal_d00df_14 (by decide) (by omega) (fun c_14 => ?_) (fun c_14 => ?_)
  · exact hret () _ _ _ _ dJ5_ensureCapacityInternal_d00df_38 True.intro hP hD hS
  · exact absurd c_14 (by omega)

set_option maxHeartbeats 4000000 in
set_option maxRecDepth 100000 in
theorem c_J5_length_8abf5 (l : Launch) (K : Nat → Nat) (D : va_G) (tA : Nat → ClassId) (a0 a1 : Nat) (sz : Nat) (lnb : Int → Int) (lml : Int) (lct : Int) : zCi l yJ5_length_8abf5 wsJ5_length_8abf5 ({ frames := 0, cells := 0, slots := 0, locals := 0 }) K D tA [.ref a0] (bLine tA a0 a1 lnb lml lct) sz (fun (z : Int) (u : Unit) => (z = lct)) (fun (u : Unit) => bLine tA a0 a1 lnb lml lct) 0 0 := by
  refine zCi_of (cc := cJ5_length_8abf5) (maxL := 1) (by decide) rfl (fun z u h => rfl) (Nat.le_of_ble_eq_true rfl) ?_
  intro p e s m args below meth c A Q ls hx hb hml hts hown hK hP hD hA hCn hret hl
  obtain ⟨H, hHe⟩ : ∃ H : Heap, H = s.heap := ⟨_, rfl⟩
  have hS : va_S A s.heap H [] := by rw [hHe]; exact va_S.rf
  rw [← hHe] at hP ⊢
  have hl : lv_has ls 1 [(0, .ref a0)] := hl
  have iJ4 : ∀ v ∈ wsJ40, v ∈ wsJ5_length_8abf5 := by decide +kernel
  have f_79 := hts (.fieldLink RJ5 79 "java/lang/AbstractStringBuilder" "count" "I") (by decide +kernel)
  refine lv_aload_n hx hb dJ5_length_8abf5_0 rfl (lv_at hl 0 rfl) ?_
  refine va_get (D := D) (ci := 1) (v := .int (iI lct)) (C := RJ4) (T := TJ4) (N := 4) hx hb hts iJ4 hown hK hP 0 rfl rfl 3 (by decide) f_79 (fun _ h9 => h9) rfl dJ5_length_8abf5_1 ?_
  exact hret lct () _ _ _ _ dJ5_length_8abf5_4 (show lct = lct from by rfl) hP hD hS

set_option maxHeartbeats 4000000 in
set_option maxRecDepth 100000 in
theorem c_J4_length_8abf5 (l : Launch) (K : Nat → Nat) (D : va_G) (tA : Nat → ClassId) (a0 a1 : Nat) (sz : Nat) (lnb : Int → Int) (lml : Int) (lct : Int) : zCi l yJ4_length_8abf5 wsJ4_length_8abf5 ({ frames := 1, cells := 0, slots := 0, locals := 20 }) K D tA [.ref a0] (bLine tA a0 a1 lnb lml lct) sz (fun (z : Int) (u : Unit) => (z = lct)) (fun (u : Unit) => bLine tA a0 a1 lnb lml lct) 0 0 := by
  refine zCi_of (cc := cJ4_length_8abf5) (maxL := 1) (by decide) rfl (fun z u h => rfl) (Nat.le_of_ble_eq_true rfl) ?_
  intro p e s m args below meth c A Q ls hx hb hml hts hown hK hP hD hA hCn hret hl
  obtain ⟨H, hHe⟩ : ∃ H : Heap, H = s.heap := ⟨_, rfl⟩
  have hS : va_S A s.heap H [] := by rw [hHe]; exact va_S.rf
  rw [← hHe] at hP ⊢
  have hl : lv_has ls 1 [(0, .ref a0)] := hl
  refine lv_aload_n hx hb dJ4_length_8abf5_0 rfl (lv_at hl 0 rfl) ?_
  refine zc_callSUi (As := []) (rest := []) (wf := fun u => bLine tA a0 a1 lnb lml lct) ⟨hx, hb, hml, hown, hts⟩ (c_J5_length_8abf5 l K D tA a0 a1 H.size lnb lml lct) (va_cwSU 0 hts gJ4_length_8abf5_J5_length_8abf5_s343 rfl rfl rfl ⟨by decide, by decide +kernel⟩ ⟨Nat.le_of_ble_eq_true rfl, Nat.le_of_ble_eq_true rfl⟩) hK hP hD hS hA hCn [0, 1] [] [0, 1] rfl rfl (by decide) (by decide) (by decide) (by decide) (fun _ => rfl) (hK.1 1 (RJ4, TJ4, 4) rfl).2 (ci := 1) (q0 := 0) rfl rfl rfl rfl rfl hl.1 (Nat.le_of_ble_eq_true rfl) dJ4_length_8abf5_1 ⟨Nat.le_of_ble_eq_true rfl, Nat.le_of_ble_eq_true rfl⟩ ?_
  intro z1_1 u H locs p1_2 hP hD hS
  have hP : va_P D vwCl (bLine tA a0 a1 lnb lml lct) H := hP
  have hD : va_D A (bLine tA a0 a1 lnb lml lct) := hD
  have q_1 : z1_1 = lct := p1_2
  exact hret z1_1 () _ _ _ _ dJ4_length_8abf5_4 (show z1_1 = lct from by omega) hP hD hS

set_option maxHeartbeats 4000000 in
set_option maxRecDepth 100000 in
theorem c_J5_charAt_5068e (l : Launch) (K : Nat → Nat) (D : va_G) (tA : Nat → ClassId) (a0 a1 : Nat) (sz : Nat) (lnb : Int → Int) (lml : Int) (lct : Int) (i : Int) (r_i : -2147483648 ≤ i ∧ i ≤ 2147483647) (hlc : 0 ≤ lct ∧ lct ≤ 16) (hi : 0 ≤ i ∧ i < lct) (hb : 0 ≤ lnb i ∧ lnb i ≤ 127) : zCi l yJ5_charAt_5068e wsJ5_charAt_5068e ({ frames := 2, cells := 0, slots := 0, locals := 43 }) K D tA [.ref a0, .int (iI i)] (bLine tA a0 a1 lnb lml lct) sz (fun (z : Int) (u : Unit) => (z = lnb i) ∧ (0 ≤ z ∧ z ≤ 127)) (fun (u : Unit) => bLine tA a0 a1 lnb lml lct) 0 0 := by
  refine zCi_of (cc := cJ5_charAt_5068e) (maxL := 5) (by decide) rfl (fun z u h => (zcharv z (by omega)).1) (Nat.le_of_ble_eq_true rfl) ?_
  intro p e s m args below meth c A Q ls hx hb hml hts hown hK hP hD hA hCn hret hl
  obtain ⟨H, hHe⟩ : ∃ H : Heap, H = s.heap := ⟨_, rfl⟩
  have hS : va_S A s.heap H [] := by rw [hHe]; exact va_S.rf
  rw [← hHe] at hP ⊢
  have hl : lv_has ls 5 [(0, .ref a0), (1, .int (iI i))] := hl
  have iJ4 : ∀ v ∈ wsJ40, v ∈ wsJ5_charAt_5068e := by decide +kernel
  have f_15 := hts (.fieldLink RJ5 15 "java/lang/AbstractStringBuilder" "value" "[B") (by decide +kernel)
  have f_22 := hts (.fieldLink RJ5 22 "java/lang/AbstractStringBuilder" "coder" "B") (by decide +kernel)
  have f_79 := hts (.fieldLink RJ5 79 "java/lang/AbstractStringBuilder" "count" "I") (by decide +kernel)
  have l_138 := hts (.methodLink RJ5 138 Lib.Math.min.name) (by decide +kernel)
  have ls_138 := hts (.static Lib.Math.min.name) (by decide +kernel)
  have lc_138 := hts (.code Lib.Math.min.name Lib.Math.min.code 2 (some .int)) (by decide +kernel)
  have li_138 := hts (.initialized "java/lang/Math") (by decide +kernel)
  refine lv_aload_n hx hb dJ5_charAt_5068e_0 rfl (lv_at hl 0 rfl) ?_
  refine va_get (D := D) (ci := 1) (v := .int (iI 0)) (C := RJ4) (T := TJ4) (N := 4) hx hb hts iJ4 hown hK hP 0 rfl rfl 1 (by decide) f_22 (fun _ h9 => h9) rfl dJ5_charAt_5068e_1 ?_
  refine lv_istore_n (lv' := [(2, .int (iI 0)), (0, .ref a0), (1, .int (iI i))]) hx hb dJ5_charAt_5068e_4 rfl hl (by decide) rfl (fun ls hl => ?_)
  refine lv_aload_n hx hb dJ5_charAt_5068e_5 rfl (lv_at hl 1 rfl) ?_
  refine va_get (D := D) (ci := 1) (v := .ref a1) (C := RJ4) (T := TJ4) (N := 4) hx hb hts iJ4 hown hK hP 0 rfl rfl 0 (by decide) f_15 (fun _ h9 => h9) rfl dJ5_charAt_5068e_6 ?_
  refine lv_astore_n (lv' := [(3, .ref a1), (2, .int (iI 0)), (0, .ref a0), (1, .int (iI i))]) hx hb dJ5_charAt_5068e_9 rfl hl (by decide) rfl (fun ls hl => ?_)
  refine lv_aload_n hx hb dJ5_charAt_5068e_10 rfl (lv_at hl 2 rfl) ?_
  refine va_get (D := D) (ci := 1) (v := .int (iI lct)) (C := RJ4) (T := TJ4) (N := 4) hx hb hts iJ4 hown hK hP 0 rfl rfl 3 (by decide) f_79 (fun _ h9 => h9) rfl dJ5_charAt_5068e_11 ?_
  refine lv_aload_n hx hb dJ5_charAt_5068e_14 rfl (lv_at hl 0 rfl) ?_
  refine va_alen hx hb hK hP 1 3 rfl rfl (v := iI 16) rfl dJ5_charAt_5068e_15 ?_
  refine lv_iload_n hx hb dJ5_charAt_5068e_16 rfl (lv_at hl 1 rfl) ?_
  refine zz_ishr0 hx hb dJ5_charAt_5068e_17 (by omega) ?_
  refine zz_mmin hx hb (by rw [hml]; exact hl.1.symm) hown l_138 ls_138 li_138 lc_138 (Nat.le_of_ble_eq_true rfl) (Nat.le_of_ble_eq_true rfl) (Nat.le_of_ble_eq_true rfl) (Nat.le_of_ble_eq_true rfl) (by omega) (by decide) dJ5_charAt_5068e_18 ?_
  refine lv_istore (lv' := [(4, .int (iI (min lct 16))), (3, .ref a1), (2, .int (iI 0)), (0, .ref a0), (1, .int (iI i))]) hx hb dJ5_charAt_5068e_21 hl (by decide) rfl (fun ls hl => ?_)
  refine lv_iload_n hx hb dJ5_charAt_5068e_23 rfl (lv_at hl 4 rfl) ?_
  refine lv_iload hx hb dJ5_charAt_5068e_24 (lv_at hl 0 rfl) ?_
  refine zc_callSv (As := [.int (iI i), .int (iI (min lct 16))]) (rest := []) (wf := fun u => bLine tA a0 a1 lnb lml lct) ⟨hx, hb, hml, hown, hts⟩ (c_J0_checkIndex_df160 l K D tA  H.size i (min lct 16) (by first | assumption | omega) (by first | assumption | omega) (by first | assumption | omega)) (va_cwS 2 hts gJ5_charAt_5068e_J0_checkIndex_df160 rfl rfl rfl (by decide +kernel) ⟨Nat.le_of_ble_eq_true rfl, Nat.le_of_ble_eq_true rfl⟩) hK hP hD hS hA hCn [] [0, 1] [0, 1] rfl rfl (by decide) (by decide) (by decide) (by decide) (fun _ => rfl) rfl rfl hl.1 (Nat.le_of_ble_eq_true rfl) dJ5_charAt_5068e_26 ⟨Nat.le_of_ble_eq_true rfl, Nat.le_of_ble_eq_true rfl⟩ ?_
  intro u H locs p26_1 hP hD hS
  have hP : va_P D vwCl (bLine tA a0 a1 lnb lml lct) H := hP
  have hD : va_D A (bLine tA a0 a1 lnb lml lct) := hD
  refine lv_iload_n hx hb dJ5_charAt_5068e_29 rfl (lv_at hl 2 rfl) ?_
  refine zz_if_ne (tgt := 42) hx hb dJ5_charAt_5068e_30 (by decide) (by decide) (fun c_30 => ?_) (fun c_30 => ?_)
  · exact absurd c_30 (by decide)
  · refine lv_aload_n hx hb dJ5_charAt_5068e_33 rfl (lv_at hl 1 rfl) ?_
    refine lv_iload_n hx hb dJ5_charAt_5068e_34 rfl (lv_at hl 4 rfl) ?_
    refine zz_bald hx hb hK hP 1 rfl (by decide) (by omega) dJ5_charAt_5068e_35 ?_
    refine zz_sipush hx hb dJ5_charAt_5068e_36 (by decide) ?_
    refine zz_iand255 hx hb dJ5_charAt_5068e_39 (by omega) ?_
    refine zz_i2c hx hb dJ5_charAt_5068e_40 (by omega) ?_
    exact hret (lnb i) () _ _ _ _ dJ5_charAt_5068e_41 ⟨(show (lnb i) = lnb i from by rfl), (show 0 ≤ (lnb i) ∧ (lnb i) ≤ 127 from by omega)⟩ hP hD hS

set_option maxHeartbeats 4000000 in
set_option maxRecDepth 100000 in
theorem c_J4_charAt_5068e (l : Launch) (K : Nat → Nat) (D : va_G) (tA : Nat → ClassId) (a0 a1 : Nat) (sz : Nat) (lnb : Int → Int) (lml : Int) (lct : Int) (i : Int) (r_i : -2147483648 ≤ i ∧ i ≤ 2147483647) (hlc : 0 ≤ lct ∧ lct ≤ 16) (hi : 0 ≤ i ∧ i < lct) (hb : 0 ≤ lnb i ∧ lnb i ≤ 127) : zCi l yJ4_charAt_5068e wsJ4_charAt_5068e ({ frames := 3, cells := 0, slots := 0, locals := 67 }) K D tA [.ref a0, .int (iI i)] (bLine tA a0 a1 lnb lml lct) sz (fun (z : Int) (u : Unit) => (z = lnb i) ∧ (0 ≤ z ∧ z ≤ 127)) (fun (u : Unit) => bLine tA a0 a1 lnb lml lct) 0 0 := by
  refine zCi_of (cc := cJ4_charAt_5068e) (maxL := 2) (by decide) rfl (fun z u h => (zcharv z (by omega)).1) (Nat.le_of_ble_eq_true rfl) ?_
  intro p e s m args below meth c A Q ls hx hb hml hts hown hK hP hD hA hCn hret hl
  obtain ⟨H, hHe⟩ : ∃ H : Heap, H = s.heap := ⟨_, rfl⟩
  have hS : va_S A s.heap H [] := by rw [hHe]; exact va_S.rf
  rw [← hHe] at hP ⊢
  have hl : lv_has ls 2 [(0, .ref a0), (1, .int (iI i))] := hl
  refine lv_aload_n hx hb dJ4_charAt_5068e_0 rfl (lv_at hl 0 rfl) ?_
  refine lv_iload_n hx hb dJ4_charAt_5068e_1 rfl (lv_at hl 1 rfl) ?_
  refine zc_callSUi (As := [.int (iI i)]) (rest := []) (wf := fun u => bLine tA a0 a1 lnb lml lct) ⟨hx, hb, hml, hown, hts⟩ (c_J5_charAt_5068e l K D tA a0 a1 H.size lnb lml lct i (by first | assumption | omega) (by first | assumption | omega) (by first | assumption | omega) (by first | assumption | omega)) (va_cwSU 1 hts gJ4_charAt_5068e_J5_charAt_5068e_s329 rfl rfl rfl ⟨by decide, by decide +kernel⟩ ⟨Nat.le_of_ble_eq_true rfl, Nat.le_of_ble_eq_true rfl⟩) hK hP hD hS hA hCn [0, 1] [] [0, 1] rfl rfl (by decide) (by decide) (by decide) (by decide) (fun _ => rfl) (hK.1 1 (RJ4, TJ4, 4) rfl).2 (ci := 1) (q0 := 0) rfl rfl rfl rfl rfl hl.1 (Nat.le_of_ble_eq_true rfl) dJ4_charAt_5068e_2 ⟨Nat.le_of_ble_eq_true rfl, Nat.le_of_ble_eq_true rfl⟩ ?_
  intro z2_1 u H locs p2_2 hP hD hS
  have hP : va_P D vwCl (bLine tA a0 a1 lnb lml lct) H := hP
  have hD : va_D A (bLine tA a0 a1 lnb lml lct) := hD
  have q_2 : z2_1 = lnb i := p2_2.1
  have q2_2 : 0 ≤ z2_1 ∧ z2_1 ≤ 127 := p2_2.2
  exact hret z2_1 () _ _ _ _ dJ4_charAt_5068e_5 ⟨(show z2_1 = lnb i from by omega), (show 0 ≤ z2_1 ∧ z2_1 ≤ 127 from by omega)⟩ hP hD hS

set_option maxHeartbeats 4000000 in
set_option maxRecDepth 100000 in
theorem c_J5_append_3fe6f (l : Launch) (K : Nat → Nat) (D : va_G) (tA : Nat → ClassId) (a0 a1 : Nat) (sz : Nat) (lnb : Int → Int) (lml : Int) (lct : Int) (ch : Int) (r_ch : -2147483648 ≤ ch ∧ ch ≤ 2147483647) (hlc : 0 ≤ lct ∧ lct < 16) (hch : 32 ≤ ch ∧ ch ≤ 126) : zCr l yJ5_append_3fe6f wsJ5_append_3fe6f ({ frames := 1, cells := 0, slots := 0, locals := 22 }) K D tA [.ref a0, .int (iI ch)] a0 (bLine tA a0 a1 lnb lml lct) sz (fun (u : Unit) => True) (fun (u : Unit) => bLine tA a0 a1 (zU lnb lct ch) lml (lct + 1)) 0 0 := by
  refine zCr_of (cc := cJ5_append_3fe6f) (maxL := 2) (by decide) rfl (Or.inl ⟨_, rfl⟩) (Nat.le_of_ble_eq_true rfl) ?_
  intro p e s m args below meth c A Q ls hx hb hml hts hown hK hP hD hA hCn hret hl
  obtain ⟨H, hHe⟩ : ∃ H : Heap, H = s.heap := ⟨_, rfl⟩
  have hS : va_S A s.heap H [] := by rw [hHe]; exact va_S.rf
  rw [← hHe] at hP ⊢
  have hl : lv_has ls 2 [(0, .ref a0), (1, .int (iI ch))] := hl
  have iJ4 : ∀ v ∈ wsJ40, v ∈ wsJ5_append_3fe6f := by decide +kernel
  have f_15 := hts (.fieldLink RJ5 15 "java/lang/AbstractStringBuilder" "value" "[B") (by decide +kernel)
  have f_79 := hts (.fieldLink RJ5 79 "java/lang/AbstractStringBuilder" "count" "I") (by decide +kernel)
  refine lv_aload_n hx hb dJ5_append_3fe6f_0 rfl (lv_at hl 0 rfl) ?_
  refine lv_aload_n hx hb dJ5_append_3fe6f_1 rfl (lv_at hl 0 rfl) ?_
  refine va_get (D := D) (ci := 1) (v := .int (iI lct)) (C := RJ4) (T := TJ4) (N := 4) hx hb hts iJ4 hown hK hP 0 rfl rfl 3 (by decide) f_79 (fun _ h9 => h9) rfl dJ5_append_3fe6f_2 ?_
  refine zz_iconst hx hb dJ5_append_3fe6f_5 ?_
  refine zz_iadd hx hb dJ5_append_3fe6f_6 ?_
  refine zc_callUv (As := [.int (iI (lct + 1))]) (rest := []) (wf := fun u => bLine tA a0 a1 lnb lml lct) ⟨hx, hb, hml, hown, hts⟩ (c_J5_ensureCapacityInternal_d00df l K D tA a0 a1 H.size lnb lml lct (lct + 1) (by first | assumption | omega) (by first | assumption | omega)) (va_cwU 1 hts gJ5_append_3fe6f_J5_ensureCapacityInternal_d00df_u100J4 rfl rfl rfl rfl ⟨by decide, by decide, by decide +kernel⟩ ⟨Nat.le_of_ble_eq_true rfl, Nat.le_of_ble_eq_true rfl⟩) hK hP hD hS hA hCn [0, 1] [] [0, 1] rfl rfl (by decide) (by decide) (by decide) (by decide) (fun _ => rfl) (ci := 1) (q0 := 0) rfl rfl rfl rfl rfl hl.1 (Nat.le_of_ble_eq_true rfl) dJ5_append_3fe6f_7 ⟨Nat.le_of_ble_eq_true rfl, Nat.le_of_ble_eq_true rfl⟩ ?_
  intro u H locs p7_1 hP hD hS
  have hP : va_P D vwCl (bLine tA a0 a1 lnb lml lct) H := hP
  have hD : va_D A (bLine tA a0 a1 lnb lml lct) := hD
  refine lv_aload_n hx hb dJ5_append_3fe6f_10 rfl (lv_at hl 0 rfl) ?_
  refine zc_callUi (As := []) (rest := []) (wf := fun u => bLine tA a0 a1 lnb lml lct) ⟨hx, hb, hml, hown, hts⟩ (c_J5_isLatin1_aae02 l K D tA a0 a1 H.size lnb lml lct) (va_cwU 0 hts gJ5_append_3fe6f_J5_isLatin1_aae02_u83J4 rfl rfl rfl rfl ⟨by decide, by decide, by decide +kernel⟩ ⟨Nat.le_of_ble_eq_true rfl, Nat.le_of_ble_eq_true rfl⟩) hK hP hD hS hA hCn [0, 1] [] [0, 1] rfl rfl (by decide) (by decide) (by decide) (by decide) (fun _ => rfl) (ci := 1) (q0 := 0) rfl rfl rfl rfl rfl hl.1 (Nat.le_of_ble_eq_true rfl) dJ5_append_3fe6f_11 ⟨Nat.le_of_ble_eq_true rfl, Nat.le_of_ble_eq_true rfl⟩ ?_
  intro z11_2 u H locs p11_3 hP hD hS
  have hP : va_P D vwCl (bLine tA a0 a1 lnb lml lct) H := hP
  have hD : va_D A (bLine tA a0 a1 lnb lml lct) := hD
  have q_11 : z11_2 = 1 := p11_3
  have hz11 : z11_2 = 1 := by first | exact q_11 | omega
  subst hz11
  refine zz_if_eq (tgt := 45) hx hb dJ5_append_3fe6f_14 (by decide) (by decide) (fun c_14 => ?_) (fun c_14 => ?_)
  · exact absurd c_14 (by decide)
  · refine lv_iload_n hx hb dJ5_append_3fe6f_17 rfl (lv_at hl 1 rfl) ?_
    refine zc_callSi (As := [.int (iI ch)]) (rest := []) (wf := fun u => bLine tA a0 a1 lnb lml lct) ⟨hx, hb, hml, hown, hts⟩ (c_J1_canEncode_fc78d l K D tA  H.size ch (by first | assumption | omega) (by first | assumption | omega)) (va_cwS 1 hts gJ5_append_3fe6f_J1_canEncode_fc78d rfl rfl rfl (by decide +kernel) ⟨Nat.le_of_ble_eq_true rfl, Nat.le_of_ble_eq_true rfl⟩) hK hP hD hS hA hCn [] [0, 1] [0, 1] rfl rfl (by decide) (by decide) (by decide) (by decide) (fun _ => rfl) rfl rfl hl.1 (Nat.le_of_ble_eq_true rfl) dJ5_append_3fe6f_18 ⟨Nat.le_of_ble_eq_true rfl, Nat.le_of_ble_eq_true rfl⟩ ?_
    intro z18_4 u H locs p18_5 hP hD hS
    have hP : va_P D vwCl (bLine tA a0 a1 lnb lml lct) H := hP
    have hD : va_D A (bLine tA a0 a1 lnb lml lct) := hD
    have q_18 : z18_4 = 1 := p18_5
    have hz18 : z18_4 = 1 := by first | exact q_18 | omega
    subst hz18
    refine zz_if_eq (tgt := 45) hx hb dJ5_append_3fe6f_21 (by decide) (by decide) (fun c_21 => ?_) (fun c_21 => ?_)
    · exact absurd c_21 (by decide)
    · refine lv_aload_n hx hb dJ5_append_3fe6f_24 rfl (lv_at hl 0 rfl) ?_
      refine va_get (D := D) (ci := 1) (v := .ref a1) (C := RJ4) (T := TJ4) (N := 4) hx hb hts iJ4 hown hK hP 0 rfl rfl 0 (by decide) f_15 (fun _ h9 => h9) rfl dJ5_append_3fe6f_25 ?_
      refine lv_aload_n hx hb dJ5_append_3fe6f_28 rfl (lv_at hl 0 rfl) ?_
      refine lv_dup hx hb dJ5_append_3fe6f_29 rfl ?_
      refine va_get (D := D) (ci := 1) (v := .int (iI lct)) (C := RJ4) (T := TJ4) (N := 4) hx hb hts iJ4 hown hK hP 0 rfl rfl 3 (by decide) f_79 (fun _ h9 => h9) rfl dJ5_append_3fe6f_30 ?_
      refine lv_dup_x1 hx hb dJ5_append_3fe6f_33 rfl rfl ?_
      refine zz_iconst hx hb dJ5_append_3fe6f_34 ?_
      refine zz_iadd hx hb dJ5_append_3fe6f_35 ?_
      refine va_put (D := D) (ci := 1) (v := .int (iI (lct + 1))) (ty := .int) (C := RJ4) (T := TJ4) (N := 4) hx hb hts iJ4 tyJ4 tyJ4_ok nmJ4 hown hK hP hD hS 0 rfl rfl 3 (by decide) f_79 (fun _ h9 => h9) rfl (by decide +kernel) rfl rfl (Nat.le_of_ble_eq_true rfl) dJ5_append_3fe6f_36 (fun H locs hP hD hS => ?_)
      have hP : va_P D vwCl (bLine tA a0 a1 lnb lml (lct + 1)) H := hP
      have hD : va_D A (bLine tA a0 a1 lnb lml (lct + 1)) := hD
      refine lv_iload_n hx hb dJ5_append_3fe6f_39 rfl (lv_at hl 1 rfl) ?_
      refine zz_i2b hx hb dJ5_append_3fe6f_40 (by omega) ?_
      refine zz_bast hx hb hK hP hD hS 1 rfl (by decide) (by omega) (by omega) dJ5_append_3fe6f_41 (fun H locs hP hD hS => ?_)
      have hP : va_P D vwCl (bLine tA a0 a1 (zU lnb lct ch) lml (lct + 1)) H := hP
      have hD : va_D A (bLine tA a0 a1 (zU lnb lct ch) lml (lct + 1)) := hD
      refine lv_goto (tgt := 75) hx hb dJ5_append_3fe6f_42 (by decide) ?_
      refine lv_aload_n hx hb dJ5_append_3fe6f_75 rfl (lv_at hl 0 rfl) ?_
      exact hret () _ _ _ _ dJ5_append_3fe6f_76 True.intro hP hD hS

set_option maxHeartbeats 4000000 in
set_option maxRecDepth 100000 in
theorem c_J4_append_cf468 (l : Launch) (K : Nat → Nat) (D : va_G) (tA : Nat → ClassId) (a0 a1 : Nat) (sz : Nat) (lnb : Int → Int) (lml : Int) (lct : Int) (ch : Int) (r_ch : -2147483648 ≤ ch ∧ ch ≤ 2147483647) (hlc : 0 ≤ lct ∧ lct < 16) (hch : 32 ≤ ch ∧ ch ≤ 126) : zCr l yJ4_append_cf468 wsJ4_append_cf468 ({ frames := 2, cells := 0, slots := 0, locals := 43 }) K D tA [.ref a0, .int (iI ch)] a0 (bLine tA a0 a1 lnb lml lct) sz (fun (u : Unit) => True) (fun (u : Unit) => bLine tA a0 a1 (zU lnb lct ch) lml (lct + 1)) 0 0 := by
  refine zCr_of (cc := cJ4_append_cf468) (maxL := 2) (by decide) rfl (Or.inl ⟨_, rfl⟩) (Nat.le_of_ble_eq_true rfl) ?_
  intro p e s m args below meth c A Q ls hx hb hml hts hown hK hP hD hA hCn hret hl
  obtain ⟨H, hHe⟩ : ∃ H : Heap, H = s.heap := ⟨_, rfl⟩
  have hS : va_S A s.heap H [] := by rw [hHe]; exact va_S.rf
  rw [← hHe] at hP ⊢
  have hl : lv_has ls 2 [(0, .ref a0), (1, .int (iI ch))] := hl
  refine lv_aload_n hx hb dJ4_append_cf468_0 rfl (lv_at hl 0 rfl) ?_
  refine lv_iload_n hx hb dJ4_append_cf468_1 rfl (lv_at hl 1 rfl) ?_
  refine zc_callSUr (As := [.int (iI ch)]) (rest := []) (wf := fun u => bLine tA a0 a1 (zU lnb lct ch) lml (lct + 1)) ⟨hx, hb, hml, hown, hts⟩ (c_J5_append_3fe6f l K D tA a0 a1 H.size lnb lml lct ch (by first | assumption | omega) (by first | assumption | omega) (by first | assumption | omega)) (va_cwSU 1 hts gJ4_append_cf468_J5_append_3fe6f_s50 rfl rfl rfl ⟨by decide, by decide +kernel⟩ ⟨Nat.le_of_ble_eq_true rfl, Nat.le_of_ble_eq_true rfl⟩) hK hP hD hS hA hCn [0, 1] [] [0, 1] rfl rfl (by decide) (by decide) (by decide) (by decide) (fun _ => rfl) (hK.1 1 (RJ4, TJ4, 4) rfl).2 (ci := 1) (q0 := 0) rfl rfl rfl rfl rfl hl.1 (Nat.le_of_ble_eq_true rfl) dJ4_append_cf468_2 ⟨Nat.le_of_ble_eq_true rfl, Nat.le_of_ble_eq_true rfl⟩ ?_
  intro u H locs p2_1 hP hD hS
  have hP : va_P D vwCl (bLine tA a0 a1 (zU lnb lct ch) lml (lct + 1)) H := hP
  have hD : va_D A (bLine tA a0 a1 (zU lnb lct ch) lml (lct + 1)) := hD
  refine lv_pop hx hb dJ4_append_cf468_5 rfl ?_
  refine lv_aload_n hx hb dJ4_append_cf468_6 rfl (lv_at hl 0 rfl) ?_
  exact hret () _ _ _ _ dJ4_append_cf468_7 True.intro hP hD hS

set_option maxHeartbeats 4000000 in
set_option maxRecDepth 100000 in
theorem c_J6_stringSize_0f7a4 (l : Launch) (K : Nat → Nat) (D : va_G) (tA : Nat → ClassId) (sz : Nat) (x : Int) (r_x : -2147483648 ≤ x ∧ x ≤ 2147483647) (hx9 : 0 ≤ x ∧ x ≤ 999999999) : zCi l yJ6_stringSize_0f7a4 wsJ6_stringSize_0f7a4 ({ frames := 0, cells := 0, slots := 0, locals := 0 }) K D tA [.int (iI x)] ([]) sz (fun (z : Int) (u : Unit) => (z = dgN x) ∧ (1 ≤ z ∧ z ≤ 9)) (fun (u : Unit) => []) 0 0 := by
  refine zCi_of (cc := cJ6_stringSize_0f7a4) (maxL := 4) (by decide) rfl (fun z u h => rfl) (Nat.le_of_ble_eq_true rfl) ?_
  intro p e s m args below meth c A Q ls hx hb hml hts hown hK hP hD hA hCn hret hl
  obtain ⟨H, hHe⟩ : ∃ H : Heap, H = s.heap := ⟨_, rfl⟩
  have hS : va_S A s.heap H [] := by rw [hHe]; exact va_S.rf
  rw [← hHe] at hP ⊢
  have hl : lv_has ls 4 [(0, .int (iI x))] := hl
  refine zz_iconst hx hb dJ6_stringSize_0f7a4_0 ?_
  refine lv_istore_n (lv' := [(1, .int (iI 1)), (0, .int (iI x))]) hx hb dJ6_stringSize_0f7a4_1 rfl hl (by decide) rfl (fun ls hl => ?_)
  refine lv_iload_n hx hb dJ6_stringSize_0f7a4_2 rfl (lv_at hl 1 rfl) ?_
  refine zz_if_lt (tgt := 11) hx hb dJ6_stringSize_0f7a4_3 (by decide) (by omega) (fun c_3 => ?_) (fun c_3 => ?_)
  · exact absurd c_3 (by omega)
  · refine zz_iconst hx hb dJ6_stringSize_0f7a4_6 ?_
    refine lv_istore_n (lv' := [(1, .int (iI 0)), (0, .int (iI x))]) hx hb dJ6_stringSize_0f7a4_7 rfl hl (by decide) rfl (fun ls hl => ?_)
    refine lv_iload_n hx hb dJ6_stringSize_0f7a4_8 rfl (lv_at hl 1 rfl) ?_
    refine zz_ineg hx hb dJ6_stringSize_0f7a4_9 ?_
    refine lv_istore_n (lv' := [(0, .int (iI (-x))), (1, .int (iI 0))]) hx hb dJ6_stringSize_0f7a4_10 rfl hl (by decide) rfl (fun ls hl => ?_)
    refine zz_bipush hx hb dJ6_stringSize_0f7a4_11 (by decide) ?_
    refine lv_istore_n (lv' := [(2, .int (iI (-10))), (0, .int (iI (-x))), (1, .int (iI 0))]) hx hb dJ6_stringSize_0f7a4_13 rfl hl (by decide) rfl (fun ls hl => ?_)
    refine zz_iconst hx hb dJ6_stringSize_0f7a4_14 ?_
    refine lv_istore_n (lv' := [(3, .int (iI 1)), (2, .int (iI (-10))), (0, .int (iI (-x))), (1, .int (iI 0))]) hx hb dJ6_stringSize_0f7a4_15 rfl hl (by decide) rfl (fun ls hl => ?_)
    have L16 : ∀ (n : Nat) (i : Int) (q : Int) (H : Heap) (locs : List Loc) (ls : Array Slot), (dgP x i q) → (10 - i).toNat < n → va_P D vwCl ([]) H → va_D A ([]) → va_S A s.heap H locs → lv_has ls 4 [(3, .int (iI i)), (2, .int (iI q)), (0, .int (iI (-x))), (1, .int (iI 0))] → W p l e (headSpec wsJ6_stringSize_0f7a4 ({ frames := 0, cells := 0, slots := 0, locals := 0 })).room s m args below meth c H locs 0 0 Q (F0 m 16 ls []) := by
      intro n
      induction n with
      | zero => intro i q H locs ls i1 hmz; exact absurd hmz (Nat.not_lt_zero _)
      | succ n ih16 =>
        intro i q H locs ls i1 hmz hP hD hS hl
        have hi9 := dgP_in i1
        refine lv_iload_n hx hb dJ6_stringSize_0f7a4_16 rfl (lv_at hl 0 rfl) ?_
        refine zz_bipush hx hb dJ6_stringSize_0f7a4_17 (by decide) ?_
        refine zz_icmp_ge (tgt := 42) hx hb dJ6_stringSize_0f7a4_19 (by decide) (by omega) (by decide) (fun c_19 => ?_) (fun c_19 => ?_)
        · exact absurd c_19 (by (have := dgP_in i1; omega))
        · refine lv_iload_n hx hb dJ6_stringSize_0f7a4_22 rfl (lv_at hl 2 rfl) ?_
          refine lv_iload_n hx hb dJ6_stringSize_0f7a4_23 rfl (lv_at hl 1 rfl) ?_
          refine zz_icmp_le (tgt := 31) hx hb dJ6_stringSize_0f7a4_24 (by decide) (by omega) (by omega) (fun c_24 => ?_) (fun c_24 => ?_)
          · refine zz_bipush hx hb dJ6_stringSize_0f7a4_31 (by decide) ?_
            refine lv_iload_n hx hb dJ6_stringSize_0f7a4_33 rfl (lv_at hl 1 rfl) ?_
            refine zz_imul hx hb dJ6_stringSize_0f7a4_34 ?_
            refine lv_istore_n (lv' := [(2, .int (iI (10 * q))), (3, .int (iI i)), (0, .int (iI (-x))), (1, .int (iI 0))]) hx hb dJ6_stringSize_0f7a4_35 rfl hl (by decide) rfl (fun ls hl => ?_)
            refine zz_iinc (lv' := [(3, .int (iI (i + 1))), (2, .int (iI (10 * q))), (0, .int (iI (-x))), (1, .int (iI 0))]) hx hb dJ6_stringSize_0f7a4_36 hl (k := 1) rfl (by decide) rfl (fun ls hl => ?_)
            refine lv_goto (tgt := 16) hx hb dJ6_stringSize_0f7a4_39 (by decide) ?_
            exact ih16 (i + 1) (10 * q) _ _ _ (by exact (dgP_s i1 hx9.2 (by omega)).1) (by have h9 := (dgP_s i1 hx9.2 (by omega)).2; omega) hP hD hS (lv_sub hl [0, 1, 2, 3] rfl)
          · refine lv_iload_n hx hb dJ6_stringSize_0f7a4_27 rfl (lv_at hl 0 rfl) ?_
            refine lv_iload_n hx hb dJ6_stringSize_0f7a4_28 rfl (lv_at hl 3 rfl) ?_
            refine zz_iadd hx hb dJ6_stringSize_0f7a4_29 ?_
            exact hret (i + 0) () _ _ _ _ dJ6_stringSize_0f7a4_30 ⟨(show (i + 0) = dgN x from by rw [Int.add_zero]; exact dgP_end hx9.1 hx9.2 i1 (by omega)), (show 1 ≤ (i + 0) ∧ (i + 0) ≤ 9 from by omega)⟩ hP hD hS
    exact L16 _ 1 (-10) _ _ _ (by exact Or.inl ⟨rfl, rfl⟩) (Nat.lt_succ_self _) hP hD hS (lv_sub hl [0, 1, 2, 3] rfl)

set_option maxHeartbeats 4000000 in
set_option maxRecDepth 100000 in
theorem c_J6_getChars_ba4f3 (l : Launch) (K : Nat → Nat) (D : va_G) (tA : Nat → ClassId) (a0 a1 : Nat) (sz : Nat) (lnb : Int → Int) (lml : Int) (lct : Int) (x : Int) (ix : Int) (r_x : -2147483648 ≤ x ∧ x ≤ 2147483647) (r_ix : -2147483648 ≤ ix ∧ ix ≤ 2147483647) (hx9 : 0 ≤ x ∧ x ≤ 999999999) (hix : 0 ≤ lct ∧ ix = lct + dgN x ∧ ix ≤ 16) : zCi l yJ6_getChars_ba4f3 wsJ6_getChars_ba4f3 ({ frames := 0, cells := 0, slots := 0, locals := 0 }) K D tA [.int (iI x), .int (iI ix), .ref a1] (bLine tA a0 a1 lnb lml lct) sz (fun (z : Int) (u : Unit) => True) (fun (u : Unit) => bLine tA a0 a1 (wrL lnb lct (dgL x)) lml lct) 0 0 := by
  refine zCi_of (cc := cJ6_getChars_ba4f3) (maxL := 7) (by decide) rfl (fun z u h => rfl) (Nat.le_of_ble_eq_true rfl) ?_
  intro p e s m args below meth c A Q ls hx hb hml hts hown hK hP hD hA hCn hret hl
  obtain ⟨H, hHe⟩ : ∃ H : Heap, H = s.heap := ⟨_, rfl⟩
  have hS : va_S A s.heap H [] := by rw [hHe]; exact va_S.rf
  rw [← hHe] at hP ⊢
  have hl : lv_has ls 7 [(0, .int (iI x)), (1, .int (iI ix)), (2, .ref a1)] := hl
  have f_83 := hts (.fieldLink RJ6 83 "java/lang/Integer" "DigitOnes" "[B") (by decide +kernel)
  have f_87 := hts (.fieldLink RJ6 87 "java/lang/Integer" "DigitTens" "[B") (by decide +kernel)
  have hdn := dgN_in hx9.1 hx9.2
  refine lv_iload_n hx hb dJ6_getChars_ba4f3_0 rfl (lv_at hl 1 rfl) ?_
  refine lv_istore (lv' := [(5, .int (iI ix)), (0, .int (iI x)), (1, .int (iI ix)), (2, .ref a1)]) hx hb dJ6_getChars_ba4f3_1 hl (by decide) rfl (fun ls hl => ?_)
  refine lv_iload_n hx hb dJ6_getChars_ba4f3_3 rfl (lv_at hl 1 rfl) ?_
  refine zz_if_ge (tgt := 11) hx hb dJ6_getChars_ba4f3_4 (by decide) (by omega) (fun c_4 => ?_) (fun c_4 => ?_)
  · refine zz_iconst hx hb dJ6_getChars_ba4f3_11 ?_
    refine lv_istore (lv' := [(6, .int (iI 0)), (5, .int (iI ix)), (0, .int (iI x)), (1, .int (iI ix)), (2, .ref a1)]) hx hb dJ6_getChars_ba4f3_12 hl (by decide) rfl (fun ls hl => ?_)
    refine lv_iload hx hb dJ6_getChars_ba4f3_14 (lv_at hl 0 rfl) ?_
    refine zz_if_ne (tgt := 22) hx hb dJ6_getChars_ba4f3_16 (by decide) (by decide) (fun c_16 => ?_) (fun c_16 => ?_)
    · exact absurd c_16 (by decide)
    · refine lv_iload_n hx hb dJ6_getChars_ba4f3_19 rfl (lv_at hl 2 rfl) ?_
      refine zz_ineg hx hb dJ6_getChars_ba4f3_20 ?_
      refine lv_istore_n (lv' := [(0, .int (iI (-x))), (6, .int (iI 0)), (5, .int (iI ix)), (1, .int (iI ix)), (2, .ref a1)]) hx hb dJ6_getChars_ba4f3_21 rfl hl (by decide) rfl (fun ls hl => ?_)
      have L22 : ∀ (n : Nat) (y : Int) (at1 : Int) (g9 : Int → Int) (H : Heap) (locs : List Loc) (ls : Array Slot), (0 ≤ y ∧ y ≤ 999999999) → (gcI lnb x lct y at1 g9) → (y).toNat < n → va_P D vwCl (bLine tA a0 a1 g9 lml lct) H → va_D A (bLine tA a0 a1 g9 lml lct) → va_S A s.heap H locs → lv_has ls 7 [(0, .int (iI (-y))), (6, .int (iI 0)), (5, .int (iI at1)), (1, .int (iI ix)), (2, .ref a1)] → W p l e (headSpec wsJ6_getChars_ba4f3 ({ frames := 0, cells := 0, slots := 0, locals := 0 })).room s m args below meth c H locs 0 0 Q (F0 m 22 ls []) := by
        intro n
        induction n with
        | zero => intro y at1 g9 H locs ls i0 i1 hmz; exact absurd hmz (Nat.not_lt_zero _)
        | succ n ih22 =>
          intro y at1 g9 H locs ls i0 i1 hmz hP hD hS hl
          have hat := gcI_at i1
          have hdy := dgN_in i0.1 i0.2
          have hdb : y ≤ 9 ∨ 2 ≤ dgN y := if h9 : y ≤ 9 then Or.inl h9 else Or.inr (dgN_big (by omega) i0.2)
          refine lv_iload_n hx hb dJ6_getChars_ba4f3_22 rfl (lv_at hl 0 rfl) ?_
          refine zz_bipush hx hb dJ6_getChars_ba4f3_23 (by decide) ?_
          refine zz_icmp_gt (tgt := 72) hx hb dJ6_getChars_ba4f3_25 (by decide) (by omega) (by decide) (fun c_25 => ?_) (fun c_25 => ?_)
          · refine lv_aload_n hx hb dJ6_getChars_ba4f3_72 rfl (lv_at hl 4 rfl) ?_
            refine zz_iinc (lv' := [(5, .int (iI (at1 + (-1)))), (0, .int (iI (-y))), (6, .int (iI 0)), (1, .int (iI ix)), (2, .ref a1)]) hx hb dJ6_getChars_ba4f3_73 hl (k := 2) rfl (by decide) rfl (fun ls hl => ?_)
            refine lv_iload hx hb dJ6_getChars_ba4f3_76 (lv_at hl 0 rfl) ?_
            refine va_gets hx hb hCn.1.1.2.2.1.1 hS hown f_83 (fun _ h9 => h9) dJ6_getChars_ba4f3_78 ?_
            refine lv_iload_n hx hb dJ6_getChars_ba4f3_81 rfl (lv_at hl 1 rfl) ?_
            refine zz_ineg hx hb dJ6_getChars_ba4f3_82 ?_
            refine va_tb hx hb hCn.1.1.2.2.1.2 hS (zin (k := (-(-y))) (n := 100) (by omega) (by decide)) (v := .int (iI (48 + (-(-y)) % 10))) (by show Value.int (iI (48 + (((iI (-(-y))).toNatClampNeg : Nat) : Int) % 10)) = _; rw [iI_clamp (by omega), Int.toNat_of_nonneg (by omega)]) dJ6_getChars_ba4f3_83 ?_
            refine zz_bast hx hb hK hP hD hS 1 rfl (by decide) (by omega) (by omega) dJ6_getChars_ba4f3_84 (fun H locs hP hD hS => ?_)
            have hP : va_P D vwCl (bLine tA a0 a1 (zU g9 (at1 + (-1)) (48 + (-(-y)) % 10)) lml lct) H := hP
            have hD : va_D A (bLine tA a0 a1 (zU g9 (at1 + (-1)) (48 + (-(-y)) % 10)) lml lct) := hD
            refine lv_iload_n hx hb dJ6_getChars_ba4f3_85 rfl (lv_at hl 1 rfl) ?_
            refine zz_bipush hx hb dJ6_getChars_ba4f3_86 (by decide) ?_
            refine zz_icmp_ge (tgt := 104) hx hb dJ6_getChars_ba4f3_88 (by decide) (by omega) (by decide) (fun c_88 => ?_) (fun c_88 => ?_)
            · refine lv_iload hx hb dJ6_getChars_ba4f3_104 (lv_at hl 2 rfl) ?_
              refine zz_if_eq (tgt := 118) hx hb dJ6_getChars_ba4f3_106 (by decide) (by decide) (fun c_106 => ?_) (fun c_106 => ?_)
              · refine lv_iload hx hb dJ6_getChars_ba4f3_118 (lv_at hl 0 rfl) ?_
                have e_lnb : ((zU g9 (at1 + (-1)) (48 + (-(-y)) % 10)) : Int → Int) = (wrL lnb lct (dgL x)) := by first | exact gcI_e1 i1 (by omega) (by omega) (by omega) (by omega) | exact gcI_e2 i1 (by omega) (by omega) (by omega) (by omega) (by omega) (by omega)
                rw [e_lnb] at hP hD
                exact hret (at1 + (-1)) () _ _ _ _ dJ6_getChars_ba4f3_120 True.intro hP hD hS
              · exact absurd c_106 (by decide)
            · refine lv_aload_n hx hb dJ6_getChars_ba4f3_91 rfl (lv_at hl 4 rfl) ?_
              refine zz_iinc (lv' := [(5, .int (iI ((at1 + (-1)) + (-1)))), (0, .int (iI (-y))), (6, .int (iI 0)), (1, .int (iI ix)), (2, .ref a1)]) hx hb dJ6_getChars_ba4f3_92 hl (k := 0) rfl (by decide) rfl (fun ls hl => ?_)
              refine lv_iload hx hb dJ6_getChars_ba4f3_95 (lv_at hl 0 rfl) ?_
              refine va_gets hx hb hCn.1.1.2.2.2.1.1 hS hown f_87 (fun _ h9 => h9) dJ6_getChars_ba4f3_97 ?_
              refine lv_iload_n hx hb dJ6_getChars_ba4f3_100 rfl (lv_at hl 1 rfl) ?_
              refine zz_ineg hx hb dJ6_getChars_ba4f3_101 ?_
              refine va_tb hx hb hCn.1.1.2.2.2.1.2 hS (zin (k := (-(-y))) (n := 100) (by omega) (by decide)) (v := .int (iI (48 + (-(-y)) / 10))) (by show Value.int (iI (48 + (((iI (-(-y))).toNatClampNeg : Nat) : Int) / 10)) = _; rw [iI_clamp (by omega), Int.toNat_of_nonneg (by omega)]) dJ6_getChars_ba4f3_102 ?_
              refine zz_bast hx hb hK hP hD hS 1 rfl (by decide) (by omega) (by omega) dJ6_getChars_ba4f3_103 (fun H locs hP hD hS => ?_)
              have hP : va_P D vwCl (bLine tA a0 a1 (zU (zU g9 (at1 + (-1)) (48 + (-(-y)) % 10)) ((at1 + (-1)) + (-1)) (48 + (-(-y)) / 10)) lml lct) H := hP
              have hD : va_D A (bLine tA a0 a1 (zU (zU g9 (at1 + (-1)) (48 + (-(-y)) % 10)) ((at1 + (-1)) + (-1)) (48 + (-(-y)) / 10)) lml lct) := hD
              refine lv_iload hx hb dJ6_getChars_ba4f3_104 (lv_at hl 2 rfl) ?_
              refine zz_if_eq (tgt := 118) hx hb dJ6_getChars_ba4f3_106 (by decide) (by decide) (fun c_106 => ?_) (fun c_106 => ?_)
              · refine lv_iload hx hb dJ6_getChars_ba4f3_118 (lv_at hl 0 rfl) ?_
                have e_lnb : ((zU (zU g9 (at1 + (-1)) (48 + (-(-y)) % 10)) ((at1 + (-1)) + (-1)) (48 + (-(-y)) / 10)) : Int → Int) = (wrL lnb lct (dgL x)) := by first | exact gcI_e1 i1 (by omega) (by omega) (by omega) (by omega) | exact gcI_e2 i1 (by omega) (by omega) (by omega) (by omega) (by omega) (by omega)
                rw [e_lnb] at hP hD
                exact hret ((at1 + (-1)) + (-1)) () _ _ _ _ dJ6_getChars_ba4f3_120 True.intro hP hD hS
              · exact absurd c_106 (by decide)
          · refine lv_iload_n hx hb dJ6_getChars_ba4f3_28 rfl (lv_at hl 0 rfl) ?_
            refine zz_bipush hx hb dJ6_getChars_ba4f3_29 (by decide) ?_
            refine zz_idivm (x := y) hx hb dJ6_getChars_ba4f3_31 (by omega) (by omega) ?_
            refine lv_istore_n (lv' := [(3, .int (iI (-(y / 100)))), (0, .int (iI (-y))), (6, .int (iI 0)), (5, .int (iI at1)), (1, .int (iI ix)), (2, .ref a1)]) hx hb dJ6_getChars_ba4f3_32 rfl hl (by decide) rfl (fun ls hl => ?_)
            refine lv_iload_n hx hb dJ6_getChars_ba4f3_33 rfl (lv_at hl 0 rfl) ?_
            refine zz_bipush hx hb dJ6_getChars_ba4f3_34 (by decide) ?_
            refine zz_imul hx hb dJ6_getChars_ba4f3_36 ?_
            refine lv_iload_n hx hb dJ6_getChars_ba4f3_37 rfl (lv_at hl 1 rfl) ?_
            refine zz_isub hx hb dJ6_getChars_ba4f3_38 ?_
            refine lv_istore (lv' := [(4, .int (iI (((-(y / 100)) * 100) - (-y)))), (3, .int (iI (-(y / 100)))), (0, .int (iI (-y))), (6, .int (iI 0)), (5, .int (iI at1)), (1, .int (iI ix)), (2, .ref a1)]) hx hb dJ6_getChars_ba4f3_39 hl (by decide) rfl (fun ls hl => ?_)
            refine lv_iload_n hx hb dJ6_getChars_ba4f3_41 rfl (lv_at hl 1 rfl) ?_
            refine lv_istore_n (lv' := [(0, .int (iI (-(y / 100)))), (4, .int (iI (((-(y / 100)) * 100) - (-y)))), (3, .int (iI (-(y / 100)))), (6, .int (iI 0)), (5, .int (iI at1)), (1, .int (iI ix)), (2, .ref a1)]) hx hb dJ6_getChars_ba4f3_42 rfl hl (by decide) rfl (fun ls hl => ?_)
            refine lv_aload_n hx hb dJ6_getChars_ba4f3_43 rfl (lv_at hl 6 rfl) ?_
            refine zz_iinc (lv' := [(5, .int (iI (at1 + (-1)))), (0, .int (iI (-(y / 100)))), (4, .int (iI (((-(y / 100)) * 100) - (-y)))), (3, .int (iI (-(y / 100)))), (6, .int (iI 0)), (1, .int (iI ix)), (2, .ref a1)]) hx hb dJ6_getChars_ba4f3_44 hl (k := 4) rfl (by decide) rfl (fun ls hl => ?_)
            refine lv_iload hx hb dJ6_getChars_ba4f3_47 (lv_at hl 0 rfl) ?_
            refine va_gets hx hb hCn.1.1.2.2.1.1 hS hown f_83 (fun _ h9 => h9) dJ6_getChars_ba4f3_49 ?_
            refine lv_iload hx hb dJ6_getChars_ba4f3_52 (lv_at hl 2 rfl) ?_
            refine va_tb hx hb hCn.1.1.2.2.1.2 hS (zin (k := (((-(y / 100)) * 100) - (-y))) (n := 100) (by omega) (by decide)) (v := .int (iI (48 + (((-(y / 100)) * 100) - (-y)) % 10))) (by show Value.int (iI (48 + (((iI (((-(y / 100)) * 100) - (-y))).toNatClampNeg : Nat) : Int) % 10)) = _; rw [iI_clamp (by omega), Int.toNat_of_nonneg (by omega)]) dJ6_getChars_ba4f3_54 ?_
            refine zz_bast hx hb hK hP hD hS 1 rfl (by decide) (by omega) (by omega) dJ6_getChars_ba4f3_55 (fun H locs hP hD hS => ?_)
            have hP : va_P D vwCl (bLine tA a0 a1 (zU g9 (at1 + (-1)) (48 + (((-(y / 100)) * 100) - (-y)) % 10)) lml lct) H := hP
            have hD : va_D A (bLine tA a0 a1 (zU g9 (at1 + (-1)) (48 + (((-(y / 100)) * 100) - (-y)) % 10)) lml lct) := hD
            refine lv_aload_n hx hb dJ6_getChars_ba4f3_56 rfl (lv_at hl 6 rfl) ?_
            refine zz_iinc (lv' := [(5, .int (iI ((at1 + (-1)) + (-1)))), (0, .int (iI (-(y / 100)))), (4, .int (iI (((-(y / 100)) * 100) - (-y)))), (3, .int (iI (-(y / 100)))), (6, .int (iI 0)), (1, .int (iI ix)), (2, .ref a1)]) hx hb dJ6_getChars_ba4f3_57 hl (k := 0) rfl (by decide) rfl (fun ls hl => ?_)
            refine lv_iload hx hb dJ6_getChars_ba4f3_60 (lv_at hl 0 rfl) ?_
            refine va_gets hx hb hCn.1.1.2.2.2.1.1 hS hown f_87 (fun _ h9 => h9) dJ6_getChars_ba4f3_62 ?_
            refine lv_iload hx hb dJ6_getChars_ba4f3_65 (lv_at hl 2 rfl) ?_
            refine va_tb hx hb hCn.1.1.2.2.2.1.2 hS (zin (k := (((-(y / 100)) * 100) - (-y))) (n := 100) (by omega) (by decide)) (v := .int (iI (48 + (((-(y / 100)) * 100) - (-y)) / 10))) (by show Value.int (iI (48 + (((iI (((-(y / 100)) * 100) - (-y))).toNatClampNeg : Nat) : Int) / 10)) = _; rw [iI_clamp (by omega), Int.toNat_of_nonneg (by omega)]) dJ6_getChars_ba4f3_67 ?_
            refine zz_bast hx hb hK hP hD hS 1 rfl (by decide) (by omega) (by omega) dJ6_getChars_ba4f3_68 (fun H locs hP hD hS => ?_)
            have hP : va_P D vwCl (bLine tA a0 a1 (zU (zU g9 (at1 + (-1)) (48 + (((-(y / 100)) * 100) - (-y)) % 10)) ((at1 + (-1)) + (-1)) (48 + (((-(y / 100)) * 100) - (-y)) / 10)) lml lct) H := hP
            have hD : va_D A (bLine tA a0 a1 (zU (zU g9 (at1 + (-1)) (48 + (((-(y / 100)) * 100) - (-y)) % 10)) ((at1 + (-1)) + (-1)) (48 + (((-(y / 100)) * 100) - (-y)) / 10)) lml lct) := hD
            refine lv_goto (tgt := 22) hx hb dJ6_getChars_ba4f3_69 (by decide) ?_
            exact ih22 (y / 100) ((at1 + (-1)) + (-1)) (zU (zU g9 (at1 + (-1)) (48 + (((-(y / 100)) * 100) - (-y)) % 10)) ((at1 + (-1)) + (-1)) (48 + (((-(y / 100)) * 100) - (-y)) / 10)) _ _ _ (by omega) (by exact gcI_b i1 (by omega) (by omega) (by omega) (by omega) (by omega)) (by omega) hP hD hS (lv_sub hl [1, 4, 0, 5, 6] rfl)
      exact L22 _ x ix lnb _ _ _ (by omega) (by exact gcI_0 (by omega)) (Nat.lt_succ_self _) hP hD hS (lv_sub hl [0, 1, 2, 3, 4] rfl)
  · exact absurd c_4 (by omega)

set_option maxHeartbeats 4000000 in
set_option maxRecDepth 100000 in
theorem c_J5_append_c97b9 (l : Launch) (K : Nat → Nat) (D : va_G) (tA : Nat → ClassId) (a0 a1 : Nat) (sz : Nat) (lnb : Int → Int) (lml : Int) (lct : Int) (x : Int) (r_x : -2147483648 ≤ x ∧ x ≤ 2147483647) (hx9 : 0 ≤ x ∧ x ≤ 999999999) (hlc : 0 ≤ lct ∧ lct + dgN x ≤ 16) : zCr l yJ5_append_c97b9 wsJ5_append_c97b9 ({ frames := 1, cells := 0, slots := 0, locals := 26 }) K D tA [.ref a0, .int (iI x)] a0 (bLine tA a0 a1 lnb lml lct) sz (fun (u : Unit) => True) (fun (u : Unit) => bLine tA a0 a1 (wrL lnb lct (dgL x)) lml (lct + dgN x)) 0 0 := by
  refine zCr_of (cc := cJ5_append_c97b9) (maxL := 4) (by decide) rfl (Or.inl ⟨_, rfl⟩) (Nat.le_of_ble_eq_true rfl) ?_
  intro p e s m args below meth c A Q ls hx hb hml hts hown hK hP hD hA hCn hret hl
  obtain ⟨H, hHe⟩ : ∃ H : Heap, H = s.heap := ⟨_, rfl⟩
  have hS : va_S A s.heap H [] := by rw [hHe]; exact va_S.rf
  rw [← hHe] at hP ⊢
  have hl : lv_has ls 4 [(0, .ref a0), (1, .int (iI x))] := hl
  have iJ4 : ∀ v ∈ wsJ40, v ∈ wsJ5_append_c97b9 := by decide +kernel
  have f_15 := hts (.fieldLink RJ5 15 "java/lang/AbstractStringBuilder" "value" "[B") (by decide +kernel)
  have f_79 := hts (.fieldLink RJ5 79 "java/lang/AbstractStringBuilder" "count" "I") (by decide +kernel)
  have hdn := dgN_in hx9.1 hx9.2
  refine lv_aload_n hx hb dJ5_append_c97b9_0 rfl (lv_at hl 0 rfl) ?_
  refine va_get (D := D) (ci := 1) (v := .int (iI lct)) (C := RJ4) (T := TJ4) (N := 4) hx hb hts iJ4 hown hK hP 0 rfl rfl 3 (by decide) f_79 (fun _ h9 => h9) rfl dJ5_append_c97b9_1 ?_
  refine lv_istore_n (lv' := [(2, .int (iI lct)), (0, .ref a0), (1, .int (iI x))]) hx hb dJ5_append_c97b9_4 rfl hl (by decide) rfl (fun ls hl => ?_)
  refine lv_iload_n hx hb dJ5_append_c97b9_5 rfl (lv_at hl 0 rfl) ?_
  refine lv_iload_n hx hb dJ5_append_c97b9_6 rfl (lv_at hl 2 rfl) ?_
  refine zc_callSi (As := [.int (iI x)]) (rest := [.int (iI lct)]) (wf := fun u => bLine tA a0 a1 lnb lml lct) ⟨hx, hb, hml, hown, hts⟩ (c_J6_stringSize_0f7a4 l K D tA  H.size x (by first | assumption | omega) (by first | assumption | omega)) (va_cwS 1 hts gJ5_append_c97b9_J6_stringSize_0f7a4 rfl rfl rfl (by decide +kernel) ⟨Nat.le_of_ble_eq_true rfl, Nat.le_of_ble_eq_true rfl⟩) hK hP hD hS hA hCn [] [0, 1] [0, 1] rfl rfl (by decide) (by decide) (by decide) (by decide) (fun _ => rfl) rfl rfl hl.1 (Nat.le_of_ble_eq_true rfl) dJ5_append_c97b9_7 ⟨Nat.le_of_ble_eq_true rfl, Nat.le_of_ble_eq_true rfl⟩ ?_
  intro z7_1 u H locs p7_2 hP hD hS
  have hP : va_P D vwCl (bLine tA a0 a1 lnb lml lct) H := hP
  have hD : va_D A (bLine tA a0 a1 lnb lml lct) := hD
  have q_7 : z7_1 = dgN x := p7_2.1
  have q2_7 : 1 ≤ z7_1 ∧ z7_1 ≤ 9 := p7_2.2
  refine zz_iadd hx hb dJ5_append_c97b9_10 ?_
  refine lv_istore_n (lv' := [(3, .int (iI (lct + z7_1))), (2, .int (iI lct)), (0, .ref a0), (1, .int (iI x))]) hx hb dJ5_append_c97b9_11 rfl hl (by decide) rfl (fun ls hl => ?_)
  refine lv_aload_n hx hb dJ5_append_c97b9_12 rfl (lv_at hl 2 rfl) ?_
  refine lv_iload_n hx hb dJ5_append_c97b9_13 rfl (lv_at hl 0 rfl) ?_
  refine zc_callUv (As := [.int (iI (lct + z7_1))]) (rest := []) (wf := fun u => bLine tA a0 a1 lnb lml lct) ⟨hx, hb, hml, hown, hts⟩ (c_J5_ensureCapacityInternal_d00df l K D tA a0 a1 H.size lnb lml lct (lct + z7_1) (by first | assumption | omega) (by first | assumption | omega)) (va_cwU 1 hts gJ5_append_c97b9_J5_ensureCapacityInternal_d00df_u100J4 rfl rfl rfl rfl ⟨by decide, by decide, by decide +kernel⟩ ⟨Nat.le_of_ble_eq_true rfl, Nat.le_of_ble_eq_true rfl⟩) hK hP hD hS hA hCn [0, 1] [] [0, 1] rfl rfl (by decide) (by decide) (by decide) (by decide) (fun _ => rfl) (ci := 1) (q0 := 0) rfl rfl rfl rfl rfl hl.1 (Nat.le_of_ble_eq_true rfl) dJ5_append_c97b9_14 ⟨Nat.le_of_ble_eq_true rfl, Nat.le_of_ble_eq_true rfl⟩ ?_
  intro u H locs p14_3 hP hD hS
  have hP : va_P D vwCl (bLine tA a0 a1 lnb lml lct) H := hP
  have hD : va_D A (bLine tA a0 a1 lnb lml lct) := hD
  refine lv_aload_n hx hb dJ5_append_c97b9_17 rfl (lv_at hl 2 rfl) ?_
  refine zc_callUi (As := []) (rest := []) (wf := fun u => bLine tA a0 a1 lnb lml lct) ⟨hx, hb, hml, hown, hts⟩ (c_J5_isLatin1_aae02 l K D tA a0 a1 H.size lnb lml lct) (va_cwU 0 hts gJ5_append_c97b9_J5_isLatin1_aae02_u83J4 rfl rfl rfl rfl ⟨by decide, by decide, by decide +kernel⟩ ⟨Nat.le_of_ble_eq_true rfl, Nat.le_of_ble_eq_true rfl⟩) hK hP hD hS hA hCn [0, 1] [] [0, 1] rfl rfl (by decide) (by decide) (by decide) (by decide) (fun _ => rfl) (ci := 1) (q0 := 0) rfl rfl rfl rfl rfl hl.1 (Nat.le_of_ble_eq_true rfl) dJ5_append_c97b9_18 ⟨Nat.le_of_ble_eq_true rfl, Nat.le_of_ble_eq_true rfl⟩ ?_
  intro z18_4 u H locs p18_5 hP hD hS
  have hP : va_P D vwCl (bLine tA a0 a1 lnb lml lct) H := hP
  have hD : va_D A (bLine tA a0 a1 lnb lml lct) := hD
  have q_18 : z18_4 = 1 := p18_5
  have hz18 : z18_4 = 1 := by first | exact q_18 | omega
  subst hz18
  refine zz_if_eq (tgt := 37) hx hb dJ5_append_c97b9_21 (by decide) (by decide) (fun c_21 => ?_) (fun c_21 => ?_)
  · exact absurd c_21 (by decide)
  · refine lv_iload_n hx hb dJ5_append_c97b9_24 rfl (lv_at hl 3 rfl) ?_
    refine lv_iload_n hx hb dJ5_append_c97b9_25 rfl (lv_at hl 0 rfl) ?_
    refine lv_aload_n hx hb dJ5_append_c97b9_26 rfl (lv_at hl 2 rfl) ?_
    refine va_get (D := D) (ci := 1) (v := .ref a1) (C := RJ4) (T := TJ4) (N := 4) hx hb hts iJ4 hown hK hP 0 rfl rfl 0 (by decide) f_15 (fun _ h9 => h9) rfl dJ5_append_c97b9_27 ?_
    refine zc_callSi (As := [.int (iI x), .int (iI (lct + z7_1)), .ref a1]) (rest := []) (wf := fun u => bLine tA a0 a1 (wrL lnb lct (dgL x)) lml lct) ⟨hx, hb, hml, hown, hts⟩ (c_J6_getChars_ba4f3 l K D tA a0 a1 H.size lnb lml lct x (lct + z7_1) (by first | assumption | omega) (by first | assumption | omega) (by first | assumption | omega) (by first | assumption | omega)) (va_cwS 3 hts gJ5_append_c97b9_J6_getChars_ba4f3 rfl rfl rfl (by decide +kernel) ⟨Nat.le_of_ble_eq_true rfl, Nat.le_of_ble_eq_true rfl⟩) hK hP hD hS hA hCn [0, 1] [] [0, 1] rfl rfl (by decide) (by decide) (by decide) (by decide) (fun _ => rfl) rfl rfl hl.1 (Nat.le_of_ble_eq_true rfl) dJ5_append_c97b9_30 ⟨Nat.le_of_ble_eq_true rfl, Nat.le_of_ble_eq_true rfl⟩ ?_
    intro z30_6 u H locs p30_7 hP hD hS
    have hP : va_P D vwCl (bLine tA a0 a1 (wrL lnb lct (dgL x)) lml lct) H := hP
    have hD : va_D A (bLine tA a0 a1 (wrL lnb lct (dgL x)) lml lct) := hD
    refine lv_pop hx hb dJ5_append_c97b9_33 rfl ?_
    refine lv_goto (tgt := 48) hx hb dJ5_append_c97b9_34 (by decide) ?_
    refine lv_aload_n hx hb dJ5_append_c97b9_48 rfl (lv_at hl 2 rfl) ?_
    refine lv_iload_n hx hb dJ5_append_c97b9_49 rfl (lv_at hl 0 rfl) ?_
    refine va_put (D := D) (ci := 1) (v := .int (iI (lct + z7_1))) (ty := .int) (C := RJ4) (T := TJ4) (N := 4) hx hb hts iJ4 tyJ4 tyJ4_ok nmJ4 hown hK hP hD hS 0 rfl rfl 3 (by decide) f_79 (fun _ h9 => h9) rfl (by decide +kernel) rfl rfl (Nat.le_of_ble_eq_true rfl) dJ5_append_c97b9_50 (fun H locs hP hD hS => ?_)
    have hP : va_P D vwCl (bLine tA a0 a1 (wrL lnb lct (dgL x)) lml (lct + z7_1)) H := hP
    have hD : va_D A (bLine tA a0 a1 (wrL lnb lct (dgL x)) lml (lct + z7_1)) := hD
    refine lv_aload_n hx hb dJ5_append_c97b9_53 rfl (lv_at hl 2 rfl) ?_
    have e_lct : ((lct + z7_1) : Int) = (lct + dgN x) := by omega
    rw [e_lct] at hP hD
    exact hret () _ _ _ _ dJ5_append_c97b9_54 True.intro hP hD hS

set_option maxHeartbeats 4000000 in
set_option maxRecDepth 100000 in
theorem c_J4_append_bf812 (l : Launch) (K : Nat → Nat) (D : va_G) (tA : Nat → ClassId) (a0 a1 : Nat) (sz : Nat) (lnb : Int → Int) (lml : Int) (lct : Int) (x : Int) (r_x : -2147483648 ≤ x ∧ x ≤ 2147483647) (hx9 : 0 ≤ x ∧ x ≤ 999999999) (hlc : 0 ≤ lct ∧ lct + dgN x ≤ 16) : zCr l yJ4_append_bf812 wsJ4_append_bf812 ({ frames := 2, cells := 0, slots := 0, locals := 49 }) K D tA [.ref a0, .int (iI x)] a0 (bLine tA a0 a1 lnb lml lct) sz (fun (u : Unit) => True) (fun (u : Unit) => bLine tA a0 a1 (wrL lnb lct (dgL x)) lml (lct + dgN x)) 0 0 := by
  refine zCr_of (cc := cJ4_append_bf812) (maxL := 2) (by decide) rfl (Or.inl ⟨_, rfl⟩) (Nat.le_of_ble_eq_true rfl) ?_
  intro p e s m args below meth c A Q ls hx hb hml hts hown hK hP hD hA hCn hret hl
  obtain ⟨H, hHe⟩ : ∃ H : Heap, H = s.heap := ⟨_, rfl⟩
  have hS : va_S A s.heap H [] := by rw [hHe]; exact va_S.rf
  rw [← hHe] at hP ⊢
  have hl : lv_has ls 2 [(0, .ref a0), (1, .int (iI x))] := hl
  refine lv_aload_n hx hb dJ4_append_bf812_0 rfl (lv_at hl 0 rfl) ?_
  refine lv_iload_n hx hb dJ4_append_bf812_1 rfl (lv_at hl 1 rfl) ?_
  refine zc_callSUr (As := [.int (iI x)]) (rest := []) (wf := fun u => bLine tA a0 a1 (wrL lnb lct (dgL x)) lml (lct + dgN x)) ⟨hx, hb, hml, hown, hts⟩ (c_J5_append_c97b9 l K D tA a0 a1 H.size lnb lml lct x (by first | assumption | omega) (by first | assumption | omega) (by first | assumption | omega)) (va_cwSU 1 hts gJ4_append_bf812_J5_append_c97b9_s53 rfl rfl rfl ⟨by decide, by decide +kernel⟩ ⟨Nat.le_of_ble_eq_true rfl, Nat.le_of_ble_eq_true rfl⟩) hK hP hD hS hA hCn [0, 1] [] [0, 1] rfl rfl (by decide) (by decide) (by decide) (by decide) (fun _ => rfl) (hK.1 1 (RJ4, TJ4, 4) rfl).2 (ci := 1) (q0 := 0) rfl rfl rfl rfl rfl hl.1 (Nat.le_of_ble_eq_true rfl) dJ4_append_bf812_2 ⟨Nat.le_of_ble_eq_true rfl, Nat.le_of_ble_eq_true rfl⟩ ?_
  intro u H locs p2_1 hP hD hS
  have hP : va_P D vwCl (bLine tA a0 a1 (wrL lnb lct (dgL x)) lml (lct + dgN x)) H := hP
  have hD : va_D A (bLine tA a0 a1 (wrL lnb lct (dgL x)) lml (lct + dgN x)) := hD
  refine lv_pop hx hb dJ4_append_bf812_5 rfl ?_
  refine lv_aload_n hx hb dJ4_append_bf812_6 rfl (lv_at hl 0 rfl) ?_
  exact hret () _ _ _ _ dJ4_append_bf812_7 True.intro hP hD hS

set_option maxHeartbeats 4000000 in
set_option maxRecDepth 100000 in
theorem c_J5_setLength_d00df (l : Launch) (K : Nat → Nat) (D : va_G) (tA : Nat → ClassId) (a0 a1 : Nat) (sz : Nat) (lnb : Int → Int) (lml : Int) (lct : Int) (nl : Int) (r_nl : -2147483648 ≤ nl ∧ nl ≤ 2147483647) (hlc : 0 ≤ lct ∧ lct ≤ 16) (hnl : nl = 0) : zCv l yJ5_setLength_d00df wsJ5_setLength_d00df ({ frames := 1, cells := 0, slots := 0, locals := 22 }) K D tA [.ref a0, .int (iI nl)] (bLine tA a0 a1 lnb lml lct) sz (fun (u : (Int)) => True) (fun (u : (Int)) => bLine tA a0 a1 lnb u nl) 0 0 := by
  refine zCv_of (cc := cJ5_setLength_d00df) (maxL := 2) (by decide) rfl (Nat.le_of_ble_eq_true rfl) ?_
  intro p e s m args below meth c A Q ls hx hb hml hts hown hK hP hD hA hCn hret hl
  obtain ⟨H, hHe⟩ : ∃ H : Heap, H = s.heap := ⟨_, rfl⟩
  have hS : va_S A s.heap H [] := by rw [hHe]; exact va_S.rf
  rw [← hHe] at hP ⊢
  have hl : lv_has ls 2 [(0, .ref a0), (1, .int (iI nl))] := hl
  have iJ4 : ∀ v ∈ wsJ40, v ∈ wsJ5_setLength_d00df := by decide +kernel
  have f_73 := hts (.fieldLink RJ5 73 "java/lang/AbstractStringBuilder" "maybeLatin1" "Z") (by decide +kernel)
  have f_79 := hts (.fieldLink RJ5 79 "java/lang/AbstractStringBuilder" "count" "I") (by decide +kernel)
  refine lv_iload_n hx hb dJ5_setLength_d00df_0 rfl (lv_at hl 1 rfl) ?_
  refine zz_if_ge (tgt := 13) hx hb dJ5_setLength_d00df_1 (by decide) (by omega) (fun c_1 => ?_) (fun c_1 => ?_)
  · refine lv_aload_n hx hb dJ5_setLength_d00df_13 rfl (lv_at hl 0 rfl) ?_
    refine lv_iload_n hx hb dJ5_setLength_d00df_14 rfl (lv_at hl 1 rfl) ?_
    refine zc_callUv (As := [.int (iI nl)]) (rest := []) (wf := fun u => bLine tA a0 a1 lnb lml lct) ⟨hx, hb, hml, hown, hts⟩ (c_J5_ensureCapacityInternal_d00df l K D tA a0 a1 H.size lnb lml lct nl (by first | assumption | omega) (by first | assumption | omega)) (va_cwU 1 hts gJ5_setLength_d00df_J5_ensureCapacityInternal_d00df_u100J4 rfl rfl rfl rfl ⟨by decide, by decide, by decide +kernel⟩ ⟨Nat.le_of_ble_eq_true rfl, Nat.le_of_ble_eq_true rfl⟩) hK hP hD hS hA hCn [0, 1] [] [0, 1] rfl rfl (by decide) (by decide) (by decide) (by decide) (fun _ => rfl) (ci := 1) (q0 := 0) rfl rfl rfl rfl rfl hl.1 (Nat.le_of_ble_eq_true rfl) dJ5_setLength_d00df_15 ⟨Nat.le_of_ble_eq_true rfl, Nat.le_of_ble_eq_true rfl⟩ ?_
    intro u H locs p15_1 hP hD hS
    have hP : va_P D vwCl (bLine tA a0 a1 lnb lml lct) H := hP
    have hD : va_D A (bLine tA a0 a1 lnb lml lct) := hD
    refine lv_aload_n hx hb dJ5_setLength_d00df_18 rfl (lv_at hl 0 rfl) ?_
    refine va_get (D := D) (ci := 1) (v := .int (iI lct)) (C := RJ4) (T := TJ4) (N := 4) hx hb hts iJ4 hown hK hP 0 rfl rfl 3 (by decide) f_79 (fun _ h9 => h9) rfl dJ5_setLength_d00df_19 ?_
    refine lv_iload_n hx hb dJ5_setLength_d00df_22 rfl (lv_at hl 1 rfl) ?_
    refine zz_icmp_ge (tgt := 63) hx hb dJ5_setLength_d00df_23 (by decide) (by omega) (by omega) (fun c_23 => ?_) (fun c_23 => ?_)
    · refine lv_aload_n hx hb dJ5_setLength_d00df_63 rfl (lv_at hl 0 rfl) ?_
      refine va_get (D := D) (ci := 1) (v := .int (iI lct)) (C := RJ4) (T := TJ4) (N := 4) hx hb hts iJ4 hown hK hP 0 rfl rfl 3 (by decide) f_79 (fun _ h9 => h9) rfl dJ5_setLength_d00df_64 ?_
      refine lv_iload_n hx hb dJ5_setLength_d00df_67 rfl (lv_at hl 1 rfl) ?_
      refine zz_icmp_le (tgt := 76) hx hb dJ5_setLength_d00df_68 (by decide) (by omega) (by omega) (fun c_68 => ?_) (fun c_68 => ?_)
      · refine lv_aload_n hx hb dJ5_setLength_d00df_76 rfl (lv_at hl 0 rfl) ?_
        refine lv_iload_n hx hb dJ5_setLength_d00df_77 rfl (lv_at hl 1 rfl) ?_
        refine va_put (D := D) (ci := 1) (v := .int (iI nl)) (ty := .int) (C := RJ4) (T := TJ4) (N := 4) hx hb hts iJ4 tyJ4 tyJ4_ok nmJ4 hown hK hP hD hS 0 rfl rfl 3 (by decide) f_79 (fun _ h9 => h9) rfl (by decide +kernel) rfl rfl (Nat.le_of_ble_eq_true rfl) dJ5_setLength_d00df_78 (fun H locs hP hD hS => ?_)
        have hP : va_P D vwCl (bLine tA a0 a1 lnb lml nl) H := hP
        have hD : va_D A (bLine tA a0 a1 lnb lml nl) := hD
        exact hret lml _ _ _ _ dJ5_setLength_d00df_81 True.intro hP hD hS
      · refine lv_aload_n hx hb dJ5_setLength_d00df_71 rfl (lv_at hl 0 rfl) ?_
        refine zz_iconst hx hb dJ5_setLength_d00df_72 ?_
        refine va_put (D := D) (ci := 1) (v := .int (iI 1)) (ty := .boolean) (C := RJ4) (T := TJ4) (N := 4) hx hb hts iJ4 tyJ4 tyJ4_ok nmJ4 hown hK hP hD hS 0 rfl rfl 2 (by decide) f_73 (fun _ h9 => h9) rfl (by decide +kernel) (zbool _ (by omega)) (zfitZ _ (by omega)) (Nat.le_of_ble_eq_true rfl) dJ5_setLength_d00df_73 (fun H locs hP hD hS => ?_)
        have hP : va_P D vwCl (bLine tA a0 a1 lnb 1 lct) H := hP
        have hD : va_D A (bLine tA a0 a1 lnb 1 lct) := hD
        refine lv_aload_n hx hb dJ5_setLength_d00df_76 rfl (lv_at hl 0 rfl) ?_
        refine lv_iload_n hx hb dJ5_setLength_d00df_77 rfl (lv_at hl 1 rfl) ?_
        refine va_put (D := D) (ci := 1) (v := .int (iI nl)) (ty := .int) (C := RJ4) (T := TJ4) (N := 4) hx hb hts iJ4 tyJ4 tyJ4_ok nmJ4 hown hK hP hD hS 0 rfl rfl 3 (by decide) f_79 (fun _ h9 => h9) rfl (by decide +kernel) rfl rfl (Nat.le_of_ble_eq_true rfl) dJ5_setLength_d00df_78 (fun H locs hP hD hS => ?_)
        have hP : va_P D vwCl (bLine tA a0 a1 lnb 1 nl) H := hP
        have hD : va_D A (bLine tA a0 a1 lnb 1 nl) := hD
        exact hret 1 _ _ _ _ dJ5_setLength_d00df_81 True.intro hP hD hS
    · exact absurd c_23 (by omega)
  · exact absurd c_1 (by omega)

set_option maxHeartbeats 4000000 in
set_option maxRecDepth 100000 in
theorem c_J4_setLength_d00df (l : Launch) (K : Nat → Nat) (D : va_G) (tA : Nat → ClassId) (a0 a1 : Nat) (sz : Nat) (lnb : Int → Int) (lml : Int) (lct : Int) (nl : Int) (r_nl : -2147483648 ≤ nl ∧ nl ≤ 2147483647) (hlc : 0 ≤ lct ∧ lct ≤ 16) (hnl : nl = 0) : zCv l yJ4_setLength_d00df wsJ4_setLength_d00df ({ frames := 2, cells := 0, slots := 0, locals := 43 }) K D tA [.ref a0, .int (iI nl)] (bLine tA a0 a1 lnb lml lct) sz (fun (u : (Int)) => True) (fun (u : (Int)) => bLine tA a0 a1 lnb u nl) 0 0 := by
  refine zCv_of (cc := cJ4_setLength_d00df) (maxL := 2) (by decide) rfl (Nat.le_of_ble_eq_true rfl) ?_
  intro p e s m args below meth c A Q ls hx hb hml hts hown hK hP hD hA hCn hret hl
  obtain ⟨H, hHe⟩ : ∃ H : Heap, H = s.heap := ⟨_, rfl⟩
  have hS : va_S A s.heap H [] := by rw [hHe]; exact va_S.rf
  rw [← hHe] at hP ⊢
  have hl : lv_has ls 2 [(0, .ref a0), (1, .int (iI nl))] := hl
  refine lv_aload_n hx hb dJ4_setLength_d00df_0 rfl (lv_at hl 0 rfl) ?_
  refine lv_iload_n hx hb dJ4_setLength_d00df_1 rfl (lv_at hl 1 rfl) ?_
  refine zc_callSUv (As := [.int (iI nl)]) (rest := []) (wf := fun u => bLine tA a0 a1 lnb u nl) ⟨hx, hb, hml, hown, hts⟩ (c_J5_setLength_d00df l K D tA a0 a1 H.size lnb lml lct nl (by first | assumption | omega) (by first | assumption | omega) (by first | assumption | omega)) (va_cwSU 1 hts gJ4_setLength_d00df_J5_setLength_d00df_s333 rfl rfl rfl ⟨by decide, by decide +kernel⟩ ⟨Nat.le_of_ble_eq_true rfl, Nat.le_of_ble_eq_true rfl⟩) hK hP hD hS hA hCn [0, 1] [] [0, 1] rfl rfl (by decide) (by decide) (by decide) (by decide) (fun _ => rfl) (hK.1 1 (RJ4, TJ4, 4) rfl).2 (ci := 1) (q0 := 0) rfl rfl rfl rfl rfl hl.1 (Nat.le_of_ble_eq_true rfl) dJ4_setLength_d00df_2 ⟨Nat.le_of_ble_eq_true rfl, Nat.le_of_ble_eq_true rfl⟩ ?_
  intro u H locs p2_2 hP hD hS
  obtain ⟨lml_1, rfl⟩ : ∃ q, q = u := ⟨_, rfl⟩
  have hP : va_P D vwCl (bLine tA a0 a1 lnb lml_1 nl) H := hP
  have hD : va_D A (bLine tA a0 a1 lnb lml_1 nl) := hD
  exact hret lml_1 _ _ _ _ dJ4_setLength_d00df_5 True.intro hP hD hS

