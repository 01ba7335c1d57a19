/-! ===== p57: the law's wrappers of commands, with what they answer at most ===== -/
set_option maxHeartbeats 4000000 in
set_option maxRecDepth 20000 in
theorem q_L_addLegb {l : Launch} (hst : l.stackTraces = false) {K : Nat → Nat} {D : va_G} {tA : Nat → ClassId} {ad : Nat → Nat} {sz : Nat} {B N : Int} {g : GL} (hB : (0 ≤ B ∧ B ≤ 100000000) ∧ (0 ≤ N ∧ N ≤ 100000)) (hok : OKG B N g) (frm : Int) (too : Int) (w : Int) (r : Int) (r_frm : -2147483648 ≤ frm ∧ frm ≤ 2147483647) (r_too : -2147483648 ≤ too ∧ too ≤ 2147483647) (r_w : -2147483648 ≤ w ∧ w ≤ 2147483647) (r_r : -2147483648 ≤ r ∧ r ≤ 2147483647)  : zHi l yL_addLeg (wsL_addLeg ++ xL) ({ frames := 8, cells := 1, slots := 6, locals := 134 }) K D tA [.ref (ad 0), .int (iI frm), .int (iI too), .int (iI w), .int (iI r)] (zW tA K ad g) sz (fun (z : Int) (g' : GL) => wOp B N g g' z ∧ GL_v g' 0 0 = GL_v g 0 0 ∧ (-20 ≤ z ∧ z ≤ 2000000000) ∧ (z = -1 → ¬ inP (GL_v g 0 0) frm too)) (fun g' => zW tA K ad g') 1 6 := by
  refine zHi_of (cc := cL_addLeg) (maxL := 6) (hh := [(0, 9, 10, 20), (0, 9, 14, 22), (0, 9, 19, 14)]) (by decide) rfl (fun z u h => rfl) (Nat.le_of_ble_eq_true rfl) ?_
  intro p e s m args below meth c A Q ls hx hb hml hts hown hK hP hD hA hZ htb hret hl
  obtain ⟨H, hHe⟩ : ∃ H : Heap, H = s.heap := ⟨_, rfl⟩
  have hS : va_S A s.heap H [] := by rw [hHe]; exact va_S.rf
  rw [← hHe] at hP ⊢
  have hl : lv_has ls 6 [(0, .ref (ad 0)), (1, .int (iI frm)), (2, .int (iI too)), (3, .int (iI w)), (4, .int (iI r))] := hl
  refine lv_aload_n hx hb dL_addLeg_0 rfl (lv_at hl 0 rfl) ?_
  refine lv_iload_n hx hb dL_addLeg_1 rfl (lv_at hl 1 rfl) ?_
  refine lv_iload_n hx hb dL_addLeg_2 rfl (lv_at hl 2 rfl) ?_
  refine lv_iload_n hx hb dL_addLeg_3 rfl (lv_at hl 3 rfl) ?_
  refine lv_iload hx hb dL_addLeg_4 (lv_at hl 4 rfl) ?_
  refine zx_callVi_ch (As := [.int (iI frm), .int (iI too), .int (iI w), .int (iI r)]) (rest := []) (L := [zW tA K ad g]) (Lc := [zW tA K ad g]) (Lr := []) (Lc' := fun (u : GL) => [zW tA K ad u]) (Lf := fun (u : GL) => [zW tA K ad u]) (Lx := fun (u : Int × GL) => [zW tA K ad u.2]) (Lfx := fun (u : Int × GL) => [zW tA K ad u.2]) (is := [0]) (isF := [0]) (isX := [0]) ⟨hx, hb, hml, hown, hts⟩ (q_X10_addLegb hst hB hok frm too w r r_frm r_too r_w r_r ) (cwV 4 hts (goodIn_wid gL_addLeg_X10_addLeg) rfl rfl rfl (by decide +kernel) ⟨Nat.le_of_ble_eq_true rfl, Nat.le_of_ble_eq_true rfl⟩) hK (zP_i hP) (zD_i hD) hS hA hZ (zCut_1 _) (zBack_1 _) (zBack_1 _) (ci := 12) (q0 := 0) rfl rfl (zW_0 tA K ad g) rfl rfl hl.1 (Nat.le_of_ble_eq_true rfl) dL_addLeg_6 ⟨Nat.le_of_ble_eq_true rfl, Nat.le_of_ble_eq_true rfl⟩ ?_ ?_
  · intro E ce q9 u H locs hpx hP hD hS hce hcv hcl
    obtain ⟨hex, hrd, hth⟩ := hpx
    rcases hex with ⟨hk, hE⟩ | ⟨hk, hE⟩ | ⟨hk, hE⟩ | ⟨hk, hE⟩ | ⟨hk, hE⟩ | ⟨hk, hE⟩
    · refine zz_catch hZ hown [] ⟨0, 9, 10, 20⟩ [⟨0, 9, 14, 22⟩, ⟨0, 9, 19, 14⟩] htb rfl hE (by decide) (fun z hz => absurd hz List.not_mem_nil) (by decide) (by decide) (hts (.classLink RL 20 "java/lang/IndexOutOfBoundsException") (List.mem_append_right _ (by decide +kernel))) hce hcv hcl ?_
      refine W.eq (g2 := F0 m 10 ls [.ref q9]) rfl ?_
      refine lv_astore (lv' := [(5, .ref q9), (0, .ref (ad 0)), (1, .int (iI frm)), (2, .int (iI too)), (3, .int (iI w)), (4, .int (iI r))]) hx hb dL_addLeg_10 hl (by decide) rfl (fun ls hl => ?_)
      refine zz_iconst hx hb dL_addLeg_12 ?_
      have hfin : (fun (z : Int) (g' : GL) => wOp B N g g' z ∧ GL_v g' 0 0 = GL_v g 0 0 ∧ (-20 ≤ z ∧ z ≤ 2000000000) ∧ (z = -1 → ¬ inP (GL_v g 0 0) frm too)) (-1) u.2 := by
        exact ⟨Or.inl ⟨by decide, hrd⟩, congrFun (congrFun hrd.2.1 0) 0, by decide, fun _ => faultL (hk ▸ hth.2)⟩
      exact hret (-1) u.2 H locs _ _ _ _ (Nat.le_of_ble_eq_true rfl) (Nat.le_of_ble_eq_true rfl) dL_addLeg_13 hfin (zP_o hP) (zD_o hD) hS
    · refine zz_catch hZ hown [⟨0, 9, 10, 20⟩] ⟨0, 9, 14, 22⟩ [⟨0, 9, 19, 14⟩] htb rfl hE (by decide) (List.forall_mem_cons.mpr ⟨⟨by decide, "java/lang/IndexOutOfBoundsException", by decide, by decide, hts (.classLink RL 20 "java/lang/IndexOutOfBoundsException") (List.mem_append_right _ (by decide +kernel))⟩, fun z hz => absurd hz List.not_mem_nil⟩) (by decide) (by decide) (hts (.classLink RL 22 "java/lang/IllegalArgumentException") (List.mem_append_right _ (by decide +kernel))) hce hcv hcl ?_
      refine W.eq (g2 := F0 m 14 ls [.ref q9]) rfl ?_
      refine lv_astore (lv' := [(5, .ref q9), (0, .ref (ad 0)), (1, .int (iI frm)), (2, .int (iI too)), (3, .int (iI w)), (4, .int (iI r))]) hx hb dL_addLeg_14 hl (by decide) rfl (fun ls hl => ?_)
      refine zz_bipush hx hb dL_addLeg_16 rfl ?_
      have hfin : (fun (z : Int) (g' : GL) => wOp B N g g' z ∧ GL_v g' 0 0 = GL_v g 0 0 ∧ (-20 ≤ z ∧ z ≤ 2000000000) ∧ (z = -1 → ¬ inP (GL_v g 0 0) frm too)) (-2) u.2 := by
        exact ⟨Or.inl ⟨by decide, hrd⟩, congrFun (congrFun hrd.2.1 0) 0, by decide, fun h => absurd h (by decide)⟩
      exact hret (-2) u.2 H locs _ _ _ _ (Nat.le_of_ble_eq_true rfl) (Nat.le_of_ble_eq_true rfl) dL_addLeg_18 hfin (zP_o hP) (zD_o hD) hS
    · refine zz_catch hZ hown [⟨0, 9, 10, 20⟩, ⟨0, 9, 14, 22⟩] ⟨0, 9, 19, 14⟩ [] htb rfl hE (by decide) (List.forall_mem_cons.mpr ⟨⟨by decide, "java/lang/IndexOutOfBoundsException", by decide, by decide, hts (.classLink RL 20 "java/lang/IndexOutOfBoundsException") (List.mem_append_right _ (by decide +kernel))⟩, List.forall_mem_cons.mpr ⟨⟨by decide, "java/lang/IllegalArgumentException", by decide, by decide, hts (.classLink RL 22 "java/lang/IllegalArgumentException") (List.mem_append_right _ (by decide +kernel))⟩, fun z hz => absurd hz List.not_mem_nil⟩⟩) (by decide) (by decide) (hts (.classLink RL 14 "java/lang/IllegalStateException") (List.mem_append_right _ (by decide +kernel))) hce hcv hcl ?_
      refine W.eq (g2 := F0 m 19 ls [.ref q9]) rfl ?_
      refine lv_astore (lv' := [(5, .ref q9), (0, .ref (ad 0)), (1, .int (iI frm)), (2, .int (iI too)), (3, .int (iI w)), (4, .int (iI r))]) hx hb dL_addLeg_19 hl (by decide) rfl (fun ls hl => ?_)
      refine zz_bipush hx hb dL_addLeg_21 rfl ?_
      have hfin : (fun (z : Int) (g' : GL) => wOp B N g g' z ∧ GL_v g' 0 0 = GL_v g 0 0 ∧ (-20 ≤ z ∧ z ≤ 2000000000) ∧ (z = -1 → ¬ inP (GL_v g 0 0) frm too)) (-3) u.2 := by
        exact ⟨Or.inl ⟨by decide, hrd⟩, congrFun (congrFun hrd.2.1 0) 0, by decide, fun h => absurd h (by decide)⟩
      exact hret (-3) u.2 H locs _ _ _ _ (Nat.le_of_ble_eq_true rfl) (Nat.le_of_ble_eq_true rfl) dL_addLeg_23 hfin (zP_o hP) (zD_o hD) hS
    · exfalso
      first | omega | (have h8 := hth.1; omega) | (rcases hth with h9 | h9 <;> (have h8 := h9.1; omega)) | (rcases hth with h9 | h9 | h9 <;> (have h8 := h9.1; omega))  | (have h9 := legF_v hth.2; omega)
    · exfalso
      first | omega | (have h8 := hth.1; omega) | (rcases hth with h9 | h9 <;> (have h8 := h9.1; omega)) | (rcases hth with h9 | h9 | h9 <;> (have h8 := h9.1; omega))  | (have h9 := legF_v hth.2; omega)
    · exfalso
      first | omega | (have h8 := hth.1; omega) | (rcases hth with h9 | h9 <;> (have h8 := h9.1; omega)) | (rcases hth with h9 | h9 | h9 <;> (have h8 := h9.1; omega))  | (have h9 := legF_v hth.2; omega)
  · intro z g2 H locs hp hP hD hS
    have hfin : (fun (z : Int) (g' : GL) => wOp B N g g' z ∧ GL_v g' 0 0 = GL_v g 0 0 ∧ (-20 ≤ z ∧ z ≤ 2000000000) ∧ (z = -1 → ¬ inP (GL_v g 0 0) frm too)) z g2 := by
      exact ⟨Or.inr ⟨hp.2.2.1, hp.1⟩, hp.2.1, ⟨by have := hp.2.2.1; omega, hp.2.2.2⟩, fun h => absurd hp.2.2.1 (by omega)⟩
    exact hret z g2 H locs _ _ _ _ (Nat.le_of_ble_eq_true rfl) (Nat.le_of_ble_eq_true rfl) dL_addLeg_9 hfin (zP_o hP) (zD_o hD) hS
set_option maxHeartbeats 4000000 in
set_option maxRecDepth 20000 in
theorem q_L_removeLegb {l : Launch} (hst : l.stackTraces = false) {K : Nat → Nat} {D : va_G} {tA : Nat → ClassId} {ad : Nat → Nat} {sz : Nat} {B N : Int} {g : GL} (hB : (0 ≤ B ∧ B ≤ 100000000) ∧ (0 ≤ N ∧ N ≤ 100000)) (hok : OKG B N g) (frm : Int) (too : Int) (r_frm : -2147483648 ≤ frm ∧ frm ≤ 2147483647) (r_too : -2147483648 ≤ too ∧ too ≤ 2147483647)  : zHi l yL_removeLeg (wsL_removeLeg ++ xL) ({ frames := 8, cells := 1, slots := 6, locals := 132 }) K D tA [.ref (ad 0), .int (iI frm), .int (iI too)] (zW tA K ad g) sz (fun (z : Int) (g' : GL) => wOp B N g g' z ∧ GL_v g' 0 0 = GL_v g 0 0 ∧ (-20 ≤ z ∧ z ≤ 2000000000) ∧ (z = -1 → ¬ inP (GL_v g 0 0) frm too)) (fun g' => zW tA K ad g') 1 6 := by
  refine zHi_of (cc := cL_removeLeg) (maxL := 4) (hh := [(0, 6, 7, 20), (0, 6, 10, 28)]) (by decide) rfl (fun z u h => rfl) (Nat.le_of_ble_eq_true rfl) ?_
  intro p e s m args below meth c A Q ls hx hb hml hts hown hK hP hD hA hZ htb hret hl
  obtain ⟨H, hHe⟩ : ∃ H : Heap, H = s.heap := ⟨_, rfl⟩
  have hS : va_S A s.heap H [] := by rw [hHe]; exact va_S.rf
  rw [← hHe] at hP ⊢
  have hl : lv_has ls 4 [(0, .ref (ad 0)), (1, .int (iI frm)), (2, .int (iI too))] := hl
  refine lv_aload_n hx hb dL_removeLeg_0 rfl (lv_at hl 0 rfl) ?_
  refine lv_iload_n hx hb dL_removeLeg_1 rfl (lv_at hl 1 rfl) ?_
  refine lv_iload_n hx hb dL_removeLeg_2 rfl (lv_at hl 2 rfl) ?_
  refine zx_callVi_ch (As := [.int (iI frm), .int (iI too)]) (rest := []) (L := [zW tA K ad g]) (Lc := [zW tA K ad g]) (Lr := []) (Lc' := fun (u : GL) => [zW tA K ad u]) (Lf := fun (u : GL) => [zW tA K ad u]) (Lx := fun (u : Int × GL) => [zW tA K ad u.2]) (Lfx := fun (u : Int × GL) => [zW tA K ad u.2]) (is := [0]) (isF := [0]) (isX := [0]) ⟨hx, hb, hml, hown, hts⟩ (q_X10_removeLegb hst hB hok frm too r_frm r_too ) (cwV 2 hts (goodIn_wid gL_removeLeg_X10_removeLeg) rfl rfl rfl (by decide +kernel) ⟨Nat.le_of_ble_eq_true rfl, Nat.le_of_ble_eq_true rfl⟩) hK (zP_i hP) (zD_i hD) hS hA hZ (zCut_1 _) (zBack_1 _) (zBack_1 _) (ci := 12) (q0 := 0) rfl rfl (zW_0 tA K ad g) rfl rfl hl.1 (Nat.le_of_ble_eq_true rfl) dL_removeLeg_3 ⟨Nat.le_of_ble_eq_true rfl, Nat.le_of_ble_eq_true rfl⟩ ?_ ?_
  · intro E ce q9 u H locs hpx hP hD hS hce hcv hcl
    obtain ⟨hex, hrd, hth⟩ := hpx
    rcases hex with ⟨hk, hE⟩ | ⟨hk, hE⟩ | ⟨hk, hE⟩ | ⟨hk, hE⟩ | ⟨hk, hE⟩ | ⟨hk, hE⟩
    · refine zz_catch hZ hown [] ⟨0, 6, 7, 20⟩ [⟨0, 6, 10, 28⟩] htb rfl hE (by decide) (fun z hz => absurd hz List.not_mem_nil) (by decide) (by decide) (hts (.classLink RL 20 "java/lang/IndexOutOfBoundsException") (List.mem_append_right _ (by decide +kernel))) hce hcv hcl ?_
      refine W.eq (g2 := F0 m 7 ls [.ref q9]) rfl ?_
      refine lv_astore_n (lv' := [(3, .ref q9), (0, .ref (ad 0)), (1, .int (iI frm)), (2, .int (iI too))]) hx hb dL_removeLeg_7 rfl hl (by decide) rfl (fun ls hl => ?_)
      refine zz_iconst hx hb dL_removeLeg_8 ?_
      have hfin : (fun (z : Int) (g' : GL) => wOp B N g g' z ∧ GL_v g' 0 0 = GL_v g 0 0 ∧ (-20 ≤ z ∧ z ≤ 2000000000) ∧ (z = -1 → ¬ inP (GL_v g 0 0) frm too)) (-1) u.2 := by
        exact ⟨Or.inl ⟨by decide, hrd⟩, congrFun (congrFun hrd.2.1 0) 0, by decide, fun _ => faultC (hk ▸ hth.2)⟩
      exact hret (-1) u.2 H locs _ _ _ _ (Nat.le_of_ble_eq_true rfl) (Nat.le_of_ble_eq_true rfl) dL_removeLeg_9 hfin (zP_o hP) (zD_o hD) hS
    · exfalso
      first | omega | (have h8 := hth.1; omega) | (rcases hth with h9 | h9 <;> (have h8 := h9.1; omega)) | (rcases hth with h9 | h9 | h9 <;> (have h8 := h9.1; omega))  | (have h9 := cutF_v hth.2; omega)
    · exfalso
      first | omega | (have h8 := hth.1; omega) | (rcases hth with h9 | h9 <;> (have h8 := h9.1; omega)) | (rcases hth with h9 | h9 | h9 <;> (have h8 := h9.1; omega))  | (have h9 := cutF_v hth.2; omega)
    · refine zz_catch hZ hown [⟨0, 6, 7, 20⟩] ⟨0, 6, 10, 28⟩ [] htb rfl hE (by decide) (List.forall_mem_cons.mpr ⟨⟨by decide, "java/lang/IndexOutOfBoundsException", by decide, by decide, hts (.classLink RL 20 "java/lang/IndexOutOfBoundsException") (List.mem_append_right _ (by decide +kernel))⟩, fun z hz => absurd hz List.not_mem_nil⟩) (by decide) (by decide) (hts (.classLink RL 28 "java/util/NoSuchElementException") (List.mem_append_right _ (by decide +kernel))) hce hcv hcl ?_
      refine W.eq (g2 := F0 m 10 ls [.ref q9]) rfl ?_
      refine lv_astore_n (lv' := [(3, .ref q9), (0, .ref (ad 0)), (1, .int (iI frm)), (2, .int (iI too))]) hx hb dL_removeLeg_10 rfl hl (by decide) rfl (fun ls hl => ?_)
      refine zz_bipush hx hb dL_removeLeg_11 rfl ?_
      have hfin : (fun (z : Int) (g' : GL) => wOp B N g g' z ∧ GL_v g' 0 0 = GL_v g 0 0 ∧ (-20 ≤ z ∧ z ≤ 2000000000) ∧ (z = -1 → ¬ inP (GL_v g 0 0) frm too)) (-2) u.2 := by
        exact ⟨Or.inl ⟨by decide, hrd⟩, congrFun (congrFun hrd.2.1 0) 0, by decide, fun h => absurd h (by decide)⟩
      exact hret (-2) u.2 H locs _ _ _ _ (Nat.le_of_ble_eq_true rfl) (Nat.le_of_ble_eq_true rfl) dL_removeLeg_13 hfin (zP_o hP) (zD_o hD) hS
    · exfalso
      first | omega | (have h8 := hth.1; omega) | (rcases hth with h9 | h9 <;> (have h8 := h9.1; omega)) | (rcases hth with h9 | h9 | h9 <;> (have h8 := h9.1; omega))  | (have h9 := cutF_v hth.2; omega)
    · exfalso
      first | omega | (have h8 := hth.1; omega) | (rcases hth with h9 | h9 <;> (have h8 := h9.1; omega)) | (rcases hth with h9 | h9 | h9 <;> (have h8 := h9.1; omega))  | (have h9 := cutF_v hth.2; omega)
  · intro z g2 H locs hp hP hD hS
    have hfin : (fun (z : Int) (g' : GL) => wOp B N g g' z ∧ GL_v g' 0 0 = GL_v g 0 0 ∧ (-20 ≤ z ∧ z ≤ 2000000000) ∧ (z = -1 → ¬ inP (GL_v g 0 0) frm too)) z g2 := by
      exact ⟨Or.inr ⟨hp.2.2.1, hp.1⟩, hp.2.1, ⟨by have := hp.2.2.1; omega, hp.2.2.2⟩, fun h => absurd hp.2.2.1 (by omega)⟩
    exact hret z g2 H locs _ _ _ _ (Nat.le_of_ble_eq_true rfl) (Nat.le_of_ble_eq_true rfl) dL_removeLeg_6 hfin (zP_o hP) (zD_o hD) hS
set_option maxHeartbeats 4000000 in
set_option maxRecDepth 20000 in
theorem q_L_subscribeb {l : Launch} (hst : l.stackTraces = false) {K : Nat → Nat} {D : va_G} {tA : Nat → ClassId} {ad : Nat → Nat} {sz : Nat} {B N : Int} {g : GL} (hB : (0 ≤ B ∧ B ≤ 100000000) ∧ (0 ≤ N ∧ N ≤ 100000)) (hok : OKG B N g) (frm : Int) (too : Int) (mny : Int) (r_frm : -2147483648 ≤ frm ∧ frm ≤ 2147483647) (r_too : -2147483648 ≤ too ∧ too ≤ 2147483647) (r_mny : -2147483648 ≤ mny ∧ mny ≤ 2147483647)  : zHi l yL_subscribe (wsL_subscribe ++ xL) ({ frames := 8, cells := 1, slots := 6, locals := 133 }) K D tA [.ref (ad 0), .int (iI frm), .int (iI too), .int (iI mny)] (zW tA K ad g) sz (fun (z : Int) (g' : GL) => wOp B N g g' z ∧ GL_v g' 0 0 = GL_v g 0 0 ∧ (-20 ≤ z ∧ z ≤ 2000000000) ∧ (z = -1 → ¬ inP (GL_v g 0 0) frm too)) (fun g' => zW tA K ad g') 1 6 := by
  refine zHi_of (cc := cL_subscribe) (maxL := 5) (hh := [(0, 7, 8, 20), (0, 7, 12, 22), (0, 7, 17, 14), (0, 7, 22, 72)]) (by decide) rfl (fun z u h => rfl) (Nat.le_of_ble_eq_true rfl) ?_
  intro p e s m args below meth c A Q ls hx hb hml hts hown hK hP hD hA hZ htb hret hl
  obtain ⟨H, hHe⟩ : ∃ H : Heap, H = s.heap := ⟨_, rfl⟩
  have hS : va_S A s.heap H [] := by rw [hHe]; exact va_S.rf
  rw [← hHe] at hP ⊢
  have hl : lv_has ls 5 [(0, .ref (ad 0)), (1, .int (iI frm)), (2, .int (iI too)), (3, .int (iI mny))] := hl
  refine lv_aload_n hx hb dL_subscribe_0 rfl (lv_at hl 0 rfl) ?_
  refine lv_iload_n hx hb dL_subscribe_1 rfl (lv_at hl 1 rfl) ?_
  refine lv_iload_n hx hb dL_subscribe_2 rfl (lv_at hl 2 rfl) ?_
  refine lv_iload_n hx hb dL_subscribe_3 rfl (lv_at hl 3 rfl) ?_
  refine zx_callVi_ch (As := [.int (iI frm), .int (iI too), .int (iI mny)]) (rest := []) (L := [zW tA K ad g]) (Lc := [zW tA K ad g]) (Lr := []) (Lc' := fun (u : GL) => [zW tA K ad u]) (Lf := fun (u : GL) => [zW tA K ad u]) (Lx := fun (u : Int × GL) => [zW tA K ad u.2]) (Lfx := fun (u : Int × GL) => [zW tA K ad u.2]) (is := [0]) (isF := [0]) (isX := [0]) ⟨hx, hb, hml, hown, hts⟩ (q_X10_subscribeb hst hB hok frm too mny r_frm r_too r_mny ) (cwV 3 hts (goodIn_wid gL_subscribe_X10_subscribe) rfl rfl rfl (by decide +kernel) ⟨Nat.le_of_ble_eq_true rfl, Nat.le_of_ble_eq_true rfl⟩) hK (zP_i hP) (zD_i hD) hS hA hZ (zCut_1 _) (zBack_1 _) (zBack_1 _) (ci := 12) (q0 := 0) rfl rfl (zW_0 tA K ad g) rfl rfl hl.1 (Nat.le_of_ble_eq_true rfl) dL_subscribe_4 ⟨Nat.le_of_ble_eq_true rfl, Nat.le_of_ble_eq_true rfl⟩ ?_ ?_
  · intro E ce q9 u H locs hpx hP hD hS hce hcv hcl
    obtain ⟨hex, hrd, hth⟩ := hpx
    rcases hex with ⟨hk, hE⟩ | ⟨hk, hE⟩ | ⟨hk, hE⟩ | ⟨hk, hE⟩ | ⟨hk, hE⟩ | ⟨hk, hE⟩
    · refine zz_catch hZ hown [] ⟨0, 7, 8, 20⟩ [⟨0, 7, 12, 22⟩, ⟨0, 7, 17, 14⟩, ⟨0, 7, 22, 72⟩] htb rfl hE (by decide) (fun z hz => absurd hz List.not_mem_nil) (by decide) (by decide) (hts (.classLink RL 20 "java/lang/IndexOutOfBoundsException") (List.mem_append_right _ (by decide +kernel))) hce hcv hcl ?_
      refine W.eq (g2 := F0 m 8 ls [.ref q9]) rfl ?_
      refine lv_astore (lv' := [(4, .ref q9), (0, .ref (ad 0)), (1, .int (iI frm)), (2, .int (iI too)), (3, .int (iI mny))]) hx hb dL_subscribe_8 hl (by decide) rfl (fun ls hl => ?_)
      refine zz_iconst hx hb dL_subscribe_10 ?_
      have hfin : (fun (z : Int) (g' : GL) => wOp B N g g' z ∧ GL_v g' 0 0 = GL_v g 0 0 ∧ (-20 ≤ z ∧ z ≤ 2000000000) ∧ (z = -1 → ¬ inP (GL_v g 0 0) frm too)) (-1) u.2 := by
        exact ⟨Or.inl ⟨by decide, hrd⟩, congrFun (congrFun hrd.2.1 0) 0, by decide, fun _ => faultS (hk ▸ hth.2)⟩
      exact hret (-1) u.2 H locs _ _ _ _ (Nat.le_of_ble_eq_true rfl) (Nat.le_of_ble_eq_true rfl) dL_subscribe_11 hfin (zP_o hP) (zD_o hD) hS
    · refine zz_catch hZ hown [⟨0, 7, 8, 20⟩] ⟨0, 7, 12, 22⟩ [⟨0, 7, 17, 14⟩, ⟨0, 7, 22, 72⟩] htb rfl hE (by decide) (List.forall_mem_cons.mpr ⟨⟨by decide, "java/lang/IndexOutOfBoundsException", by decide, by decide, hts (.classLink RL 20 "java/lang/IndexOutOfBoundsException") (List.mem_append_right _ (by decide +kernel))⟩, fun z hz => absurd hz List.not_mem_nil⟩) (by decide) (by decide) (hts (.classLink RL 22 "java/lang/IllegalArgumentException") (List.mem_append_right _ (by decide +kernel))) hce hcv hcl ?_
      refine W.eq (g2 := F0 m 12 ls [.ref q9]) rfl ?_
      refine lv_astore (lv' := [(4, .ref q9), (0, .ref (ad 0)), (1, .int (iI frm)), (2, .int (iI too)), (3, .int (iI mny))]) hx hb dL_subscribe_12 hl (by decide) rfl (fun ls hl => ?_)
      refine zz_bipush hx hb dL_subscribe_14 rfl ?_
      have hfin : (fun (z : Int) (g' : GL) => wOp B N g g' z ∧ GL_v g' 0 0 = GL_v g 0 0 ∧ (-20 ≤ z ∧ z ≤ 2000000000) ∧ (z = -1 → ¬ inP (GL_v g 0 0) frm too)) (-2) u.2 := by
        exact ⟨Or.inl ⟨by decide, hrd⟩, congrFun (congrFun hrd.2.1 0) 0, by decide, fun h => absurd h (by decide)⟩
      exact hret (-2) u.2 H locs _ _ _ _ (Nat.le_of_ble_eq_true rfl) (Nat.le_of_ble_eq_true rfl) dL_subscribe_16 hfin (zP_o hP) (zD_o hD) hS
    · refine zz_catch hZ hown [⟨0, 7, 8, 20⟩, ⟨0, 7, 12, 22⟩] ⟨0, 7, 17, 14⟩ [⟨0, 7, 22, 72⟩] htb rfl hE (by decide) (List.forall_mem_cons.mpr ⟨⟨by decide, "java/lang/IndexOutOfBoundsException", by decide, by decide, hts (.classLink RL 20 "java/lang/IndexOutOfBoundsException") (List.mem_append_right _ (by decide +kernel))⟩, List.forall_mem_cons.mpr ⟨⟨by decide, "java/lang/IllegalArgumentException", by decide, by decide, hts (.classLink RL 22 "java/lang/IllegalArgumentException") (List.mem_append_right _ (by decide +kernel))⟩, fun z hz => absurd hz List.not_mem_nil⟩⟩) (by decide) (by decide) (hts (.classLink RL 14 "java/lang/IllegalStateException") (List.mem_append_right _ (by decide +kernel))) hce hcv hcl ?_
      refine W.eq (g2 := F0 m 17 ls [.ref q9]) rfl ?_
      refine lv_astore (lv' := [(4, .ref q9), (0, .ref (ad 0)), (1, .int (iI frm)), (2, .int (iI too)), (3, .int (iI mny))]) hx hb dL_subscribe_17 hl (by decide) rfl (fun ls hl => ?_)
      refine zz_bipush hx hb dL_subscribe_19 rfl ?_
      have hfin : (fun (z : Int) (g' : GL) => wOp B N g g' z ∧ GL_v g' 0 0 = GL_v g 0 0 ∧ (-20 ≤ z ∧ z ≤ 2000000000) ∧ (z = -1 → ¬ inP (GL_v g 0 0) frm too)) (-3) u.2 := by
        exact ⟨Or.inl ⟨by decide, hrd⟩, congrFun (congrFun hrd.2.1 0) 0, by decide, fun h => absurd h (by decide)⟩
      exact hret (-3) u.2 H locs _ _ _ _ (Nat.le_of_ble_eq_true rfl) (Nat.le_of_ble_eq_true rfl) dL_subscribe_21 hfin (zP_o hP) (zD_o hD) hS
    · exfalso
      first | omega | (have h8 := hth.1; omega) | (rcases hth with h9 | h9 <;> (have h8 := h9.1; omega)) | (rcases hth with h9 | h9 | h9 <;> (have h8 := h9.1; omega))  | (have h9 := shipF_v hth.2; omega)
    · refine zz_catch hZ hown [⟨0, 7, 8, 20⟩, ⟨0, 7, 12, 22⟩, ⟨0, 7, 17, 14⟩] ⟨0, 7, 22, 72⟩ [] htb rfl hE (by decide) (List.forall_mem_cons.mpr ⟨⟨by decide, "java/lang/IndexOutOfBoundsException", by decide, by decide, hts (.classLink RL 20 "java/lang/IndexOutOfBoundsException") (List.mem_append_right _ (by decide +kernel))⟩, List.forall_mem_cons.mpr ⟨⟨by decide, "java/lang/IllegalArgumentException", by decide, by decide, hts (.classLink RL 22 "java/lang/IllegalArgumentException") (List.mem_append_right _ (by decide +kernel))⟩, List.forall_mem_cons.mpr ⟨⟨by decide, "java/lang/IllegalStateException", by decide, by decide, hts (.classLink RL 14 "java/lang/IllegalStateException") (List.mem_append_right _ (by decide +kernel))⟩, fun z hz => absurd hz List.not_mem_nil⟩⟩⟩) (by decide) (by decide) (hts (.classLink RL 72 "java/lang/UnsupportedOperationException") (List.mem_append_right _ (by decide +kernel))) hce hcv hcl ?_
      refine W.eq (g2 := F0 m 22 ls [.ref q9]) rfl ?_
      refine lv_astore (lv' := [(4, .ref q9), (0, .ref (ad 0)), (1, .int (iI frm)), (2, .int (iI too)), (3, .int (iI mny))]) hx hb dL_subscribe_22 hl (by decide) rfl (fun ls hl => ?_)
      refine zz_bipush hx hb dL_subscribe_24 rfl ?_
      have hfin : (fun (z : Int) (g' : GL) => wOp B N g g' z ∧ GL_v g' 0 0 = GL_v g 0 0 ∧ (-20 ≤ z ∧ z ≤ 2000000000) ∧ (z = -1 → ¬ inP (GL_v g 0 0) frm too)) (-4) u.2 := by
        exact ⟨Or.inl ⟨by decide, hrd⟩, congrFun (congrFun hrd.2.1 0) 0, by decide, fun h => absurd h (by decide)⟩
      exact hret (-4) u.2 H locs _ _ _ _ (Nat.le_of_ble_eq_true rfl) (Nat.le_of_ble_eq_true rfl) dL_subscribe_26 hfin (zP_o hP) (zD_o hD) hS
    · exfalso
      first | omega | (have h8 := hth.1; omega) | (rcases hth with h9 | h9 <;> (have h8 := h9.1; omega)) | (rcases hth with h9 | h9 | h9 <;> (have h8 := h9.1; omega))  | (have h9 := shipF_v hth.2; omega)
  · intro z g2 H locs hp hP hD hS
    have hfin : (fun (z : Int) (g' : GL) => wOp B N g g' z ∧ GL_v g' 0 0 = GL_v g 0 0 ∧ (-20 ≤ z ∧ z ≤ 2000000000) ∧ (z = -1 → ¬ inP (GL_v g 0 0) frm too)) z g2 := by
      exact ⟨Or.inr ⟨hp.2.2.1, hp.1⟩, hp.2.1, ⟨by have := hp.2.2.1; omega, hp.2.2.2⟩, fun h => absurd hp.2.2.1 (by omega)⟩
    exact hret z g2 H locs _ _ _ _ (Nat.le_of_ble_eq_true rfl) (Nat.le_of_ble_eq_true rfl) dL_subscribe_7 hfin (zP_o hP) (zD_o hD) hS
set_option maxHeartbeats 4000000 in
set_option maxRecDepth 20000 in
theorem q_L_leavesb {l : Launch} (hst : l.stackTraces = false) {K : Nat → Nat} {D : va_G} {tA : Nat → ClassId} {ad : Nat → Nat} {sz : Nat} {B N : Int} {g : GL} (hB : (0 ≤ B ∧ B ≤ 100000000) ∧ (0 ≤ N ∧ N ≤ 100000)) (hok : OKG B N g) (ship : Int) (r_ship : -2147483648 ≤ ship ∧ ship ≤ 2147483647)  : zHi l yL_leaves (wsL_leaves ++ xL) ({ frames := 8, cells := 1, slots := 6, locals := 131 }) K D tA [.ref (ad 0), .int (iI ship)] (zW tA K ad g) sz (fun (z : Int) (g' : GL) => wOp B N g g' z ∧ GL_v g' 0 0 = GL_v g 0 0 ∧ (-20 ≤ z ∧ z ≤ 2000000000) ∧ (z = -1 → ¬ (0 ≤ ship ∧ ship < GL_v g 7 0))) (fun g' => zW tA K ad g') 1 6 := by
  refine zHi_of (cc := cL_leaves) (maxL := 3) (hh := [(0, 5, 6, 20)]) (by decide) rfl (fun z u h => rfl) (Nat.le_of_ble_eq_true rfl) ?_
  intro p e s m args below meth c A Q ls hx hb hml hts hown hK hP hD hA hZ htb hret hl
  obtain ⟨H, hHe⟩ : ∃ H : Heap, H = s.heap := ⟨_, rfl⟩
  have hS : va_S A s.heap H [] := by rw [hHe]; exact va_S.rf
  rw [← hHe] at hP ⊢
  have hl : lv_has ls 3 [(0, .ref (ad 0)), (1, .int (iI ship))] := hl
  refine lv_aload_n hx hb dL_leaves_0 rfl (lv_at hl 0 rfl) ?_
  refine lv_iload_n hx hb dL_leaves_1 rfl (lv_at hl 1 rfl) ?_
  refine zx_callVi_ch (As := [.int (iI ship)]) (rest := []) (L := [zW tA K ad g]) (Lc := [zW tA K ad g]) (Lr := []) (Lc' := fun (u : GL) => [zW tA K ad u]) (Lf := fun (u : GL) => [zW tA K ad u]) (Lx := fun (u : Int × GL) => [zW tA K ad u.2]) (Lfx := fun (u : Int × GL) => [zW tA K ad u.2]) (is := [0]) (isF := [0]) (isX := [0]) ⟨hx, hb, hml, hown, hts⟩ (q_X10_leaveb hst hB hok ship r_ship ) (cwV 1 hts (goodIn_wid gL_leaves_X10_leave) rfl rfl rfl (by decide +kernel) ⟨Nat.le_of_ble_eq_true rfl, Nat.le_of_ble_eq_true rfl⟩) hK (zP_i hP) (zD_i hD) hS hA hZ (zCut_1 _) (zBack_1 _) (zBack_1 _) (ci := 12) (q0 := 0) rfl rfl (zW_0 tA K ad g) rfl rfl hl.1 (Nat.le_of_ble_eq_true rfl) dL_leaves_2 ⟨Nat.le_of_ble_eq_true rfl, Nat.le_of_ble_eq_true rfl⟩ ?_ ?_
  · intro E ce q9 u H locs hpx hP hD hS hce hcv hcl
    obtain ⟨hex, hrd, hth⟩ := hpx
    rcases hex with ⟨hk, hE⟩ | ⟨hk, hE⟩ | ⟨hk, hE⟩ | ⟨hk, hE⟩ | ⟨hk, hE⟩ | ⟨hk, hE⟩
    · refine zz_catch hZ hown [] ⟨0, 5, 6, 20⟩ [] htb rfl hE (by decide) (fun z hz => absurd hz List.not_mem_nil) (by decide) (by decide) (hts (.classLink RL 20 "java/lang/IndexOutOfBoundsException") (List.mem_append_right _ (by decide +kernel))) hce hcv hcl ?_
      refine W.eq (g2 := F0 m 6 ls [.ref q9]) rfl ?_
      refine lv_astore_n (lv' := [(2, .ref q9), (0, .ref (ad 0)), (1, .int (iI ship))]) hx hb dL_leaves_6 rfl hl (by decide) rfl (fun ls hl => ?_)
      refine zz_iconst hx hb dL_leaves_7 ?_
      have hfin : (fun (z : Int) (g' : GL) => wOp B N g g' z ∧ GL_v g' 0 0 = GL_v g 0 0 ∧ (-20 ≤ z ∧ z ≤ 2000000000) ∧ (z = -1 → ¬ (0 ≤ ship ∧ ship < GL_v g 7 0))) (-1) u.2 := by
        exact ⟨Or.inl ⟨by decide, hrd⟩, congrFun (congrFun hrd.2.1 0) 0, by decide, fun _ => hth.2⟩
      exact hret (-1) u.2 H locs _ _ _ _ (Nat.le_of_ble_eq_true rfl) (Nat.le_of_ble_eq_true rfl) dL_leaves_8 hfin (zP_o hP) (zD_o hD) hS
    · exfalso
      first | omega | (have h8 := hth.1; omega) | (rcases hth with h9 | h9 <;> (have h8 := h9.1; omega)) | (rcases hth with h9 | h9 | h9 <;> (have h8 := h9.1; omega)) 
    · exfalso
      first | omega | (have h8 := hth.1; omega) | (rcases hth with h9 | h9 <;> (have h8 := h9.1; omega)) | (rcases hth with h9 | h9 | h9 <;> (have h8 := h9.1; omega)) 
    · exfalso
      first | omega | (have h8 := hth.1; omega) | (rcases hth with h9 | h9 <;> (have h8 := h9.1; omega)) | (rcases hth with h9 | h9 | h9 <;> (have h8 := h9.1; omega)) 
    · exfalso
      first | omega | (have h8 := hth.1; omega) | (rcases hth with h9 | h9 <;> (have h8 := h9.1; omega)) | (rcases hth with h9 | h9 | h9 <;> (have h8 := h9.1; omega)) 
    · exfalso
      first | omega | (have h8 := hth.1; omega) | (rcases hth with h9 | h9 <;> (have h8 := h9.1; omega)) | (rcases hth with h9 | h9 | h9 <;> (have h8 := h9.1; omega)) 
  · intro z g2 H locs hp hP hD hS
    have hfin : (fun (z : Int) (g' : GL) => wOp B N g g' z ∧ GL_v g' 0 0 = GL_v g 0 0 ∧ (-20 ≤ z ∧ z ≤ 2000000000) ∧ (z = -1 → ¬ (0 ≤ ship ∧ ship < GL_v g 7 0))) z g2 := by
      exact ⟨Or.inr ⟨hp.2.2.1, hp.1⟩, hp.2.1, ⟨by have := hp.2.2.1; omega, hp.2.2.2⟩, fun h => absurd hp.2.2.1 (by omega)⟩
    exact hret z g2 H locs _ _ _ _ (Nat.le_of_ble_eq_true rfl) (Nat.le_of_ble_eq_true rfl) dL_leaves_5 hfin (zP_o hP) (zD_o hD) hS
set_option maxHeartbeats 4000000 in
set_option maxRecDepth 20000 in
theorem q_L_depositb {l : Launch} (hst : l.stackTraces = false) {K : Nat → Nat} {D : va_G} {tA : Nat → ClassId} {ad : Nat → Nat} {sz : Nat} {B N : Int} {g : GL} (hB : (0 ≤ B ∧ B ≤ 100000000) ∧ (0 ≤ N ∧ N ≤ 100000)) (hok : OKG B N g) (ship : Int) (w : Int) (r_ship : -2147483648 ≤ ship ∧ ship ≤ 2147483647) (r_w : -2147483648 ≤ w ∧ w ≤ 2147483647)  : zHi l yL_deposit (wsL_deposit ++ xL) ({ frames := 8, cells := 1, slots := 6, locals := 132 }) K D tA [.ref (ad 0), .int (iI ship), .int (iI w)] (zW tA K ad g) sz (fun (z : Int) (g' : GL) => wOp B N g g' z ∧ GL_v g' 0 0 = GL_v g 0 0 ∧ (-20 ≤ z ∧ z ≤ 2000000000) ∧ (z = -1 → ¬ (0 ≤ ship ∧ ship < GL_v g 7 0))) (fun g' => zW tA K ad g') 1 6 := by
  refine zHi_of (cc := cL_deposit) (maxL := 4) (hh := [(0, 6, 7, 20), (0, 6, 10, 22)]) (by decide) rfl (fun z u h => rfl) (Nat.le_of_ble_eq_true rfl) ?_
  intro p e s m args below meth c A Q ls hx hb hml hts hown hK hP hD hA hZ htb hret hl
  obtain ⟨H, hHe⟩ : ∃ H : Heap, H = s.heap := ⟨_, rfl⟩
  have hS : va_S A s.heap H [] := by rw [hHe]; exact va_S.rf
  rw [← hHe] at hP ⊢
  have hl : lv_has ls 4 [(0, .ref (ad 0)), (1, .int (iI ship)), (2, .int (iI w))] := hl
  refine lv_aload_n hx hb dL_deposit_0 rfl (lv_at hl 0 rfl) ?_
  refine lv_iload_n hx hb dL_deposit_1 rfl (lv_at hl 1 rfl) ?_
  refine lv_iload_n hx hb dL_deposit_2 rfl (lv_at hl 2 rfl) ?_
  refine zx_callVi_ch (As := [.int (iI ship), .int (iI w)]) (rest := []) (L := [zW tA K ad g]) (Lc := [zW tA K ad g]) (Lr := []) (Lc' := fun (u : GL) => [zW tA K ad u]) (Lf := fun (u : GL) => [zW tA K ad u]) (Lx := fun (u : Int × GL) => [zW tA K ad u.2]) (Lfx := fun (u : Int × GL) => [zW tA K ad u.2]) (is := [0]) (isF := [0]) (isX := [0]) ⟨hx, hb, hml, hown, hts⟩ (q_X10_depositb hst hB hok ship w r_ship r_w ) (cwV 2 hts (goodIn_wid gL_deposit_X10_deposit) rfl rfl rfl (by decide +kernel) ⟨Nat.le_of_ble_eq_true rfl, Nat.le_of_ble_eq_true rfl⟩) hK (zP_i hP) (zD_i hD) hS hA hZ (zCut_1 _) (zBack_1 _) (zBack_1 _) (ci := 12) (q0 := 0) rfl rfl (zW_0 tA K ad g) rfl rfl hl.1 (Nat.le_of_ble_eq_true rfl) dL_deposit_3 ⟨Nat.le_of_ble_eq_true rfl, Nat.le_of_ble_eq_true rfl⟩ ?_ ?_
  · intro E ce q9 u H locs hpx hP hD hS hce hcv hcl
    obtain ⟨hex, hrd, hth⟩ := hpx
    rcases hex with ⟨hk, hE⟩ | ⟨hk, hE⟩ | ⟨hk, hE⟩ | ⟨hk, hE⟩ | ⟨hk, hE⟩ | ⟨hk, hE⟩
    · refine zz_catch hZ hown [] ⟨0, 6, 7, 20⟩ [⟨0, 6, 10, 22⟩] htb rfl hE (by decide) (fun z hz => absurd hz List.not_mem_nil) (by decide) (by decide) (hts (.classLink RL 20 "java/lang/IndexOutOfBoundsException") (List.mem_append_right _ (by decide +kernel))) hce hcv hcl ?_
      refine W.eq (g2 := F0 m 7 ls [.ref q9]) rfl ?_
      refine lv_astore_n (lv' := [(3, .ref q9), (0, .ref (ad 0)), (1, .int (iI ship)), (2, .int (iI w))]) hx hb dL_deposit_7 rfl hl (by decide) rfl (fun ls hl => ?_)
      refine zz_iconst hx hb dL_deposit_8 ?_
      have hfin : (fun (z : Int) (g' : GL) => wOp B N g g' z ∧ GL_v g' 0 0 = GL_v g 0 0 ∧ (-20 ≤ z ∧ z ≤ 2000000000) ∧ (z = -1 → ¬ (0 ≤ ship ∧ ship < GL_v g 7 0))) (-1) u.2 := by
        exact ⟨Or.inl ⟨by decide, hrd⟩, congrFun (congrFun hrd.2.1 0) 0, by decide, fun _ => faultP (hk ▸ hth.2)⟩
      exact hret (-1) u.2 H locs _ _ _ _ (Nat.le_of_ble_eq_true rfl) (Nat.le_of_ble_eq_true rfl) dL_deposit_9 hfin (zP_o hP) (zD_o hD) hS
    · refine zz_catch hZ hown [⟨0, 6, 7, 20⟩] ⟨0, 6, 10, 22⟩ [] htb rfl hE (by decide) (List.forall_mem_cons.mpr ⟨⟨by decide, "java/lang/IndexOutOfBoundsException", by decide, by decide, hts (.classLink RL 20 "java/lang/IndexOutOfBoundsException") (List.mem_append_right _ (by decide +kernel))⟩, fun z hz => absurd hz List.not_mem_nil⟩) (by decide) (by decide) (hts (.classLink RL 22 "java/lang/IllegalArgumentException") (List.mem_append_right _ (by decide +kernel))) hce hcv hcl ?_
      refine W.eq (g2 := F0 m 10 ls [.ref q9]) rfl ?_
      refine lv_astore_n (lv' := [(3, .ref q9), (0, .ref (ad 0)), (1, .int (iI ship)), (2, .int (iI w))]) hx hb dL_deposit_10 rfl hl (by decide) rfl (fun ls hl => ?_)
      refine zz_bipush hx hb dL_deposit_11 rfl ?_
      have hfin : (fun (z : Int) (g' : GL) => wOp B N g g' z ∧ GL_v g' 0 0 = GL_v g 0 0 ∧ (-20 ≤ z ∧ z ≤ 2000000000) ∧ (z = -1 → ¬ (0 ≤ ship ∧ ship < GL_v g 7 0))) (-2) u.2 := by
        exact ⟨Or.inl ⟨by decide, hrd⟩, congrFun (congrFun hrd.2.1 0) 0, by decide, fun h => absurd h (by decide)⟩
      exact hret (-2) u.2 H locs _ _ _ _ (Nat.le_of_ble_eq_true rfl) (Nat.le_of_ble_eq_true rfl) dL_deposit_13 hfin (zP_o hP) (zD_o hD) hS
    · exfalso
      first | omega | (have h8 := hth.1; omega) | (rcases hth with h9 | h9 <;> (have h8 := h9.1; omega)) | (rcases hth with h9 | h9 | h9 <;> (have h8 := h9.1; omega))  | (have h9 := payF_v hth.2; omega)
    · exfalso
      first | omega | (have h8 := hth.1; omega) | (rcases hth with h9 | h9 <;> (have h8 := h9.1; omega)) | (rcases hth with h9 | h9 | h9 <;> (have h8 := h9.1; omega))  | (have h9 := payF_v hth.2; omega)
    · exfalso
      first | omega | (have h8 := hth.1; omega) | (rcases hth with h9 | h9 <;> (have h8 := h9.1; omega)) | (rcases hth with h9 | h9 | h9 <;> (have h8 := h9.1; omega))  | (have h9 := payF_v hth.2; omega)
    · exfalso
      first | omega | (have h8 := hth.1; omega) | (rcases hth with h9 | h9 <;> (have h8 := h9.1; omega)) | (rcases hth with h9 | h9 | h9 <;> (have h8 := h9.1; omega))  | (have h9 := payF_v hth.2; omega)
  · intro z g2 H locs hp hP hD hS
    have hfin : (fun (z : Int) (g' : GL) => wOp B N g g' z ∧ GL_v g' 0 0 = GL_v g 0 0 ∧ (-20 ≤ z ∧ z ≤ 2000000000) ∧ (z = -1 → ¬ (0 ≤ ship ∧ ship < GL_v g 7 0))) z g2 := by
      exact ⟨Or.inr ⟨hp.2.2.1, hp.1⟩, hp.2.1, ⟨by have := hp.2.2.1; omega, hp.2.2.2⟩, fun h => absurd hp.2.2.1 (by omega)⟩
    exact hret z g2 H locs _ _ _ _ (Nat.le_of_ble_eq_true rfl) (Nat.le_of_ble_eq_true rfl) dL_deposit_6 hfin (zP_o hP) (zD_o hD) hS
set_option maxHeartbeats 4000000 in
set_option maxRecDepth 20000 in
theorem q_L_setFogb {l : Launch} (hst : l.stackTraces = false) {K : Nat → Nat} {D : va_G} {tA : Nat → ClassId} {ad : Nat → Nat} {sz : Nat} {B N : Int} {g : GL} (hB : (0 ≤ B ∧ B ≤ 100000000) ∧ (0 ≤ N ∧ N ≤ 100000)) (hok : OKG B N g) (nf : Int) (r_nf : -2147483648 ≤ nf ∧ nf ≤ 2147483647)  : zHi l yL_setFog (wsL_setFog ++ xL) ({ frames := 8, cells := 1, slots := 6, locals := 131 }) K D tA [.ref (ad 0), .int (iI nf)] (zW tA K ad g) sz (fun (z : Int) (g' : GL) => wOp B N g g' z ∧ GL_v g' 0 0 = GL_v g 0 0 ∧ (-20 ≤ z ∧ z ≤ 2000000000) ∧ (z = -1 → ¬ (0 ≤ nf ∧ nf ≤ 9))) (fun g' => zW tA K ad g') 1 6 := by
  refine zHi_of (cc := cL_setFog) (maxL := 3) (hh := [(0, 5, 6, 22)]) (by decide) rfl (fun z u h => rfl) (Nat.le_of_ble_eq_true rfl) ?_
  intro p e s m args below meth c A Q ls hx hb hml hts hown hK hP hD hA hZ htb hret hl
  obtain ⟨H, hHe⟩ : ∃ H : Heap, H = s.heap := ⟨_, rfl⟩
  have hS : va_S A s.heap H [] := by rw [hHe]; exact va_S.rf
  rw [← hHe] at hP ⊢
  have hl : lv_has ls 3 [(0, .ref (ad 0)), (1, .int (iI nf))] := hl
  refine lv_aload_n hx hb dL_setFog_0 rfl (lv_at hl 0 rfl) ?_
  refine lv_iload_n hx hb dL_setFog_1 rfl (lv_at hl 1 rfl) ?_
  refine zx_callVi_ch (As := [.int (iI nf)]) (rest := []) (L := [zW tA K ad g]) (Lc := [zW tA K ad g]) (Lr := []) (Lc' := fun (u : GL) => [zW tA K ad u]) (Lf := fun (u : GL) => [zW tA K ad u]) (Lx := fun (u : Int × GL) => [zW tA K ad u.2]) (Lfx := fun (u : Int × GL) => [zW tA K ad u.2]) (is := [0]) (isF := [0]) (isX := [0]) ⟨hx, hb, hml, hown, hts⟩ (q_X10_setFogb hst hB hok nf r_nf ) (cwV 1 hts (goodIn_wid gL_setFog_X10_setFog) rfl rfl rfl (by decide +kernel) ⟨Nat.le_of_ble_eq_true rfl, Nat.le_of_ble_eq_true rfl⟩) hK (zP_i hP) (zD_i hD) hS hA hZ (zCut_1 _) (zBack_1 _) (zBack_1 _) (ci := 12) (q0 := 0) rfl rfl (zW_0 tA K ad g) rfl rfl hl.1 (Nat.le_of_ble_eq_true rfl) dL_setFog_2 ⟨Nat.le_of_ble_eq_true rfl, Nat.le_of_ble_eq_true rfl⟩ ?_ ?_
  · intro E ce q9 u H locs hpx hP hD hS hce hcv hcl
    obtain ⟨hex, hrd, hth⟩ := hpx
    rcases hex with ⟨hk, hE⟩ | ⟨hk, hE⟩ | ⟨hk, hE⟩ | ⟨hk, hE⟩ | ⟨hk, hE⟩ | ⟨hk, hE⟩
    · exfalso
      first | omega | (have h8 := hth.1; omega) | (rcases hth with h9 | h9 <;> (have h8 := h9.1; omega)) | (rcases hth with h9 | h9 | h9 <;> (have h8 := h9.1; omega)) 
    · refine zz_catch hZ hown [] ⟨0, 5, 6, 22⟩ [] htb rfl hE (by decide) (fun z hz => absurd hz List.not_mem_nil) (by decide) (by decide) (hts (.classLink RL 22 "java/lang/IllegalArgumentException") (List.mem_append_right _ (by decide +kernel))) hce hcv hcl ?_
      refine W.eq (g2 := F0 m 6 ls [.ref q9]) rfl ?_
      refine lv_astore_n (lv' := [(2, .ref q9), (0, .ref (ad 0)), (1, .int (iI nf))]) hx hb dL_setFog_6 rfl hl (by decide) rfl (fun ls hl => ?_)
      refine zz_iconst hx hb dL_setFog_7 ?_
      have hfin : (fun (z : Int) (g' : GL) => wOp B N g g' z ∧ GL_v g' 0 0 = GL_v g 0 0 ∧ (-20 ≤ z ∧ z ≤ 2000000000) ∧ (z = -1 → ¬ (0 ≤ nf ∧ nf ≤ 9))) (-1) u.2 := by
        exact ⟨Or.inl ⟨by decide, hrd⟩, congrFun (congrFun hrd.2.1 0) 0, by decide, fun _ => hth.2⟩
      exact hret (-1) u.2 H locs _ _ _ _ (Nat.le_of_ble_eq_true rfl) (Nat.le_of_ble_eq_true rfl) dL_setFog_8 hfin (zP_o hP) (zD_o hD) hS
    · exfalso
      first | omega | (have h8 := hth.1; omega) | (rcases hth with h9 | h9 <;> (have h8 := h9.1; omega)) | (rcases hth with h9 | h9 | h9 <;> (have h8 := h9.1; omega)) 
    · exfalso
      first | omega | (have h8 := hth.1; omega) | (rcases hth with h9 | h9 <;> (have h8 := h9.1; omega)) | (rcases hth with h9 | h9 | h9 <;> (have h8 := h9.1; omega)) 
    · exfalso
      first | omega | (have h8 := hth.1; omega) | (rcases hth with h9 | h9 <;> (have h8 := h9.1; omega)) | (rcases hth with h9 | h9 | h9 <;> (have h8 := h9.1; omega)) 
    · exfalso
      first | omega | (have h8 := hth.1; omega) | (rcases hth with h9 | h9 <;> (have h8 := h9.1; omega)) | (rcases hth with h9 | h9 | h9 <;> (have h8 := h9.1; omega)) 
  · intro z g2 H locs hp hP hD hS
    have hfin : (fun (z : Int) (g' : GL) => wOp B N g g' z ∧ GL_v g' 0 0 = GL_v g 0 0 ∧ (-20 ≤ z ∧ z ≤ 2000000000) ∧ (z = -1 → ¬ (0 ≤ nf ∧ nf ≤ 9))) z g2 := by
      exact ⟨Or.inr ⟨hp.2.2.1, hp.1⟩, hp.2.1, ⟨by have := hp.2.2.1; omega, hp.2.2.2⟩, fun h => absurd hp.2.2.1 (by omega)⟩
    exact hret z g2 H locs _ _ _ _ (Nat.le_of_ble_eq_true rfl) (Nat.le_of_ble_eq_true rfl) dL_setFog_5 hfin (zP_o hP) (zD_o hD) hS
set_option maxHeartbeats 4000000 in
set_option maxRecDepth 20000 in
theorem q_L_executesb {l : Launch} (hst : l.stackTraces = false) {K : Nat → Nat} {D : va_G} {tA : Nat → ClassId} {ad : Nat → Nat} {sz : Nat} {B N : Int} {g : GL} (hB : (0 ≤ B ∧ B ≤ 100000000) ∧ (0 ≤ N ∧ N ≤ 100000)) (hok : OKG B N g)    : zHi l yL_executes (wsL_executes ++ xL) ({ frames := 9, cells := 1, slots := 6, locals := 194 }) K D tA [.ref (ad 0)] (zW tA K ad g) sz (fun (z : Int) (g' : GL) => wOp B N g g' z ∧ (-20 ≤ z ∧ z ≤ 2000000000)) (fun g' => zW tA K ad g') 1 6 := by
  refine zHi_of (cc := cL_executes) (maxL := 2) (hh := [(0, 4, 5, 22), (0, 4, 8, 14)]) (by decide) rfl (fun z u h => rfl) (Nat.le_of_ble_eq_true rfl) ?_
  intro p e s m args below meth c A Q ls hx hb hml hts hown hK hP hD hA hZ htb hret hl
  obtain ⟨H, hHe⟩ : ∃ H : Heap, H = s.heap := ⟨_, rfl⟩
  have hS : va_S A s.heap H [] := by rw [hHe]; exact va_S.rf
  rw [← hHe] at hP ⊢
  have hl : lv_has ls 2 [(0, .ref (ad 0))] := hl
  refine lv_aload_n hx hb dL_executes_0 rfl (lv_at hl 0 rfl) ?_
  refine zx_callVi_ch (As := []) (rest := []) (L := [zW tA K ad g]) (Lc := [zW tA K ad g]) (Lr := []) (Lc' := fun (u : GL) => [zW tA K ad u]) (Lf := fun (u : GL) => [zW tA K ad u]) (Lx := fun (u : Int × GL) => [zW tA K ad u.2]) (Lfx := fun (u : Int × GL) => [zW tA K ad u.2]) (is := [0]) (isF := [0]) (isX := [0]) ⟨hx, hb, hml, hown, hts⟩ (q_X10_executeb hst hB hok  ) (cwV 0 hts (goodIn_wid gL_executes_X10_execute) rfl rfl rfl (by decide +kernel) ⟨Nat.le_of_ble_eq_true rfl, Nat.le_of_ble_eq_true rfl⟩) hK (zP_i hP) (zD_i hD) hS hA hZ (zCut_1 _) (zBack_1 _) (zBack_1 _) (ci := 12) (q0 := 0) rfl rfl (zW_0 tA K ad g) rfl rfl hl.1 (Nat.le_of_ble_eq_true rfl) dL_executes_1 ⟨Nat.le_of_ble_eq_true rfl, Nat.le_of_ble_eq_true rfl⟩ ?_ ?_
  · intro E ce q9 u H locs hpx hP hD hS hce hcv hcl
    obtain ⟨hex, hrd, hth⟩ := hpx
    rcases hex with ⟨hk, hE⟩ | ⟨hk, hE⟩ | ⟨hk, hE⟩ | ⟨hk, hE⟩ | ⟨hk, hE⟩ | ⟨hk, hE⟩
    · exfalso
      first | omega | (have h8 := hth.1; omega) | (rcases hth with h9 | h9 <;> (have h8 := h9.1; omega)) | (rcases hth with h9 | h9 | h9 <;> (have h8 := h9.1; omega)) 
    · refine zz_catch hZ hown [] ⟨0, 4, 5, 22⟩ [⟨0, 4, 8, 14⟩] htb rfl hE (by decide) (fun z hz => absurd hz List.not_mem_nil) (by decide) (by decide) (hts (.classLink RL 22 "java/lang/IllegalArgumentException") (List.mem_append_right _ (by decide +kernel))) hce hcv hcl ?_
      refine W.eq (g2 := F0 m 5 ls [.ref q9]) rfl ?_
      refine lv_astore_n (lv' := [(1, .ref q9), (0, .ref (ad 0))]) hx hb dL_executes_5 rfl hl (by decide) rfl (fun ls hl => ?_)
      refine zz_iconst hx hb dL_executes_6 ?_
      have hfin : (fun (z : Int) (g' : GL) => wOp B N g g' z ∧ (-20 ≤ z ∧ z ≤ 2000000000)) (-1) u.2 := by
        exact ⟨Or.inl ⟨by decide, hrd⟩, by decide⟩
      exact hret (-1) u.2 H locs _ _ _ _ (Nat.le_of_ble_eq_true rfl) (Nat.le_of_ble_eq_true rfl) dL_executes_7 hfin (zP_o hP) (zD_o hD) hS
    · refine zz_catch hZ hown [⟨0, 4, 5, 22⟩] ⟨0, 4, 8, 14⟩ [] htb rfl hE (by decide) (List.forall_mem_cons.mpr ⟨⟨by decide, "java/lang/IllegalArgumentException", by decide, by decide, hts (.classLink RL 22 "java/lang/IllegalArgumentException") (List.mem_append_right _ (by decide +kernel))⟩, fun z hz => absurd hz List.not_mem_nil⟩) (by decide) (by decide) (hts (.classLink RL 14 "java/lang/IllegalStateException") (List.mem_append_right _ (by decide +kernel))) hce hcv hcl ?_
      refine W.eq (g2 := F0 m 8 ls [.ref q9]) rfl ?_
      refine lv_astore_n (lv' := [(1, .ref q9), (0, .ref (ad 0))]) hx hb dL_executes_8 rfl hl (by decide) rfl (fun ls hl => ?_)
      refine zz_bipush hx hb dL_executes_9 rfl ?_
      have hfin : (fun (z : Int) (g' : GL) => wOp B N g g' z ∧ (-20 ≤ z ∧ z ≤ 2000000000)) (-2) u.2 := by
        exact ⟨Or.inl ⟨by decide, hrd⟩, by decide⟩
      exact hret (-2) u.2 H locs _ _ _ _ (Nat.le_of_ble_eq_true rfl) (Nat.le_of_ble_eq_true rfl) dL_executes_11 hfin (zP_o hP) (zD_o hD) hS
    · exfalso
      first | omega | (have h8 := hth.1; omega) | (rcases hth with h9 | h9 <;> (have h8 := h9.1; omega)) | (rcases hth with h9 | h9 | h9 <;> (have h8 := h9.1; omega)) 
    · exfalso
      first | omega | (have h8 := hth.1; omega) | (rcases hth with h9 | h9 <;> (have h8 := h9.1; omega)) | (rcases hth with h9 | h9 | h9 <;> (have h8 := h9.1; omega)) 
    · exfalso
      first | omega | (have h8 := hth.1; omega) | (rcases hth with h9 | h9 <;> (have h8 := h9.1; omega)) | (rcases hth with h9 | h9 | h9 <;> (have h8 := h9.1; omega)) 
  · intro z g2 H locs hp hP hD hS
    have hfin : (fun (z : Int) (g' : GL) => wOp B N g g' z ∧ (-20 ≤ z ∧ z ≤ 2000000000)) z g2 := by
      exact ⟨Or.inr ⟨hp.2.1, hp.1⟩, by have := hp.2.1; omega, hp.2.2⟩
    exact hret z g2 H locs _ _ _ _ (Nat.le_of_ble_eq_true rfl) (Nat.le_of_ble_eq_true rfl) dL_executes_4 hfin (zP_o hP) (zD_o hD) hS
