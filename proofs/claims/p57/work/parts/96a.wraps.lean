/-! ===== p57: the law's wrappers: questions ===== -/
set_option maxHeartbeats 4000000 in
set_option maxRecDepth 20000 in
theorem q_L_hasLeg {l : Launch} (hst : l.stackTraces = false) {K : Nat → Nat} {D : va_G} {tA : Nat → ClassId} {ad : Nat → Nat} {sz : Nat} {B N : Int} {g : GL} (hB : (0 ≤ B ∧ B ≤ 100000000) ∧ (0 ≤ N ∧ N ≤ 100000)) (hok : OKG B N g) (frm : Int) (too : Int) (r_frm : -2147483648 ≤ frm ∧ frm ≤ 2147483647) (r_too : -2147483648 ≤ too ∧ too ≤ 2147483647)  : zHi l yL_hasLeg (wsL_hasLeg ++ xL) ({ frames := 8, cells := 1, slots := 6, locals := 134 }) K D tA [.ref (ad 0), .int (iI frm), .int (iI too)] (zW tA K ad g) sz (fun (z : Int) (g' : GL) => RDO B N g g' ∧ wHas (GL_v g) frm too z) (fun g' => zW tA K ad g') 1 6 := by
  refine zHi_of (cc := cL_hasLeg) (maxL := 4) (hh := [(0, 14, 15, 20)]) (by decide) rfl (fun z u h => rfl) (Nat.le_of_ble_eq_true rfl) ?_
  intro p e s m args below meth c A Q ls hx hb hml hts hown hK hP hD hA hZ htb hret hl
  obtain ⟨H, hHe⟩ : ∃ H : Heap, H = s.heap := ⟨_, rfl⟩
  have hS : va_S A s.heap H [] := by rw [hHe]; exact va_S.rf
  rw [← hHe] at hP ⊢
  have hl : lv_has ls 4 [(0, .ref (ad 0)), (1, .int (iI frm)), (2, .int (iI too))] := hl
  refine lv_aload_n hx hb dL_hasLeg_0 rfl (lv_at hl 0 rfl) ?_
  refine lv_iload_n hx hb dL_hasLeg_1 rfl (lv_at hl 1 rfl) ?_
  refine lv_iload_n hx hb dL_hasLeg_2 rfl (lv_at hl 2 rfl) ?_
  refine zx_callVi_ch (As := [.int (iI frm), .int (iI too)]) (rest := []) (L := [zW tA K ad g]) (Lc := [zW tA K ad g]) (Lr := []) (Lc' := fun (u : GL) => [zW tA K ad u]) (Lf := fun (u : GL) => [zW tA K ad u]) (Lx := fun (u : Int × GL) => [zW tA K ad u.2]) (Lfx := fun (u : Int × GL) => [zW tA K ad u.2]) (is := [0]) (isF := [0]) (isX := [0]) ⟨hx, hb, hml, hown, hts⟩ (q_X10_hasLeg hst hB hok frm too r_frm r_too ) (cwV 2 hts (goodIn_wid gL_hasLeg_X10_hasLeg) rfl rfl rfl (by decide +kernel) ⟨Nat.le_of_ble_eq_true rfl, Nat.le_of_ble_eq_true rfl⟩) hK (zP_i hP) (zD_i hD) hS hA hZ (zCut_1 _) (zBack_1 _) (zBack_1 _) (ci := 12) (q0 := 0) rfl rfl (zW_0 tA K ad g) rfl rfl hl.1 (Nat.le_of_ble_eq_true rfl) dL_hasLeg_3 ⟨Nat.le_of_ble_eq_true rfl, Nat.le_of_ble_eq_true rfl⟩ ?_ ?_
  · intro E ce q9 u H locs hpx hP hD hS hce hcv hcl
    obtain ⟨hex, hrd, hth⟩ := hpx
    rcases hex with ⟨hk, hE⟩ | ⟨hk, hE⟩ | ⟨hk, hE⟩ | ⟨hk, hE⟩ | ⟨hk, hE⟩ | ⟨hk, hE⟩
    · refine zz_catch hZ hown [] ⟨0, 14, 15, 20⟩ [] htb rfl hE (by decide) (fun z hz => absurd hz List.not_mem_nil) (by decide) (by decide) (hts (.classLink RL 20 "java/lang/IndexOutOfBoundsException") (List.mem_append_right _ (by decide +kernel))) hce hcv hcl ?_
      refine W.eq (g2 := F0 m 15 ls [.ref q9]) rfl ?_
      refine lv_astore_n (lv' := [(3, .ref q9), (0, .ref (ad 0)), (1, .int (iI frm)), (2, .int (iI too))]) hx hb dL_hasLeg_15 rfl hl (by decide) rfl (fun ls hl => ?_)
      refine zz_bipush hx hb dL_hasLeg_16 rfl ?_
      have hfin : (fun (z : Int) (g' : GL) => RDO B N g g' ∧ wHas (GL_v g) frm too z) (-11) u.2 := by
        exact ⟨hrd, Or.inl ⟨hth.2, rfl⟩⟩
      exact hret (-11) u.2 H locs _ _ _ _ (Nat.le_of_ble_eq_true rfl) (Nat.le_of_ble_eq_true rfl) dL_hasLeg_18 hfin (zP_o hP) (zD_o hD) hS
    · exfalso
      first | omega | (have h8 := hth.1; omega) | (rcases hth with h9 | h9 <;> (have h8 := h9.1; omega)) | (rcases hth with h9 | h9 | h9 <;> (have h8 := h9.1; omega)) 
    · exfalso
      first | omega | (have h8 := hth.1; omega) | (rcases hth with h9 | h9 <;> (have h8 := h9.1; omega)) | (rcases hth with h9 | h9 | h9 <;> (have h8 := h9.1; omega)) 
    · exfalso
      first | omega | (have h8 := hth.1; omega) | (rcases hth with h9 | h9 <;> (have h8 := h9.1; omega)) | (rcases hth with h9 | h9 | h9 <;> (have h8 := h9.1; omega)) 
    · exfalso
      first | omega | (have h8 := hth.1; omega) | (rcases hth with h9 | h9 <;> (have h8 := h9.1; omega)) | (rcases hth with h9 | h9 | h9 <;> (have h8 := h9.1; omega)) 
    · exfalso
      first | omega | (have h8 := hth.1; omega) | (rcases hth with h9 | h9 <;> (have h8 := h9.1; omega)) | (rcases hth with h9 | h9 | h9 <;> (have h8 := h9.1; omega)) 
  · intro z g2 H locs hp hP hD hS
    have hfin : (fun (z : Int) (g' : GL) => RDO B N g g' ∧ wHas (GL_v g) frm too z) z g2 := by
      exact ⟨hp.1, Or.inr hp.2⟩
    have hz01 : z = 0 ∨ z = 1 := by
      rcases hp.2.2 with h | h <;> omega
    refine zz_if_eq (tgt := 13) hx hb dL_hasLeg_6 (by decide) (by omega) (fun c9 => ?_) (fun c9 => ?_)
    · have hz9 : z = 0 := by omega
      subst hz9
      refine zz_iconst hx hb dL_hasLeg_13 ?_
      exact hret 0 g2 H locs _ _ _ _ (Nat.le_of_ble_eq_true rfl) (Nat.le_of_ble_eq_true rfl) dL_hasLeg_14 hfin (zP_o hP) (zD_o hD) hS
    · have hz9 : z = 1 := by omega
      subst hz9
      refine zz_iconst hx hb dL_hasLeg_9 ?_
      refine lv_goto (tgt := 14) hx hb dL_hasLeg_10 (by decide) ?_
      exact hret 1 g2 H locs _ _ _ _ (Nat.le_of_ble_eq_true rfl) (Nat.le_of_ble_eq_true rfl) dL_hasLeg_14 hfin (zP_o hP) (zD_o hD) hS
set_option maxHeartbeats 4000000 in
set_option maxRecDepth 20000 in
theorem q_L_lengthOf {l : Launch} (hst : l.stackTraces = false) {K : Nat → Nat} {D : va_G} {tA : Nat → ClassId} {ad : Nat → Nat} {sz : Nat} {B N : Int} {g : GL} (hB : (0 ≤ B ∧ B ≤ 100000000) ∧ (0 ≤ N ∧ N ≤ 100000)) (hok : OKG B N g) (frm : Int) (too : Int) (r_frm : -2147483648 ≤ frm ∧ frm ≤ 2147483647) (r_too : -2147483648 ≤ too ∧ too ≤ 2147483647)  : zHi l yL_lengthOf (wsL_lengthOf ++ xL) ({ frames := 9, cells := 2, slots := 12, locals := 156 }) K D tA [.ref (ad 0), .int (iI frm), .int (iI too)] (zW tA K ad g) sz (fun (z : Int) (g' : GL) => RDO B N g g' ∧ wLeg 4 (GL_v g) frm too z) (fun g' => zW tA K ad g') 2 12 := by
  refine zHi_of (cc := cL_lengthOf) (maxL := 4) (hh := [(0, 6, 7, 20), (0, 6, 11, 28)]) (by decide) rfl (fun z u h => rfl) (Nat.le_of_ble_eq_true rfl) ?_
  intro p e s m args below meth c A Q ls hx hb hml hts hown hK hP hD hA hZ htb hret hl
  obtain ⟨H, hHe⟩ : ∃ H : Heap, H = s.heap := ⟨_, rfl⟩
  have hS : va_S A s.heap H [] := by rw [hHe]; exact va_S.rf
  rw [← hHe] at hP ⊢
  have hl : lv_has ls 4 [(0, .ref (ad 0)), (1, .int (iI frm)), (2, .int (iI too))] := hl
  refine lv_aload_n hx hb dL_lengthOf_0 rfl (lv_at hl 0 rfl) ?_
  refine lv_iload_n hx hb dL_lengthOf_1 rfl (lv_at hl 1 rfl) ?_
  refine lv_iload_n hx hb dL_lengthOf_2 rfl (lv_at hl 2 rfl) ?_
  refine zx_callVi_ch (As := [.int (iI frm), .int (iI too)]) (rest := []) (L := [zW tA K ad g]) (Lc := [zW tA K ad g]) (Lr := []) (Lc' := fun (u : GL) => [zW tA K ad u]) (Lf := fun (u : GL) => [zW tA K ad u]) (Lx := fun (u : Int × GL) => [zW tA K ad u.2]) (Lfx := fun (u : Int × GL) => [zW tA K ad u.2]) (is := [0]) (isF := [0]) (isX := [0]) ⟨hx, hb, hml, hown, hts⟩ (q_X10_lengthOf hst hB hok frm too r_frm r_too ) (cwV 2 hts (goodIn_wid gL_lengthOf_X10_lengthOf) rfl rfl rfl (by decide +kernel) ⟨Nat.le_of_ble_eq_true rfl, Nat.le_of_ble_eq_true rfl⟩) hK (zP_i hP) (zD_i hD) hS hA hZ (zCut_1 _) (zBack_1 _) (zBack_1 _) (ci := 12) (q0 := 0) rfl rfl (zW_0 tA K ad g) rfl rfl hl.1 (Nat.le_of_ble_eq_true rfl) dL_lengthOf_3 ⟨Nat.le_of_ble_eq_true rfl, Nat.le_of_ble_eq_true rfl⟩ ?_ ?_
  · intro E ce q9 u H locs hpx hP hD hS hce hcv hcl
    obtain ⟨hex, hrd, hth⟩ := hpx
    rcases hex with ⟨hk, hE⟩ | ⟨hk, hE⟩ | ⟨hk, hE⟩ | ⟨hk, hE⟩ | ⟨hk, hE⟩ | ⟨hk, hE⟩
    · refine zz_catch hZ hown [] ⟨0, 6, 7, 20⟩ [⟨0, 6, 11, 28⟩] htb rfl hE (by decide) (fun z hz => absurd hz List.not_mem_nil) (by decide) (by decide) (hts (.classLink RL 20 "java/lang/IndexOutOfBoundsException") (List.mem_append_right _ (by decide +kernel))) hce hcv hcl ?_
      refine W.eq (g2 := F0 m 7 ls [.ref q9]) rfl ?_
      refine lv_astore_n (lv' := [(3, .ref q9), (0, .ref (ad 0)), (1, .int (iI frm)), (2, .int (iI too))]) hx hb dL_lengthOf_7 rfl hl (by decide) rfl (fun ls hl => ?_)
      refine zz_bipush hx hb dL_lengthOf_8 rfl ?_
      have hfin : (fun (z : Int) (g' : GL) => RDO B N g g' ∧ wLeg 4 (GL_v g) frm too z) (-11) u.2 := by
        rcases hth with h9 | h9
        · exact ⟨hrd, Or.inl ⟨h9.2, rfl⟩⟩
        · exact absurd hk (by omega)
      exact hret (-11) u.2 H locs _ _ _ _ (Nat.le_of_ble_eq_true rfl) (Nat.le_of_ble_eq_true rfl) dL_lengthOf_10 hfin (zP_o hP) (zD_o hD) hS
    · exfalso
      first | omega | (have h8 := hth.1; omega) | (rcases hth with h9 | h9 <;> (have h8 := h9.1; omega)) | (rcases hth with h9 | h9 | h9 <;> (have h8 := h9.1; omega)) 
    · exfalso
      first | omega | (have h8 := hth.1; omega) | (rcases hth with h9 | h9 <;> (have h8 := h9.1; omega)) | (rcases hth with h9 | h9 | h9 <;> (have h8 := h9.1; omega)) 
    · refine zz_catch hZ hown [⟨0, 6, 7, 20⟩] ⟨0, 6, 11, 28⟩ [] htb rfl hE (by decide) (List.forall_mem_cons.mpr ⟨⟨by decide, "java/lang/IndexOutOfBoundsException", by decide, by decide, hts (.classLink RL 20 "java/lang/IndexOutOfBoundsException") (List.mem_append_right _ (by decide +kernel))⟩, fun z hz => absurd hz List.not_mem_nil⟩) (by decide) (by decide) (hts (.classLink RL 28 "java/util/NoSuchElementException") (List.mem_append_right _ (by decide +kernel))) hce hcv hcl ?_
      refine W.eq (g2 := F0 m 11 ls [.ref q9]) rfl ?_
      refine lv_astore_n (lv' := [(3, .ref q9), (0, .ref (ad 0)), (1, .int (iI frm)), (2, .int (iI too))]) hx hb dL_lengthOf_11 rfl hl (by decide) rfl (fun ls hl => ?_)
      refine zz_bipush hx hb dL_lengthOf_12 rfl ?_
      have hfin : (fun (z : Int) (g' : GL) => RDO B N g g' ∧ wLeg 4 (GL_v g) frm too z) (-13) u.2 := by
        rcases hth with h9 | h9
        · exact absurd hk (by omega)
        · exact ⟨hrd, Or.inr ⟨h9.2.1, Or.inl ⟨rfl, h9.2.2⟩⟩⟩
      exact hret (-13) u.2 H locs _ _ _ _ (Nat.le_of_ble_eq_true rfl) (Nat.le_of_ble_eq_true rfl) dL_lengthOf_14 hfin (zP_o hP) (zD_o hD) hS
    · exfalso
      first | omega | (have h8 := hth.1; omega) | (rcases hth with h9 | h9 <;> (have h8 := h9.1; omega)) | (rcases hth with h9 | h9 | h9 <;> (have h8 := h9.1; omega)) 
    · exfalso
      first | omega | (have h8 := hth.1; omega) | (rcases hth with h9 | h9 <;> (have h8 := h9.1; omega)) | (rcases hth with h9 | h9 | h9 <;> (have h8 := h9.1; omega)) 
  · intro z g2 H locs hp hP hD hS
    have hfin : (fun (z : Int) (g' : GL) => RDO B N g g' ∧ wLeg 4 (GL_v g) frm too z) z g2 := by
      exact ⟨hp.1, Or.inr ⟨hp.2.1, Or.inr hp.2.2⟩⟩
    exact hret z g2 H locs _ _ _ _ (Nat.le_of_ble_eq_true rfl) (Nat.le_of_ble_eq_true rfl) dL_lengthOf_6 hfin (zP_o hP) (zD_o hD) hS
set_option maxHeartbeats 4000000 in
set_option maxRecDepth 20000 in
theorem q_L_reachOf {l : Launch} (hst : l.stackTraces = false) {K : Nat → Nat} {D : va_G} {tA : Nat → ClassId} {ad : Nat → Nat} {sz : Nat} {B N : Int} {g : GL} (hB : (0 ≤ B ∧ B ≤ 100000000) ∧ (0 ≤ N ∧ N ≤ 100000)) (hok : OKG B N g) (frm : Int) (too : Int) (r_frm : -2147483648 ≤ frm ∧ frm ≤ 2147483647) (r_too : -2147483648 ≤ too ∧ too ≤ 2147483647)  : zHi l yL_reachOf (wsL_reachOf ++ xL) ({ frames := 9, cells := 2, slots := 12, locals := 156 }) K D tA [.ref (ad 0), .int (iI frm), .int (iI too)] (zW tA K ad g) sz (fun (z : Int) (g' : GL) => RDO B N g g' ∧ wLeg 5 (GL_v g) frm too z) (fun g' => zW tA K ad g') 2 12 := by
  refine zHi_of (cc := cL_reachOf) (maxL := 4) (hh := [(0, 6, 7, 20), (0, 6, 11, 28)]) (by decide) rfl (fun z u h => rfl) (Nat.le_of_ble_eq_true rfl) ?_
  intro p e s m args below meth c A Q ls hx hb hml hts hown hK hP hD hA hZ htb hret hl
  obtain ⟨H, hHe⟩ : ∃ H : Heap, H = s.heap := ⟨_, rfl⟩
  have hS : va_S A s.heap H [] := by rw [hHe]; exact va_S.rf
  rw [← hHe] at hP ⊢
  have hl : lv_has ls 4 [(0, .ref (ad 0)), (1, .int (iI frm)), (2, .int (iI too))] := hl
  refine lv_aload_n hx hb dL_reachOf_0 rfl (lv_at hl 0 rfl) ?_
  refine lv_iload_n hx hb dL_reachOf_1 rfl (lv_at hl 1 rfl) ?_
  refine lv_iload_n hx hb dL_reachOf_2 rfl (lv_at hl 2 rfl) ?_
  refine zx_callVi_ch (As := [.int (iI frm), .int (iI too)]) (rest := []) (L := [zW tA K ad g]) (Lc := [zW tA K ad g]) (Lr := []) (Lc' := fun (u : GL) => [zW tA K ad u]) (Lf := fun (u : GL) => [zW tA K ad u]) (Lx := fun (u : Int × GL) => [zW tA K ad u.2]) (Lfx := fun (u : Int × GL) => [zW tA K ad u.2]) (is := [0]) (isF := [0]) (isX := [0]) ⟨hx, hb, hml, hown, hts⟩ (q_X10_reachOf hst hB hok frm too r_frm r_too ) (cwV 2 hts (goodIn_wid gL_reachOf_X10_reachOf) rfl rfl rfl (by decide +kernel) ⟨Nat.le_of_ble_eq_true rfl, Nat.le_of_ble_eq_true rfl⟩) hK (zP_i hP) (zD_i hD) hS hA hZ (zCut_1 _) (zBack_1 _) (zBack_1 _) (ci := 12) (q0 := 0) rfl rfl (zW_0 tA K ad g) rfl rfl hl.1 (Nat.le_of_ble_eq_true rfl) dL_reachOf_3 ⟨Nat.le_of_ble_eq_true rfl, Nat.le_of_ble_eq_true rfl⟩ ?_ ?_
  · intro E ce q9 u H locs hpx hP hD hS hce hcv hcl
    obtain ⟨hex, hrd, hth⟩ := hpx
    rcases hex with ⟨hk, hE⟩ | ⟨hk, hE⟩ | ⟨hk, hE⟩ | ⟨hk, hE⟩ | ⟨hk, hE⟩ | ⟨hk, hE⟩
    · refine zz_catch hZ hown [] ⟨0, 6, 7, 20⟩ [⟨0, 6, 11, 28⟩] htb rfl hE (by decide) (fun z hz => absurd hz List.not_mem_nil) (by decide) (by decide) (hts (.classLink RL 20 "java/lang/IndexOutOfBoundsException") (List.mem_append_right _ (by decide +kernel))) hce hcv hcl ?_
      refine W.eq (g2 := F0 m 7 ls [.ref q9]) rfl ?_
      refine lv_astore_n (lv' := [(3, .ref q9), (0, .ref (ad 0)), (1, .int (iI frm)), (2, .int (iI too))]) hx hb dL_reachOf_7 rfl hl (by decide) rfl (fun ls hl => ?_)
      refine zz_bipush hx hb dL_reachOf_8 rfl ?_
      have hfin : (fun (z : Int) (g' : GL) => RDO B N g g' ∧ wLeg 5 (GL_v g) frm too z) (-11) u.2 := by
        rcases hth with h9 | h9
        · exact ⟨hrd, Or.inl ⟨h9.2, rfl⟩⟩
        · exact absurd hk (by omega)
      exact hret (-11) u.2 H locs _ _ _ _ (Nat.le_of_ble_eq_true rfl) (Nat.le_of_ble_eq_true rfl) dL_reachOf_10 hfin (zP_o hP) (zD_o hD) hS
    · exfalso
      first | omega | (have h8 := hth.1; omega) | (rcases hth with h9 | h9 <;> (have h8 := h9.1; omega)) | (rcases hth with h9 | h9 | h9 <;> (have h8 := h9.1; omega)) 
    · exfalso
      first | omega | (have h8 := hth.1; omega) | (rcases hth with h9 | h9 <;> (have h8 := h9.1; omega)) | (rcases hth with h9 | h9 | h9 <;> (have h8 := h9.1; omega)) 
    · refine zz_catch hZ hown [⟨0, 6, 7, 20⟩] ⟨0, 6, 11, 28⟩ [] htb rfl hE (by decide) (List.forall_mem_cons.mpr ⟨⟨by decide, "java/lang/IndexOutOfBoundsException", by decide, by decide, hts (.classLink RL 20 "java/lang/IndexOutOfBoundsException") (List.mem_append_right _ (by decide +kernel))⟩, fun z hz => absurd hz List.not_mem_nil⟩) (by decide) (by decide) (hts (.classLink RL 28 "java/util/NoSuchElementException") (List.mem_append_right _ (by decide +kernel))) hce hcv hcl ?_
      refine W.eq (g2 := F0 m 11 ls [.ref q9]) rfl ?_
      refine lv_astore_n (lv' := [(3, .ref q9), (0, .ref (ad 0)), (1, .int (iI frm)), (2, .int (iI too))]) hx hb dL_reachOf_11 rfl hl (by decide) rfl (fun ls hl => ?_)
      refine zz_bipush hx hb dL_reachOf_12 rfl ?_
      have hfin : (fun (z : Int) (g' : GL) => RDO B N g g' ∧ wLeg 5 (GL_v g) frm too z) (-13) u.2 := by
        rcases hth with h9 | h9
        · exact absurd hk (by omega)
        · exact ⟨hrd, Or.inr ⟨h9.2.1, Or.inl ⟨rfl, h9.2.2⟩⟩⟩
      exact hret (-13) u.2 H locs _ _ _ _ (Nat.le_of_ble_eq_true rfl) (Nat.le_of_ble_eq_true rfl) dL_reachOf_14 hfin (zP_o hP) (zD_o hD) hS
    · exfalso
      first | omega | (have h8 := hth.1; omega) | (rcases hth with h9 | h9 <;> (have h8 := h9.1; omega)) | (rcases hth with h9 | h9 | h9 <;> (have h8 := h9.1; omega)) 
    · exfalso
      first | omega | (have h8 := hth.1; omega) | (rcases hth with h9 | h9 <;> (have h8 := h9.1; omega)) | (rcases hth with h9 | h9 | h9 <;> (have h8 := h9.1; omega)) 
  · intro z g2 H locs hp hP hD hS
    have hfin : (fun (z : Int) (g' : GL) => RDO B N g g' ∧ wLeg 5 (GL_v g) frm too z) z g2 := by
      exact ⟨hp.1, Or.inr ⟨hp.2.1, Or.inr hp.2.2⟩⟩
    exact hret z g2 H locs _ _ _ _ (Nat.le_of_ble_eq_true rfl) (Nat.le_of_ble_eq_true rfl) dL_reachOf_6 hfin (zP_o hP) (zD_o hD) hS
set_option maxHeartbeats 4000000 in
set_option maxRecDepth 20000 in
theorem q_L_meterOf {l : Launch} (hst : l.stackTraces = false) {K : Nat → Nat} {D : va_G} {tA : Nat → ClassId} {ad : Nat → Nat} {sz : Nat} {B N : Int} {g : GL} (hB : (0 ≤ B ∧ B ≤ 100000000) ∧ (0 ≤ N ∧ N ≤ 100000)) (hok : OKG B N g) (frm : Int) (too : Int) (r_frm : -2147483648 ≤ frm ∧ frm ≤ 2147483647) (r_too : -2147483648 ≤ too ∧ too ≤ 2147483647)  : zHi l yL_meterOf (wsL_meterOf ++ xL) ({ frames := 9, cells := 2, slots := 12, locals := 156 }) K D tA [.ref (ad 0), .int (iI frm), .int (iI too)] (zW tA K ad g) sz (fun (z : Int) (g' : GL) => RDO B N g g' ∧ wLeg 6 (GL_v g) frm too z) (fun g' => zW tA K ad g') 2 12 := by
  refine zHi_of (cc := cL_meterOf) (maxL := 4) (hh := [(0, 6, 7, 20), (0, 6, 11, 28)]) (by decide) rfl (fun z u h => rfl) (Nat.le_of_ble_eq_true rfl) ?_
  intro p e s m args below meth c A Q ls hx hb hml hts hown hK hP hD hA hZ htb hret hl
  obtain ⟨H, hHe⟩ : ∃ H : Heap, H = s.heap := ⟨_, rfl⟩
  have hS : va_S A s.heap H [] := by rw [hHe]; exact va_S.rf
  rw [← hHe] at hP ⊢
  have hl : lv_has ls 4 [(0, .ref (ad 0)), (1, .int (iI frm)), (2, .int (iI too))] := hl
  refine lv_aload_n hx hb dL_meterOf_0 rfl (lv_at hl 0 rfl) ?_
  refine lv_iload_n hx hb dL_meterOf_1 rfl (lv_at hl 1 rfl) ?_
  refine lv_iload_n hx hb dL_meterOf_2 rfl (lv_at hl 2 rfl) ?_
  refine zx_callVi_ch (As := [.int (iI frm), .int (iI too)]) (rest := []) (L := [zW tA K ad g]) (Lc := [zW tA K ad g]) (Lr := []) (Lc' := fun (u : GL) => [zW tA K ad u]) (Lf := fun (u : GL) => [zW tA K ad u]) (Lx := fun (u : Int × GL) => [zW tA K ad u.2]) (Lfx := fun (u : Int × GL) => [zW tA K ad u.2]) (is := [0]) (isF := [0]) (isX := [0]) ⟨hx, hb, hml, hown, hts⟩ (q_X10_meterOf hst hB hok frm too r_frm r_too ) (cwV 2 hts (goodIn_wid gL_meterOf_X10_meterOf) rfl rfl rfl (by decide +kernel) ⟨Nat.le_of_ble_eq_true rfl, Nat.le_of_ble_eq_true rfl⟩) hK (zP_i hP) (zD_i hD) hS hA hZ (zCut_1 _) (zBack_1 _) (zBack_1 _) (ci := 12) (q0 := 0) rfl rfl (zW_0 tA K ad g) rfl rfl hl.1 (Nat.le_of_ble_eq_true rfl) dL_meterOf_3 ⟨Nat.le_of_ble_eq_true rfl, Nat.le_of_ble_eq_true rfl⟩ ?_ ?_
  · intro E ce q9 u H locs hpx hP hD hS hce hcv hcl
    obtain ⟨hex, hrd, hth⟩ := hpx
    rcases hex with ⟨hk, hE⟩ | ⟨hk, hE⟩ | ⟨hk, hE⟩ | ⟨hk, hE⟩ | ⟨hk, hE⟩ | ⟨hk, hE⟩
    · refine zz_catch hZ hown [] ⟨0, 6, 7, 20⟩ [⟨0, 6, 11, 28⟩] htb rfl hE (by decide) (fun z hz => absurd hz List.not_mem_nil) (by decide) (by decide) (hts (.classLink RL 20 "java/lang/IndexOutOfBoundsException") (List.mem_append_right _ (by decide +kernel))) hce hcv hcl ?_
      refine W.eq (g2 := F0 m 7 ls [.ref q9]) rfl ?_
      refine lv_astore_n (lv' := [(3, .ref q9), (0, .ref (ad 0)), (1, .int (iI frm)), (2, .int (iI too))]) hx hb dL_meterOf_7 rfl hl (by decide) rfl (fun ls hl => ?_)
      refine zz_bipush hx hb dL_meterOf_8 rfl ?_
      have hfin : (fun (z : Int) (g' : GL) => RDO B N g g' ∧ wLeg 6 (GL_v g) frm too z) (-11) u.2 := by
        rcases hth with h9 | h9
        · exact ⟨hrd, Or.inl ⟨h9.2, rfl⟩⟩
        · exact absurd hk (by omega)
      exact hret (-11) u.2 H locs _ _ _ _ (Nat.le_of_ble_eq_true rfl) (Nat.le_of_ble_eq_true rfl) dL_meterOf_10 hfin (zP_o hP) (zD_o hD) hS
    · exfalso
      first | omega | (have h8 := hth.1; omega) | (rcases hth with h9 | h9 <;> (have h8 := h9.1; omega)) | (rcases hth with h9 | h9 | h9 <;> (have h8 := h9.1; omega)) 
    · exfalso
      first | omega | (have h8 := hth.1; omega) | (rcases hth with h9 | h9 <;> (have h8 := h9.1; omega)) | (rcases hth with h9 | h9 | h9 <;> (have h8 := h9.1; omega)) 
    · refine zz_catch hZ hown [⟨0, 6, 7, 20⟩] ⟨0, 6, 11, 28⟩ [] htb rfl hE (by decide) (List.forall_mem_cons.mpr ⟨⟨by decide, "java/lang/IndexOutOfBoundsException", by decide, by decide, hts (.classLink RL 20 "java/lang/IndexOutOfBoundsException") (List.mem_append_right _ (by decide +kernel))⟩, fun z hz => absurd hz List.not_mem_nil⟩) (by decide) (by decide) (hts (.classLink RL 28 "java/util/NoSuchElementException") (List.mem_append_right _ (by decide +kernel))) hce hcv hcl ?_
      refine W.eq (g2 := F0 m 11 ls [.ref q9]) rfl ?_
      refine lv_astore_n (lv' := [(3, .ref q9), (0, .ref (ad 0)), (1, .int (iI frm)), (2, .int (iI too))]) hx hb dL_meterOf_11 rfl hl (by decide) rfl (fun ls hl => ?_)
      refine zz_bipush hx hb dL_meterOf_12 rfl ?_
      have hfin : (fun (z : Int) (g' : GL) => RDO B N g g' ∧ wLeg 6 (GL_v g) frm too z) (-13) u.2 := by
        rcases hth with h9 | h9
        · exact absurd hk (by omega)
        · exact ⟨hrd, Or.inr ⟨h9.2.1, Or.inl ⟨rfl, h9.2.2⟩⟩⟩
      exact hret (-13) u.2 H locs _ _ _ _ (Nat.le_of_ble_eq_true rfl) (Nat.le_of_ble_eq_true rfl) dL_meterOf_14 hfin (zP_o hP) (zD_o hD) hS
    · exfalso
      first | omega | (have h8 := hth.1; omega) | (rcases hth with h9 | h9 <;> (have h8 := h9.1; omega)) | (rcases hth with h9 | h9 | h9 <;> (have h8 := h9.1; omega)) 
    · exfalso
      first | omega | (have h8 := hth.1; omega) | (rcases hth with h9 | h9 <;> (have h8 := h9.1; omega)) | (rcases hth with h9 | h9 | h9 <;> (have h8 := h9.1; omega)) 
  · intro z g2 H locs hp hP hD hS
    have hfin : (fun (z : Int) (g' : GL) => RDO B N g g' ∧ wLeg 6 (GL_v g) frm too z) z g2 := by
      exact ⟨hp.1, Or.inr ⟨hp.2.1, Or.inr hp.2.2⟩⟩
    exact hret z g2 H locs _ _ _ _ (Nat.le_of_ble_eq_true rfl) (Nat.le_of_ble_eq_true rfl) dL_meterOf_6 hfin (zP_o hP) (zD_o hD) hS
set_option maxHeartbeats 4000000 in
set_option maxRecDepth 20000 in
theorem q_L_isLit {l : Launch} (hst : l.stackTraces = false) {K : Nat → Nat} {D : va_G} {tA : Nat → ClassId} {ad : Nat → Nat} {sz : Nat} {B N : Int} {g : GL} (hB : (0 ≤ B ∧ B ≤ 100000000) ∧ (0 ≤ N ∧ N ≤ 100000)) (hok : OKG B N g) (frm : Int) (too : Int) (r_frm : -2147483648 ≤ frm ∧ frm ≤ 2147483647) (r_too : -2147483648 ≤ too ∧ too ≤ 2147483647)  : zHi l yL_isLit (wsL_isLit ++ xL) ({ frames := 9, cells := 2, slots := 12, locals := 156 }) K D tA [.ref (ad 0), .int (iI frm), .int (iI too)] (zW tA K ad g) sz (fun (z : Int) (g' : GL) => RDO B N g g' ∧ wLit (GL_v g) frm too z) (fun g' => zW tA K ad g') 2 12 := by
  refine zHi_of (cc := cL_isLit) (maxL := 4) (hh := [(0, 14, 15, 20), (0, 14, 19, 28)]) (by decide) rfl (fun z u h => rfl) (Nat.le_of_ble_eq_true rfl) ?_
  intro p e s m args below meth c A Q ls hx hb hml hts hown hK hP hD hA hZ htb hret hl
  obtain ⟨H, hHe⟩ : ∃ H : Heap, H = s.heap := ⟨_, rfl⟩
  have hS : va_S A s.heap H [] := by rw [hHe]; exact va_S.rf
  rw [← hHe] at hP ⊢
  have hl : lv_has ls 4 [(0, .ref (ad 0)), (1, .int (iI frm)), (2, .int (iI too))] := hl
  refine lv_aload_n hx hb dL_isLit_0 rfl (lv_at hl 0 rfl) ?_
  refine lv_iload_n hx hb dL_isLit_1 rfl (lv_at hl 1 rfl) ?_
  refine lv_iload_n hx hb dL_isLit_2 rfl (lv_at hl 2 rfl) ?_
  refine zx_callVi_ch (As := [.int (iI frm), .int (iI too)]) (rest := []) (L := [zW tA K ad g]) (Lc := [zW tA K ad g]) (Lr := []) (Lc' := fun (u : GL) => [zW tA K ad u]) (Lf := fun (u : GL) => [zW tA K ad u]) (Lx := fun (u : Int × GL) => [zW tA K ad u.2]) (Lfx := fun (u : Int × GL) => [zW tA K ad u.2]) (is := [0]) (isF := [0]) (isX := [0]) ⟨hx, hb, hml, hown, hts⟩ (q_X10_isLit hst hB hok frm too r_frm r_too ) (cwV 2 hts (goodIn_wid gL_isLit_X10_isLit) rfl rfl rfl (by decide +kernel) ⟨Nat.le_of_ble_eq_true rfl, Nat.le_of_ble_eq_true rfl⟩) hK (zP_i hP) (zD_i hD) hS hA hZ (zCut_1 _) (zBack_1 _) (zBack_1 _) (ci := 12) (q0 := 0) rfl rfl (zW_0 tA K ad g) rfl rfl hl.1 (Nat.le_of_ble_eq_true rfl) dL_isLit_3 ⟨Nat.le_of_ble_eq_true rfl, Nat.le_of_ble_eq_true rfl⟩ ?_ ?_
  · intro E ce q9 u H locs hpx hP hD hS hce hcv hcl
    obtain ⟨hex, hrd, hth⟩ := hpx
    rcases hex with ⟨hk, hE⟩ | ⟨hk, hE⟩ | ⟨hk, hE⟩ | ⟨hk, hE⟩ | ⟨hk, hE⟩ | ⟨hk, hE⟩
    · refine zz_catch hZ hown [] ⟨0, 14, 15, 20⟩ [⟨0, 14, 19, 28⟩] htb rfl hE (by decide) (fun z hz => absurd hz List.not_mem_nil) (by decide) (by decide) (hts (.classLink RL 20 "java/lang/IndexOutOfBoundsException") (List.mem_append_right _ (by decide +kernel))) hce hcv hcl ?_
      refine W.eq (g2 := F0 m 15 ls [.ref q9]) rfl ?_
      refine lv_astore_n (lv' := [(3, .ref q9), (0, .ref (ad 0)), (1, .int (iI frm)), (2, .int (iI too))]) hx hb dL_isLit_15 rfl hl (by decide) rfl (fun ls hl => ?_)
      refine zz_bipush hx hb dL_isLit_16 rfl ?_
      have hfin : (fun (z : Int) (g' : GL) => RDO B N g g' ∧ wLit (GL_v g) frm too z) (-11) u.2 := by
        rcases hth with h9 | h9
        · exact ⟨hrd, Or.inl ⟨h9.2, rfl⟩⟩
        · exact absurd hk (by omega)
      exact hret (-11) u.2 H locs _ _ _ _ (Nat.le_of_ble_eq_true rfl) (Nat.le_of_ble_eq_true rfl) dL_isLit_18 hfin (zP_o hP) (zD_o hD) hS
    · exfalso
      first | omega | (have h8 := hth.1; omega) | (rcases hth with h9 | h9 <;> (have h8 := h9.1; omega)) | (rcases hth with h9 | h9 | h9 <;> (have h8 := h9.1; omega)) 
    · exfalso
      first | omega | (have h8 := hth.1; omega) | (rcases hth with h9 | h9 <;> (have h8 := h9.1; omega)) | (rcases hth with h9 | h9 | h9 <;> (have h8 := h9.1; omega)) 
    · refine zz_catch hZ hown [⟨0, 14, 15, 20⟩] ⟨0, 14, 19, 28⟩ [] htb rfl hE (by decide) (List.forall_mem_cons.mpr ⟨⟨by decide, "java/lang/IndexOutOfBoundsException", by decide, by decide, hts (.classLink RL 20 "java/lang/IndexOutOfBoundsException") (List.mem_append_right _ (by decide +kernel))⟩, fun z hz => absurd hz List.not_mem_nil⟩) (by decide) (by decide) (hts (.classLink RL 28 "java/util/NoSuchElementException") (List.mem_append_right _ (by decide +kernel))) hce hcv hcl ?_
      refine W.eq (g2 := F0 m 19 ls [.ref q9]) rfl ?_
      refine lv_astore_n (lv' := [(3, .ref q9), (0, .ref (ad 0)), (1, .int (iI frm)), (2, .int (iI too))]) hx hb dL_isLit_19 rfl hl (by decide) rfl (fun ls hl => ?_)
      refine zz_bipush hx hb dL_isLit_20 rfl ?_
      have hfin : (fun (z : Int) (g' : GL) => RDO B N g g' ∧ wLit (GL_v g) frm too z) (-13) u.2 := by
        rcases hth with h9 | h9
        · exact absurd hk (by omega)
        · exact ⟨hrd, Or.inr ⟨h9.2.1, Or.inl ⟨rfl, h9.2.2⟩⟩⟩
      exact hret (-13) u.2 H locs _ _ _ _ (Nat.le_of_ble_eq_true rfl) (Nat.le_of_ble_eq_true rfl) dL_isLit_22 hfin (zP_o hP) (zD_o hD) hS
    · exfalso
      first | omega | (have h8 := hth.1; omega) | (rcases hth with h9 | h9 <;> (have h8 := h9.1; omega)) | (rcases hth with h9 | h9 | h9 <;> (have h8 := h9.1; omega)) 
    · exfalso
      first | omega | (have h8 := hth.1; omega) | (rcases hth with h9 | h9 <;> (have h8 := h9.1; omega)) | (rcases hth with h9 | h9 | h9 <;> (have h8 := h9.1; omega)) 
  · intro z g2 H locs hp hP hD hS
    have hfin : (fun (z : Int) (g' : GL) => RDO B N g g' ∧ wLit (GL_v g) frm too z) z g2 := by
      exact ⟨hp.1, Or.inr ⟨hp.2.1, Or.inr hp.2.2⟩⟩
    have hz01 : z = 0 ∨ z = 1 := by
      obtain ⟨p9, -, -, -, -, h⟩ := hp.2.2
      omega
    refine zz_if_eq (tgt := 13) hx hb dL_isLit_6 (by decide) (by omega) (fun c9 => ?_) (fun c9 => ?_)
    · have hz9 : z = 0 := by omega
      subst hz9
      refine zz_iconst hx hb dL_isLit_13 ?_
      exact hret 0 g2 H locs _ _ _ _ (Nat.le_of_ble_eq_true rfl) (Nat.le_of_ble_eq_true rfl) dL_isLit_14 hfin (zP_o hP) (zD_o hD) hS
    · have hz9 : z = 1 := by omega
      subst hz9
      refine zz_iconst hx hb dL_isLit_9 ?_
      refine lv_goto (tgt := 14) hx hb dL_isLit_10 (by decide) ?_
      exact hret 1 g2 H locs _ _ _ _ (Nat.le_of_ble_eq_true rfl) (Nat.le_of_ble_eq_true rfl) dL_isLit_14 hfin (zP_o hP) (zD_o hD) hS
set_option maxHeartbeats 4000000 in
set_option maxRecDepth 20000 in
theorem q_L_lower {l : Launch} (hst : l.stackTraces = false) {K : Nat → Nat} {D : va_G} {tA : Nat → ClassId} {ad : Nat → Nat} {sz : Nat} {B N : Int} {g : GL} (hB : (0 ≤ B ∧ B ≤ 100000000) ∧ (0 ≤ N ∧ N ≤ 100000)) (hok : OKG B N g) (pos : Int) (r_pos : -2147483648 ≤ pos ∧ pos ≤ 2147483647)  : zHi l yL_lower (wsL_lower ++ xL) ({ frames := 8, cells := 1, slots := 6, locals := 132 }) K D tA [.ref (ad 0), .int (iI pos)] (zW tA K ad g) sz (fun (z : Int) (g' : GL) => RDO B N g g' ∧ wPos 2 (GL_v g) pos z) (fun g' => zW tA K ad g') 1 6 := by
  refine zHi_of (cc := cL_lower) (maxL := 3) (hh := [(0, 5, 6, 20)]) (by decide) rfl (fun z u h => rfl) (Nat.le_of_ble_eq_true rfl) ?_
  intro p e s m args below meth c A Q ls hx hb hml hts hown hK hP hD hA hZ htb hret hl
  obtain ⟨H, hHe⟩ : ∃ H : Heap, H = s.heap := ⟨_, rfl⟩
  have hS : va_S A s.heap H [] := by rw [hHe]; exact va_S.rf
  rw [← hHe] at hP ⊢
  have hl : lv_has ls 3 [(0, .ref (ad 0)), (1, .int (iI pos))] := hl
  refine lv_aload_n hx hb dL_lower_0 rfl (lv_at hl 0 rfl) ?_
  refine lv_iload_n hx hb dL_lower_1 rfl (lv_at hl 1 rfl) ?_
  refine zx_callVi_ch (As := [.int (iI pos)]) (rest := []) (L := [zW tA K ad g]) (Lc := [zW tA K ad g]) (Lr := []) (Lc' := fun (u : GL) => [zW tA K ad u]) (Lf := fun (u : GL) => [zW tA K ad u]) (Lx := fun (u : Int × GL) => [zW tA K ad u.2]) (Lfx := fun (u : Int × GL) => [zW tA K ad u.2]) (is := [0]) (isF := [0]) (isX := [0]) ⟨hx, hb, hml, hown, hts⟩ (q_X10_lowerPortAt hst hB hok pos r_pos ) (cwV 1 hts (goodIn_wid gL_lower_X10_lowerPortAt) rfl rfl rfl (by decide +kernel) ⟨Nat.le_of_ble_eq_true rfl, Nat.le_of_ble_eq_true rfl⟩) hK (zP_i hP) (zD_i hD) hS hA hZ (zCut_1 _) (zBack_1 _) (zBack_1 _) (ci := 12) (q0 := 0) rfl rfl (zW_0 tA K ad g) rfl rfl hl.1 (Nat.le_of_ble_eq_true rfl) dL_lower_2 ⟨Nat.le_of_ble_eq_true rfl, Nat.le_of_ble_eq_true rfl⟩ ?_ ?_
  · intro E ce q9 u H locs hpx hP hD hS hce hcv hcl
    obtain ⟨hex, hrd, hth⟩ := hpx
    rcases hex with ⟨hk, hE⟩ | ⟨hk, hE⟩ | ⟨hk, hE⟩ | ⟨hk, hE⟩ | ⟨hk, hE⟩ | ⟨hk, hE⟩
    · refine zz_catch hZ hown [] ⟨0, 5, 6, 20⟩ [] htb rfl hE (by decide) (fun z hz => absurd hz List.not_mem_nil) (by decide) (by decide) (hts (.classLink RL 20 "java/lang/IndexOutOfBoundsException") (List.mem_append_right _ (by decide +kernel))) hce hcv hcl ?_
      refine W.eq (g2 := F0 m 6 ls [.ref q9]) rfl ?_
      refine lv_astore_n (lv' := [(2, .ref q9), (0, .ref (ad 0)), (1, .int (iI pos))]) hx hb dL_lower_6 rfl hl (by decide) rfl (fun ls hl => ?_)
      refine zz_bipush hx hb dL_lower_7 rfl ?_
      have hfin : (fun (z : Int) (g' : GL) => RDO B N g g' ∧ wPos 2 (GL_v g) pos z) (-11) u.2 := by
        exact ⟨hrd, Or.inl ⟨hth.2, rfl⟩⟩
      exact hret (-11) u.2 H locs _ _ _ _ (Nat.le_of_ble_eq_true rfl) (Nat.le_of_ble_eq_true rfl) dL_lower_9 hfin (zP_o hP) (zD_o hD) hS
    · exfalso
      first | omega | (have h8 := hth.1; omega) | (rcases hth with h9 | h9 <;> (have h8 := h9.1; omega)) | (rcases hth with h9 | h9 | h9 <;> (have h8 := h9.1; omega)) 
    · exfalso
      first | omega | (have h8 := hth.1; omega) | (rcases hth with h9 | h9 <;> (have h8 := h9.1; omega)) | (rcases hth with h9 | h9 | h9 <;> (have h8 := h9.1; omega)) 
    · exfalso
      first | omega | (have h8 := hth.1; omega) | (rcases hth with h9 | h9 <;> (have h8 := h9.1; omega)) | (rcases hth with h9 | h9 | h9 <;> (have h8 := h9.1; omega)) 
    · exfalso
      first | omega | (have h8 := hth.1; omega) | (rcases hth with h9 | h9 <;> (have h8 := h9.1; omega)) | (rcases hth with h9 | h9 | h9 <;> (have h8 := h9.1; omega)) 
    · exfalso
      first | omega | (have h8 := hth.1; omega) | (rcases hth with h9 | h9 <;> (have h8 := h9.1; omega)) | (rcases hth with h9 | h9 | h9 <;> (have h8 := h9.1; omega)) 
  · intro z g2 H locs hp hP hD hS
    have hfin : (fun (z : Int) (g' : GL) => RDO B N g g' ∧ wPos 2 (GL_v g) pos z) z g2 := by
      exact ⟨hp.1, Or.inr ⟨⟨hp.2.1, hp.2.2.1⟩, hp.2.2.2⟩⟩
    exact hret z g2 H locs _ _ _ _ (Nat.le_of_ble_eq_true rfl) (Nat.le_of_ble_eq_true rfl) dL_lower_5 hfin (zP_o hP) (zD_o hD) hS
set_option maxHeartbeats 4000000 in
set_option maxRecDepth 20000 in
theorem q_L_upper {l : Launch} (hst : l.stackTraces = false) {K : Nat → Nat} {D : va_G} {tA : Nat → ClassId} {ad : Nat → Nat} {sz : Nat} {B N : Int} {g : GL} (hB : (0 ≤ B ∧ B ≤ 100000000) ∧ (0 ≤ N ∧ N ≤ 100000)) (hok : OKG B N g) (pos : Int) (r_pos : -2147483648 ≤ pos ∧ pos ≤ 2147483647)  : zHi l yL_upper (wsL_upper ++ xL) ({ frames := 8, cells := 1, slots := 6, locals := 132 }) K D tA [.ref (ad 0), .int (iI pos)] (zW tA K ad g) sz (fun (z : Int) (g' : GL) => RDO B N g g' ∧ wPos 3 (GL_v g) pos z) (fun g' => zW tA K ad g') 1 6 := by
  refine zHi_of (cc := cL_upper) (maxL := 3) (hh := [(0, 5, 6, 20)]) (by decide) rfl (fun z u h => rfl) (Nat.le_of_ble_eq_true rfl) ?_
  intro p e s m args below meth c A Q ls hx hb hml hts hown hK hP hD hA hZ htb hret hl
  obtain ⟨H, hHe⟩ : ∃ H : Heap, H = s.heap := ⟨_, rfl⟩
  have hS : va_S A s.heap H [] := by rw [hHe]; exact va_S.rf
  rw [← hHe] at hP ⊢
  have hl : lv_has ls 3 [(0, .ref (ad 0)), (1, .int (iI pos))] := hl
  refine lv_aload_n hx hb dL_upper_0 rfl (lv_at hl 0 rfl) ?_
  refine lv_iload_n hx hb dL_upper_1 rfl (lv_at hl 1 rfl) ?_
  refine zx_callVi_ch (As := [.int (iI pos)]) (rest := []) (L := [zW tA K ad g]) (Lc := [zW tA K ad g]) (Lr := []) (Lc' := fun (u : GL) => [zW tA K ad u]) (Lf := fun (u : GL) => [zW tA K ad u]) (Lx := fun (u : Int × GL) => [zW tA K ad u.2]) (Lfx := fun (u : Int × GL) => [zW tA K ad u.2]) (is := [0]) (isF := [0]) (isX := [0]) ⟨hx, hb, hml, hown, hts⟩ (q_X10_upperPortAt hst hB hok pos r_pos ) (cwV 1 hts (goodIn_wid gL_upper_X10_upperPortAt) rfl rfl rfl (by decide +kernel) ⟨Nat.le_of_ble_eq_true rfl, Nat.le_of_ble_eq_true rfl⟩) hK (zP_i hP) (zD_i hD) hS hA hZ (zCut_1 _) (zBack_1 _) (zBack_1 _) (ci := 12) (q0 := 0) rfl rfl (zW_0 tA K ad g) rfl rfl hl.1 (Nat.le_of_ble_eq_true rfl) dL_upper_2 ⟨Nat.le_of_ble_eq_true rfl, Nat.le_of_ble_eq_true rfl⟩ ?_ ?_
  · intro E ce q9 u H locs hpx hP hD hS hce hcv hcl
    obtain ⟨hex, hrd, hth⟩ := hpx
    rcases hex with ⟨hk, hE⟩ | ⟨hk, hE⟩ | ⟨hk, hE⟩ | ⟨hk, hE⟩ | ⟨hk, hE⟩ | ⟨hk, hE⟩
    · refine zz_catch hZ hown [] ⟨0, 5, 6, 20⟩ [] htb rfl hE (by decide) (fun z hz => absurd hz List.not_mem_nil) (by decide) (by decide) (hts (.classLink RL 20 "java/lang/IndexOutOfBoundsException") (List.mem_append_right _ (by decide +kernel))) hce hcv hcl ?_
      refine W.eq (g2 := F0 m 6 ls [.ref q9]) rfl ?_
      refine lv_astore_n (lv' := [(2, .ref q9), (0, .ref (ad 0)), (1, .int (iI pos))]) hx hb dL_upper_6 rfl hl (by decide) rfl (fun ls hl => ?_)
      refine zz_bipush hx hb dL_upper_7 rfl ?_
      have hfin : (fun (z : Int) (g' : GL) => RDO B N g g' ∧ wPos 3 (GL_v g) pos z) (-11) u.2 := by
        exact ⟨hrd, Or.inl ⟨hth.2, rfl⟩⟩
      exact hret (-11) u.2 H locs _ _ _ _ (Nat.le_of_ble_eq_true rfl) (Nat.le_of_ble_eq_true rfl) dL_upper_9 hfin (zP_o hP) (zD_o hD) hS
    · exfalso
      first | omega | (have h8 := hth.1; omega) | (rcases hth with h9 | h9 <;> (have h8 := h9.1; omega)) | (rcases hth with h9 | h9 | h9 <;> (have h8 := h9.1; omega)) 
    · exfalso
      first | omega | (have h8 := hth.1; omega) | (rcases hth with h9 | h9 <;> (have h8 := h9.1; omega)) | (rcases hth with h9 | h9 | h9 <;> (have h8 := h9.1; omega)) 
    · exfalso
      first | omega | (have h8 := hth.1; omega) | (rcases hth with h9 | h9 <;> (have h8 := h9.1; omega)) | (rcases hth with h9 | h9 | h9 <;> (have h8 := h9.1; omega)) 
    · exfalso
      first | omega | (have h8 := hth.1; omega) | (rcases hth with h9 | h9 <;> (have h8 := h9.1; omega)) | (rcases hth with h9 | h9 | h9 <;> (have h8 := h9.1; omega)) 
    · exfalso
      first | omega | (have h8 := hth.1; omega) | (rcases hth with h9 | h9 <;> (have h8 := h9.1; omega)) | (rcases hth with h9 | h9 | h9 <;> (have h8 := h9.1; omega)) 
  · intro z g2 H locs hp hP hD hS
    have hfin : (fun (z : Int) (g' : GL) => RDO B N g g' ∧ wPos 3 (GL_v g) pos z) z g2 := by
      exact ⟨hp.1, Or.inr ⟨⟨hp.2.1, hp.2.2.1⟩, hp.2.2.2⟩⟩
    exact hret z g2 H locs _ _ _ _ (Nat.le_of_ble_eq_true rfl) (Nat.le_of_ble_eq_true rfl) dL_upper_5 hfin (zP_o hP) (zD_o hD) hS
set_option maxHeartbeats 4000000 in
set_option maxRecDepth 20000 in
theorem q_L_distance {l : Launch} (hst : l.stackTraces = false) {K : Nat → Nat} {D : va_G} {tA : Nat → ClassId} {ad : Nat → Nat} {sz : Nat} {B N : Int} {g : GL} (hB : (0 ≤ B ∧ B ≤ 100000000) ∧ (0 ≤ N ∧ N ≤ 100000)) (hok : OKG B N g) (frm : Int) (too : Int) (r_frm : -2147483648 ≤ frm ∧ frm ≤ 2147483647) (r_too : -2147483648 ≤ too ∧ too ≤ 2147483647)  : zHi l yL_distance (wsL_distance ++ xL) ({ frames := 8, cells := 2, slots := 12, locals := 134 }) K D tA [.ref (ad 0), .int (iI frm), .int (iI too)] (zW tA K ad g) sz (fun (z : Int) (g' : GL) => RDO B N g g' ∧ wDist 20 (GL_v g) frm too z) (fun g' => zW tA K ad g') 2 12 := by
  refine zHi_of (cc := cL_distance) (maxL := 4) (hh := [(0, 6, 7, 20), (0, 6, 11, 28)]) (by decide) rfl (fun z u h => rfl) (Nat.le_of_ble_eq_true rfl) ?_
  intro p e s m args below meth c A Q ls hx hb hml hts hown hK hP hD hA hZ htb hret hl
  obtain ⟨H, hHe⟩ : ∃ H : Heap, H = s.heap := ⟨_, rfl⟩
  have hS : va_S A s.heap H [] := by rw [hHe]; exact va_S.rf
  rw [← hHe] at hP ⊢
  have hl : lv_has ls 4 [(0, .ref (ad 0)), (1, .int (iI frm)), (2, .int (iI too))] := hl
  refine lv_aload_n hx hb dL_distance_0 rfl (lv_at hl 0 rfl) ?_
  refine lv_iload_n hx hb dL_distance_1 rfl (lv_at hl 1 rfl) ?_
  refine lv_iload_n hx hb dL_distance_2 rfl (lv_at hl 2 rfl) ?_
  refine zx_callVi_ch (As := [.int (iI frm), .int (iI too)]) (rest := []) (L := [zW tA K ad g]) (Lc := [zW tA K ad g]) (Lr := []) (Lc' := fun (u : GL) => [zW tA K ad u]) (Lf := fun (u : GL) => [zW tA K ad u]) (Lx := fun (u : Int × GL) => [zW tA K ad u.2]) (Lfx := fun (u : Int × GL) => [zW tA K ad u.2]) (is := [0]) (isF := [0]) (isX := [0]) ⟨hx, hb, hml, hown, hts⟩ (q_X10_distance hst hB hok frm too r_frm r_too ) (cwV 2 hts (goodIn_wid gL_distance_X10_distance) rfl rfl rfl (by decide +kernel) ⟨Nat.le_of_ble_eq_true rfl, Nat.le_of_ble_eq_true rfl⟩) hK (zP_i hP) (zD_i hD) hS hA hZ (zCut_1 _) (zBack_1 _) (zBack_1 _) (ci := 12) (q0 := 0) rfl rfl (zW_0 tA K ad g) rfl rfl hl.1 (Nat.le_of_ble_eq_true rfl) dL_distance_3 ⟨Nat.le_of_ble_eq_true rfl, Nat.le_of_ble_eq_true rfl⟩ ?_ ?_
  · intro E ce q9 u H locs hpx hP hD hS hce hcv hcl
    obtain ⟨hex, hrd, hth⟩ := hpx
    rcases hex with ⟨hk, hE⟩ | ⟨hk, hE⟩ | ⟨hk, hE⟩ | ⟨hk, hE⟩ | ⟨hk, hE⟩ | ⟨hk, hE⟩
    · refine zz_catch hZ hown [] ⟨0, 6, 7, 20⟩ [⟨0, 6, 11, 28⟩] htb rfl hE (by decide) (fun z hz => absurd hz List.not_mem_nil) (by decide) (by decide) (hts (.classLink RL 20 "java/lang/IndexOutOfBoundsException") (List.mem_append_right _ (by decide +kernel))) hce hcv hcl ?_
      refine W.eq (g2 := F0 m 7 ls [.ref q9]) rfl ?_
      refine lv_astore_n (lv' := [(3, .ref q9), (0, .ref (ad 0)), (1, .int (iI frm)), (2, .int (iI too))]) hx hb dL_distance_7 rfl hl (by decide) rfl (fun ls hl => ?_)
      refine zz_bipush hx hb dL_distance_8 rfl ?_
      have hfin : (fun (z : Int) (g' : GL) => RDO B N g g' ∧ wDist 20 (GL_v g) frm too z) (-11) u.2 := by
        rcases hth with h9 | h9
        · exact ⟨hrd, Or.inl ⟨h9.2, rfl⟩⟩
        · exact absurd hk (by omega)
      exact hret (-11) u.2 H locs _ _ _ _ (Nat.le_of_ble_eq_true rfl) (Nat.le_of_ble_eq_true rfl) dL_distance_10 hfin (zP_o hP) (zD_o hD) hS
    · exfalso
      first | omega | (have h8 := hth.1; omega) | (rcases hth with h9 | h9 <;> (have h8 := h9.1; omega)) | (rcases hth with h9 | h9 | h9 <;> (have h8 := h9.1; omega)) 
    · exfalso
      first | omega | (have h8 := hth.1; omega) | (rcases hth with h9 | h9 <;> (have h8 := h9.1; omega)) | (rcases hth with h9 | h9 | h9 <;> (have h8 := h9.1; omega)) 
    · refine zz_catch hZ hown [⟨0, 6, 7, 20⟩] ⟨0, 6, 11, 28⟩ [] htb rfl hE (by decide) (List.forall_mem_cons.mpr ⟨⟨by decide, "java/lang/IndexOutOfBoundsException", by decide, by decide, hts (.classLink RL 20 "java/lang/IndexOutOfBoundsException") (List.mem_append_right _ (by decide +kernel))⟩, fun z hz => absurd hz List.not_mem_nil⟩) (by decide) (by decide) (hts (.classLink RL 28 "java/util/NoSuchElementException") (List.mem_append_right _ (by decide +kernel))) hce hcv hcl ?_
      refine W.eq (g2 := F0 m 11 ls [.ref q9]) rfl ?_
      refine lv_astore_n (lv' := [(3, .ref q9), (0, .ref (ad 0)), (1, .int (iI frm)), (2, .int (iI too))]) hx hb dL_distance_11 rfl hl (by decide) rfl (fun ls hl => ?_)
      refine zz_bipush hx hb dL_distance_12 rfl ?_
      have hfin : (fun (z : Int) (g' : GL) => RDO B N g g' ∧ wDist 20 (GL_v g) frm too z) (-13) u.2 := by
        rcases hth with h9 | h9
        · exact absurd hk (by omega)
        · exact ⟨hrd, Or.inr ⟨h9.2.1, Or.inl ⟨rfl, h9.2.2⟩⟩⟩
      exact hret (-13) u.2 H locs _ _ _ _ (Nat.le_of_ble_eq_true rfl) (Nat.le_of_ble_eq_true rfl) dL_distance_14 hfin (zP_o hP) (zD_o hD) hS
    · exfalso
      first | omega | (have h8 := hth.1; omega) | (rcases hth with h9 | h9 <;> (have h8 := h9.1; omega)) | (rcases hth with h9 | h9 | h9 <;> (have h8 := h9.1; omega)) 
    · exfalso
      first | omega | (have h8 := hth.1; omega) | (rcases hth with h9 | h9 <;> (have h8 := h9.1; omega)) | (rcases hth with h9 | h9 | h9 <;> (have h8 := h9.1; omega)) 
  · intro z g2 H locs hp hP hD hS
    have hfin : (fun (z : Int) (g' : GL) => RDO B N g g' ∧ wDist 20 (GL_v g) frm too z) z g2 := by
      exact ⟨hp.1, Or.inr ⟨hp.2.1, Or.inr hp.2.2⟩⟩
    exact hret z g2 H locs _ _ _ _ (Nat.le_of_ble_eq_true rfl) (Nat.le_of_ble_eq_true rfl) dL_distance_6 hfin (zP_o hP) (zD_o hD) hS
set_option maxHeartbeats 4000000 in
set_option maxRecDepth 20000 in
theorem q_L_byRounds {l : Launch} (hst : l.stackTraces = false) {K : Nat → Nat} {D : va_G} {tA : Nat → ClassId} {ad : Nat → Nat} {sz : Nat} {B N : Int} {g : GL} (hB : (0 ≤ B ∧ B ≤ 100000000) ∧ (0 ≤ N ∧ N ≤ 100000)) (hok : OKG B N g) (frm : Int) (too : Int) (r_frm : -2147483648 ≤ frm ∧ frm ≤ 2147483647) (r_too : -2147483648 ≤ too ∧ too ≤ 2147483647)  : zHi l yL_byRounds (wsL_byRounds ++ xL) ({ frames := 8, cells := 2, slots := 12, locals := 134 }) K D tA [.ref (ad 0), .int (iI frm), .int (iI too)] (zW tA K ad g) sz (fun (z : Int) (g' : GL) => RDO B N g g' ∧ wDist 20 (GL_v g) frm too z) (fun g' => zW tA K ad g') 2 12 := by
  refine zHi_of (cc := cL_byRounds) (maxL := 4) (hh := [(0, 6, 7, 20), (0, 6, 11, 28)]) (by decide) rfl (fun z u h => rfl) (Nat.le_of_ble_eq_true rfl) ?_
  intro p e s m args below meth c A Q ls hx hb hml hts hown hK hP hD hA hZ htb hret hl
  obtain ⟨H, hHe⟩ : ∃ H : Heap, H = s.heap := ⟨_, rfl⟩
  have hS : va_S A s.heap H [] := by rw [hHe]; exact va_S.rf
  rw [← hHe] at hP ⊢
  have hl : lv_has ls 4 [(0, .ref (ad 0)), (1, .int (iI frm)), (2, .int (iI too))] := hl
  refine lv_aload_n hx hb dL_byRounds_0 rfl (lv_at hl 0 rfl) ?_
  refine lv_iload_n hx hb dL_byRounds_1 rfl (lv_at hl 1 rfl) ?_
  refine lv_iload_n hx hb dL_byRounds_2 rfl (lv_at hl 2 rfl) ?_
  refine zx_callVi_ch (As := [.int (iI frm), .int (iI too)]) (rest := []) (L := [zW tA K ad g]) (Lc := [zW tA K ad g]) (Lr := []) (Lc' := fun (u : GL) => [zW tA K ad u]) (Lf := fun (u : GL) => [zW tA K ad u]) (Lx := fun (u : Int × GL) => [zW tA K ad u.2]) (Lfx := fun (u : Int × GL) => [zW tA K ad u.2]) (is := [0]) (isF := [0]) (isX := [0]) ⟨hx, hb, hml, hown, hts⟩ (q_X10_distanceByRounds hst hB hok frm too r_frm r_too ) (cwV 2 hts (goodIn_wid gL_byRounds_X10_distanceByRounds) rfl rfl rfl (by decide +kernel) ⟨Nat.le_of_ble_eq_true rfl, Nat.le_of_ble_eq_true rfl⟩) hK (zP_i hP) (zD_i hD) hS hA hZ (zCut_1 _) (zBack_1 _) (zBack_1 _) (ci := 12) (q0 := 0) rfl rfl (zW_0 tA K ad g) rfl rfl hl.1 (Nat.le_of_ble_eq_true rfl) dL_byRounds_3 ⟨Nat.le_of_ble_eq_true rfl, Nat.le_of_ble_eq_true rfl⟩ ?_ ?_
  · intro E ce q9 u H locs hpx hP hD hS hce hcv hcl
    obtain ⟨hex, hrd, hth⟩ := hpx
    rcases hex with ⟨hk, hE⟩ | ⟨hk, hE⟩ | ⟨hk, hE⟩ | ⟨hk, hE⟩ | ⟨hk, hE⟩ | ⟨hk, hE⟩
    · refine zz_catch hZ hown [] ⟨0, 6, 7, 20⟩ [⟨0, 6, 11, 28⟩] htb rfl hE (by decide) (fun z hz => absurd hz List.not_mem_nil) (by decide) (by decide) (hts (.classLink RL 20 "java/lang/IndexOutOfBoundsException") (List.mem_append_right _ (by decide +kernel))) hce hcv hcl ?_
      refine W.eq (g2 := F0 m 7 ls [.ref q9]) rfl ?_
      refine lv_astore_n (lv' := [(3, .ref q9), (0, .ref (ad 0)), (1, .int (iI frm)), (2, .int (iI too))]) hx hb dL_byRounds_7 rfl hl (by decide) rfl (fun ls hl => ?_)
      refine zz_bipush hx hb dL_byRounds_8 rfl ?_
      have hfin : (fun (z : Int) (g' : GL) => RDO B N g g' ∧ wDist 20 (GL_v g) frm too z) (-11) u.2 := by
        rcases hth with h9 | h9
        · exact ⟨hrd, Or.inl ⟨h9.2, rfl⟩⟩
        · exact absurd hk (by omega)
      exact hret (-11) u.2 H locs _ _ _ _ (Nat.le_of_ble_eq_true rfl) (Nat.le_of_ble_eq_true rfl) dL_byRounds_10 hfin (zP_o hP) (zD_o hD) hS
    · exfalso
      first | omega | (have h8 := hth.1; omega) | (rcases hth with h9 | h9 <;> (have h8 := h9.1; omega)) | (rcases hth with h9 | h9 | h9 <;> (have h8 := h9.1; omega)) 
    · exfalso
      first | omega | (have h8 := hth.1; omega) | (rcases hth with h9 | h9 <;> (have h8 := h9.1; omega)) | (rcases hth with h9 | h9 | h9 <;> (have h8 := h9.1; omega)) 
    · refine zz_catch hZ hown [⟨0, 6, 7, 20⟩] ⟨0, 6, 11, 28⟩ [] htb rfl hE (by decide) (List.forall_mem_cons.mpr ⟨⟨by decide, "java/lang/IndexOutOfBoundsException", by decide, by decide, hts (.classLink RL 20 "java/lang/IndexOutOfBoundsException") (List.mem_append_right _ (by decide +kernel))⟩, fun z hz => absurd hz List.not_mem_nil⟩) (by decide) (by decide) (hts (.classLink RL 28 "java/util/NoSuchElementException") (List.mem_append_right _ (by decide +kernel))) hce hcv hcl ?_
      refine W.eq (g2 := F0 m 11 ls [.ref q9]) rfl ?_
      refine lv_astore_n (lv' := [(3, .ref q9), (0, .ref (ad 0)), (1, .int (iI frm)), (2, .int (iI too))]) hx hb dL_byRounds_11 rfl hl (by decide) rfl (fun ls hl => ?_)
      refine zz_bipush hx hb dL_byRounds_12 rfl ?_
      have hfin : (fun (z : Int) (g' : GL) => RDO B N g g' ∧ wDist 20 (GL_v g) frm too z) (-13) u.2 := by
        rcases hth with h9 | h9
        · exact absurd hk (by omega)
        · exact ⟨hrd, Or.inr ⟨h9.2.1, Or.inl ⟨rfl, h9.2.2⟩⟩⟩
      exact hret (-13) u.2 H locs _ _ _ _ (Nat.le_of_ble_eq_true rfl) (Nat.le_of_ble_eq_true rfl) dL_byRounds_14 hfin (zP_o hP) (zD_o hD) hS
    · exfalso
      first | omega | (have h8 := hth.1; omega) | (rcases hth with h9 | h9 <;> (have h8 := h9.1; omega)) | (rcases hth with h9 | h9 | h9 <;> (have h8 := h9.1; omega)) 
    · exfalso
      first | omega | (have h8 := hth.1; omega) | (rcases hth with h9 | h9 <;> (have h8 := h9.1; omega)) | (rcases hth with h9 | h9 | h9 <;> (have h8 := h9.1; omega)) 
  · intro z g2 H locs hp hP hD hS
    have hfin : (fun (z : Int) (g' : GL) => RDO B N g g' ∧ wDist 20 (GL_v g) frm too z) z g2 := by
      exact ⟨hp.1, Or.inr ⟨hp.2.1, Or.inr hp.2.2⟩⟩
    exact hret z g2 H locs _ _ _ _ (Nat.le_of_ble_eq_true rfl) (Nat.le_of_ble_eq_true rfl) dL_byRounds_6 hfin (zP_o hP) (zD_o hD) hS
set_option maxHeartbeats 4000000 in
set_option maxRecDepth 20000 in
theorem q_L_litDistance {l : Launch} (hst : l.stackTraces = false) {K : Nat → Nat} {D : va_G} {tA : Nat → ClassId} {ad : Nat → Nat} {sz : Nat} {B N : Int} {g : GL} (hB : (0 ≤ B ∧ B ≤ 100000000) ∧ (0 ≤ N ∧ N ≤ 100000)) (hok : OKG B N g) (frm : Int) (too : Int) (r_frm : -2147483648 ≤ frm ∧ frm ≤ 2147483647) (r_too : -2147483648 ≤ too ∧ too ≤ 2147483647)  : zHi l yL_litDistance (wsL_litDistance ++ xL) ({ frames := 8, cells := 2, slots := 12, locals := 134 }) K D tA [.ref (ad 0), .int (iI frm), .int (iI too)] (zW tA K ad g) sz (fun (z : Int) (g' : GL) => RDO B N g g' ∧ wDist (GL_v g 13 0) (GL_v g) frm too z) (fun g' => zW tA K ad g') 2 12 := by
  refine zHi_of (cc := cL_litDistance) (maxL := 4) (hh := [(0, 6, 7, 20), (0, 6, 11, 28)]) (by decide) rfl (fun z u h => rfl) (Nat.le_of_ble_eq_true rfl) ?_
  intro p e s m args below meth c A Q ls hx hb hml hts hown hK hP hD hA hZ htb hret hl
  obtain ⟨H, hHe⟩ : ∃ H : Heap, H = s.heap := ⟨_, rfl⟩
  have hS : va_S A s.heap H [] := by rw [hHe]; exact va_S.rf
  rw [← hHe] at hP ⊢
  have hl : lv_has ls 4 [(0, .ref (ad 0)), (1, .int (iI frm)), (2, .int (iI too))] := hl
  refine lv_aload_n hx hb dL_litDistance_0 rfl (lv_at hl 0 rfl) ?_
  refine lv_iload_n hx hb dL_litDistance_1 rfl (lv_at hl 1 rfl) ?_
  refine lv_iload_n hx hb dL_litDistance_2 rfl (lv_at hl 2 rfl) ?_
  refine zx_callVi_ch (As := [.int (iI frm), .int (iI too)]) (rest := []) (L := [zW tA K ad g]) (Lc := [zW tA K ad g]) (Lr := []) (Lc' := fun (u : GL) => [zW tA K ad u]) (Lf := fun (u : GL) => [zW tA K ad u]) (Lx := fun (u : Int × GL) => [zW tA K ad u.2]) (Lfx := fun (u : Int × GL) => [zW tA K ad u.2]) (is := [0]) (isF := [0]) (isX := [0]) ⟨hx, hb, hml, hown, hts⟩ (q_X10_litDistance hst hB hok frm too r_frm r_too ) (cwV 2 hts (goodIn_wid gL_litDistance_X10_litDistance) rfl rfl rfl (by decide +kernel) ⟨Nat.le_of_ble_eq_true rfl, Nat.le_of_ble_eq_true rfl⟩) hK (zP_i hP) (zD_i hD) hS hA hZ (zCut_1 _) (zBack_1 _) (zBack_1 _) (ci := 12) (q0 := 0) rfl rfl (zW_0 tA K ad g) rfl rfl hl.1 (Nat.le_of_ble_eq_true rfl) dL_litDistance_3 ⟨Nat.le_of_ble_eq_true rfl, Nat.le_of_ble_eq_true rfl⟩ ?_ ?_
  · intro E ce q9 u H locs hpx hP hD hS hce hcv hcl
    obtain ⟨hex, hrd, hth⟩ := hpx
    rcases hex with ⟨hk, hE⟩ | ⟨hk, hE⟩ | ⟨hk, hE⟩ | ⟨hk, hE⟩ | ⟨hk, hE⟩ | ⟨hk, hE⟩
    · refine zz_catch hZ hown [] ⟨0, 6, 7, 20⟩ [⟨0, 6, 11, 28⟩] htb rfl hE (by decide) (fun z hz => absurd hz List.not_mem_nil) (by decide) (by decide) (hts (.classLink RL 20 "java/lang/IndexOutOfBoundsException") (List.mem_append_right _ (by decide +kernel))) hce hcv hcl ?_
      refine W.eq (g2 := F0 m 7 ls [.ref q9]) rfl ?_
      refine lv_astore_n (lv' := [(3, .ref q9), (0, .ref (ad 0)), (1, .int (iI frm)), (2, .int (iI too))]) hx hb dL_litDistance_7 rfl hl (by decide) rfl (fun ls hl => ?_)
      refine zz_bipush hx hb dL_litDistance_8 rfl ?_
      have hfin : (fun (z : Int) (g' : GL) => RDO B N g g' ∧ wDist (GL_v g 13 0) (GL_v g) frm too z) (-11) u.2 := by
        rcases hth with h9 | h9
        · exact ⟨hrd, Or.inl ⟨h9.2, rfl⟩⟩
        · exact absurd hk (by omega)
      exact hret (-11) u.2 H locs _ _ _ _ (Nat.le_of_ble_eq_true rfl) (Nat.le_of_ble_eq_true rfl) dL_litDistance_10 hfin (zP_o hP) (zD_o hD) hS
    · exfalso
      first | omega | (have h8 := hth.1; omega) | (rcases hth with h9 | h9 <;> (have h8 := h9.1; omega)) | (rcases hth with h9 | h9 | h9 <;> (have h8 := h9.1; omega)) 
    · exfalso
      first | omega | (have h8 := hth.1; omega) | (rcases hth with h9 | h9 <;> (have h8 := h9.1; omega)) | (rcases hth with h9 | h9 | h9 <;> (have h8 := h9.1; omega)) 
    · refine zz_catch hZ hown [⟨0, 6, 7, 20⟩] ⟨0, 6, 11, 28⟩ [] htb rfl hE (by decide) (List.forall_mem_cons.mpr ⟨⟨by decide, "java/lang/IndexOutOfBoundsException", by decide, by decide, hts (.classLink RL 20 "java/lang/IndexOutOfBoundsException") (List.mem_append_right _ (by decide +kernel))⟩, fun z hz => absurd hz List.not_mem_nil⟩) (by decide) (by decide) (hts (.classLink RL 28 "java/util/NoSuchElementException") (List.mem_append_right _ (by decide +kernel))) hce hcv hcl ?_
      refine W.eq (g2 := F0 m 11 ls [.ref q9]) rfl ?_
      refine lv_astore_n (lv' := [(3, .ref q9), (0, .ref (ad 0)), (1, .int (iI frm)), (2, .int (iI too))]) hx hb dL_litDistance_11 rfl hl (by decide) rfl (fun ls hl => ?_)
      refine zz_bipush hx hb dL_litDistance_12 rfl ?_
      have hfin : (fun (z : Int) (g' : GL) => RDO B N g g' ∧ wDist (GL_v g 13 0) (GL_v g) frm too z) (-13) u.2 := by
        rcases hth with h9 | h9
        · exact absurd hk (by omega)
        · exact ⟨hrd, Or.inr ⟨h9.2.1, Or.inl ⟨rfl, h9.2.2⟩⟩⟩
      exact hret (-13) u.2 H locs _ _ _ _ (Nat.le_of_ble_eq_true rfl) (Nat.le_of_ble_eq_true rfl) dL_litDistance_14 hfin (zP_o hP) (zD_o hD) hS
    · exfalso
      first | omega | (have h8 := hth.1; omega) | (rcases hth with h9 | h9 <;> (have h8 := h9.1; omega)) | (rcases hth with h9 | h9 | h9 <;> (have h8 := h9.1; omega)) 
    · exfalso
      first | omega | (have h8 := hth.1; omega) | (rcases hth with h9 | h9 <;> (have h8 := h9.1; omega)) | (rcases hth with h9 | h9 | h9 <;> (have h8 := h9.1; omega)) 
  · intro z g2 H locs hp hP hD hS
    have hfin : (fun (z : Int) (g' : GL) => RDO B N g g' ∧ wDist (GL_v g 13 0) (GL_v g) frm too z) z g2 := by
      exact ⟨hp.1, Or.inr ⟨hp.2.1, Or.inr hp.2.2⟩⟩
    exact hret z g2 H locs _ _ _ _ (Nat.le_of_ble_eq_true rfl) (Nat.le_of_ble_eq_true rfl) dL_litDistance_6 hfin (zP_o hP) (zD_o hD) hS
set_option maxHeartbeats 4000000 in
set_option maxRecDepth 20000 in
theorem q_L_needed {l : Launch} (hst : l.stackTraces = false) {K : Nat → Nat} {D : va_G} {tA : Nat → ClassId} {ad : Nat → Nat} {sz : Nat} {B N : Int} {g : GL} (hB : (0 ≤ B ∧ B ≤ 100000000) ∧ (0 ≤ N ∧ N ≤ 100000)) (hok : OKG B N g) (frm : Int) (too : Int) (r_frm : -2147483648 ≤ frm ∧ frm ≤ 2147483647) (r_too : -2147483648 ≤ too ∧ too ≤ 2147483647)  : zHi l yL_needed (wsL_needed ++ xL) ({ frames := 9, cells := 3, slots := 18, locals := 156 }) K D tA [.ref (ad 0), .int (iI frm), .int (iI too)] (zW tA K ad g) sz (fun (z : Int) (g' : GL) => RDO B N g g' ∧ wNeed (GL_v g) frm too z) (fun g' => zW tA K ad g') 3 18 := by
  refine zHi_of (cc := cL_needed) (maxL := 4) (hh := [(0, 6, 7, 20), (0, 6, 11, 22), (0, 6, 15, 28)]) (by decide) rfl (fun z u h => rfl) (Nat.le_of_ble_eq_true rfl) ?_
  intro p e s m args below meth c A Q ls hx hb hml hts hown hK hP hD hA hZ htb hret hl
  obtain ⟨H, hHe⟩ : ∃ H : Heap, H = s.heap := ⟨_, rfl⟩
  have hS : va_S A s.heap H [] := by rw [hHe]; exact va_S.rf
  rw [← hHe] at hP ⊢
  have hl : lv_has ls 4 [(0, .ref (ad 0)), (1, .int (iI frm)), (2, .int (iI too))] := hl
  refine lv_aload_n hx hb dL_needed_0 rfl (lv_at hl 0 rfl) ?_
  refine lv_iload_n hx hb dL_needed_1 rfl (lv_at hl 1 rfl) ?_
  refine lv_iload_n hx hb dL_needed_2 rfl (lv_at hl 2 rfl) ?_
  refine zx_callVi_ch (As := [.int (iI frm), .int (iI too)]) (rest := []) (L := [zW tA K ad g]) (Lc := [zW tA K ad g]) (Lr := []) (Lc' := fun (u : GL) => [zW tA K ad u]) (Lf := fun (u : GL) => [zW tA K ad u]) (Lx := fun (u : Int × GL) => [zW tA K ad u.2]) (Lfx := fun (u : Int × GL) => [zW tA K ad u.2]) (is := [0]) (isF := [0]) (isX := [0]) ⟨hx, hb, hml, hown, hts⟩ (q_X10_neededRange hst hB hok frm too r_frm r_too ) (cwV 2 hts (goodIn_wid gL_needed_X10_neededRange) rfl rfl rfl (by decide +kernel) ⟨Nat.le_of_ble_eq_true rfl, Nat.le_of_ble_eq_true rfl⟩) hK (zP_i hP) (zD_i hD) hS hA hZ (zCut_1 _) (zBack_1 _) (zBack_1 _) (ci := 12) (q0 := 0) rfl rfl (zW_0 tA K ad g) rfl rfl hl.1 (Nat.le_of_ble_eq_true rfl) dL_needed_3 ⟨Nat.le_of_ble_eq_true rfl, Nat.le_of_ble_eq_true rfl⟩ ?_ ?_
  · intro E ce q9 u H locs hpx hP hD hS hce hcv hcl
    obtain ⟨hex, hrd, hth⟩ := hpx
    rcases hex with ⟨hk, hE⟩ | ⟨hk, hE⟩ | ⟨hk, hE⟩ | ⟨hk, hE⟩ | ⟨hk, hE⟩ | ⟨hk, hE⟩
    · refine zz_catch hZ hown [] ⟨0, 6, 7, 20⟩ [⟨0, 6, 11, 22⟩, ⟨0, 6, 15, 28⟩] htb rfl hE (by decide) (fun z hz => absurd hz List.not_mem_nil) (by decide) (by decide) (hts (.classLink RL 20 "java/lang/IndexOutOfBoundsException") (List.mem_append_right _ (by decide +kernel))) hce hcv hcl ?_
      refine W.eq (g2 := F0 m 7 ls [.ref q9]) rfl ?_
      refine lv_astore_n (lv' := [(3, .ref q9), (0, .ref (ad 0)), (1, .int (iI frm)), (2, .int (iI too))]) hx hb dL_needed_7 rfl hl (by decide) rfl (fun ls hl => ?_)
      refine zz_bipush hx hb dL_needed_8 rfl ?_
      have hfin : (fun (z : Int) (g' : GL) => RDO B N g g' ∧ wNeed (GL_v g) frm too z) (-11) u.2 := by
        rcases hth with h9 | h9 | h9
        · exact ⟨hrd, Or.inl ⟨h9.2, rfl⟩⟩
        · exact absurd hk (by omega)
        · exact absurd hk (by omega)
      exact hret (-11) u.2 H locs _ _ _ _ (Nat.le_of_ble_eq_true rfl) (Nat.le_of_ble_eq_true rfl) dL_needed_10 hfin (zP_o hP) (zD_o hD) hS
    · refine zz_catch hZ hown [⟨0, 6, 7, 20⟩] ⟨0, 6, 11, 22⟩ [⟨0, 6, 15, 28⟩] htb rfl hE (by decide) (List.forall_mem_cons.mpr ⟨⟨by decide, "java/lang/IndexOutOfBoundsException", by decide, by decide, hts (.classLink RL 20 "java/lang/IndexOutOfBoundsException") (List.mem_append_right _ (by decide +kernel))⟩, fun z hz => absurd hz List.not_mem_nil⟩) (by decide) (by decide) (hts (.classLink RL 22 "java/lang/IllegalArgumentException") (List.mem_append_right _ (by decide +kernel))) hce hcv hcl ?_
      refine W.eq (g2 := F0 m 11 ls [.ref q9]) rfl ?_
      refine lv_astore_n (lv' := [(3, .ref q9), (0, .ref (ad 0)), (1, .int (iI frm)), (2, .int (iI too))]) hx hb dL_needed_11 rfl hl (by decide) rfl (fun ls hl => ?_)
      refine zz_bipush hx hb dL_needed_12 rfl ?_
      have hfin : (fun (z : Int) (g' : GL) => RDO B N g g' ∧ wNeed (GL_v g) frm too z) (-12) u.2 := by
        rcases hth with h9 | h9 | h9
        · exact absurd hk (by omega)
        · exact ⟨hrd, Or.inr ⟨h9.2.1, Or.inl ⟨h9.2.2, rfl⟩⟩⟩
        · exact absurd hk (by omega)
      exact hret (-12) u.2 H locs _ _ _ _ (Nat.le_of_ble_eq_true rfl) (Nat.le_of_ble_eq_true rfl) dL_needed_14 hfin (zP_o hP) (zD_o hD) hS
    · exfalso
      first | omega | (have h8 := hth.1; omega) | (rcases hth with h9 | h9 <;> (have h8 := h9.1; omega)) | (rcases hth with h9 | h9 | h9 <;> (have h8 := h9.1; omega)) 
    · refine zz_catch hZ hown [⟨0, 6, 7, 20⟩, ⟨0, 6, 11, 22⟩] ⟨0, 6, 15, 28⟩ [] htb rfl hE (by decide) (List.forall_mem_cons.mpr ⟨⟨by decide, "java/lang/IndexOutOfBoundsException", by decide, by decide, hts (.classLink RL 20 "java/lang/IndexOutOfBoundsException") (List.mem_append_right _ (by decide +kernel))⟩, List.forall_mem_cons.mpr ⟨⟨by decide, "java/lang/IllegalArgumentException", by decide, by decide, hts (.classLink RL 22 "java/lang/IllegalArgumentException") (List.mem_append_right _ (by decide +kernel))⟩, fun z hz => absurd hz List.not_mem_nil⟩⟩) (by decide) (by decide) (hts (.classLink RL 28 "java/util/NoSuchElementException") (List.mem_append_right _ (by decide +kernel))) hce hcv hcl ?_
      refine W.eq (g2 := F0 m 15 ls [.ref q9]) rfl ?_
      refine lv_astore_n (lv' := [(3, .ref q9), (0, .ref (ad 0)), (1, .int (iI frm)), (2, .int (iI too))]) hx hb dL_needed_15 rfl hl (by decide) rfl (fun ls hl => ?_)
      refine zz_bipush hx hb dL_needed_16 rfl ?_
      have hfin : (fun (z : Int) (g' : GL) => RDO B N g g' ∧ wNeed (GL_v g) frm too z) (-13) u.2 := by
        rcases hth with h9 | h9 | h9
        · exact absurd hk (by omega)
        · exact absurd hk (by omega)
        · exact ⟨hrd, Or.inr ⟨h9.2.1, Or.inr ⟨h9.2.2.1, Or.inl ⟨rfl, h9.2.2.2⟩⟩⟩⟩
      exact hret (-13) u.2 H locs _ _ _ _ (Nat.le_of_ble_eq_true rfl) (Nat.le_of_ble_eq_true rfl) dL_needed_18 hfin (zP_o hP) (zD_o hD) hS
    · exfalso
      first | omega | (have h8 := hth.1; omega) | (rcases hth with h9 | h9 <;> (have h8 := h9.1; omega)) | (rcases hth with h9 | h9 | h9 <;> (have h8 := h9.1; omega)) 
    · exfalso
      first | omega | (have h8 := hth.1; omega) | (rcases hth with h9 | h9 <;> (have h8 := h9.1; omega)) | (rcases hth with h9 | h9 | h9 <;> (have h8 := h9.1; omega)) 
  · intro z g2 H locs hp hP hD hS
    have hfin : (fun (z : Int) (g' : GL) => RDO B N g g' ∧ wNeed (GL_v g) frm too z) z g2 := by
      exact ⟨hp.1, Or.inr ⟨hp.2.1, Or.inr ⟨hp.2.2.1, Or.inr hp.2.2.2⟩⟩⟩
    exact hret z g2 H locs _ _ _ _ (Nat.le_of_ble_eq_true rfl) (Nat.le_of_ble_eq_true rfl) dL_needed_6 hfin (zP_o hP) (zD_o hD) hS
set_option maxHeartbeats 4000000 in
set_option maxRecDepth 20000 in
theorem q_L_byTrial {l : Launch} (hst : l.stackTraces = false) {K : Nat → Nat} {D : va_G} {tA : Nat → ClassId} {ad : Nat → Nat} {sz : Nat} {B N : Int} {g : GL} (hB : (0 ≤ B ∧ B ≤ 100000000) ∧ (0 ≤ N ∧ N ≤ 100000)) (hok : OKG B N g) (frm : Int) (too : Int) (r_frm : -2147483648 ≤ frm ∧ frm ≤ 2147483647) (r_too : -2147483648 ≤ too ∧ too ≤ 2147483647)  : zHi l yL_byTrial (wsL_byTrial ++ xL) ({ frames := 9, cells := 3, slots := 18, locals := 156 }) K D tA [.ref (ad 0), .int (iI frm), .int (iI too)] (zW tA K ad g) sz (fun (z : Int) (g' : GL) => RDO B N g g' ∧ wNeed (GL_v g) frm too z) (fun g' => zW tA K ad g') 3 18 := by
  refine zHi_of (cc := cL_byTrial) (maxL := 4) (hh := [(0, 6, 7, 20), (0, 6, 11, 22), (0, 6, 15, 28)]) (by decide) rfl (fun z u h => rfl) (Nat.le_of_ble_eq_true rfl) ?_
  intro p e s m args below meth c A Q ls hx hb hml hts hown hK hP hD hA hZ htb hret hl
  obtain ⟨H, hHe⟩ : ∃ H : Heap, H = s.heap := ⟨_, rfl⟩
  have hS : va_S A s.heap H [] := by rw [hHe]; exact va_S.rf
  rw [← hHe] at hP ⊢
  have hl : lv_has ls 4 [(0, .ref (ad 0)), (1, .int (iI frm)), (2, .int (iI too))] := hl
  refine lv_aload_n hx hb dL_byTrial_0 rfl (lv_at hl 0 rfl) ?_
  refine lv_iload_n hx hb dL_byTrial_1 rfl (lv_at hl 1 rfl) ?_
  refine lv_iload_n hx hb dL_byTrial_2 rfl (lv_at hl 2 rfl) ?_
  refine zx_callVi_ch (As := [.int (iI frm), .int (iI too)]) (rest := []) (L := [zW tA K ad g]) (Lc := [zW tA K ad g]) (Lr := []) (Lc' := fun (u : GL) => [zW tA K ad u]) (Lf := fun (u : GL) => [zW tA K ad u]) (Lx := fun (u : Int × GL) => [zW tA K ad u.2]) (Lfx := fun (u : Int × GL) => [zW tA K ad u.2]) (is := [0]) (isF := [0]) (isX := [0]) ⟨hx, hb, hml, hown, hts⟩ (q_X10_neededRangeByTrial hst hB hok frm too r_frm r_too ) (cwV 2 hts (goodIn_wid gL_byTrial_X10_neededRangeByTrial) rfl rfl rfl (by decide +kernel) ⟨Nat.le_of_ble_eq_true rfl, Nat.le_of_ble_eq_true rfl⟩) hK (zP_i hP) (zD_i hD) hS hA hZ (zCut_1 _) (zBack_1 _) (zBack_1 _) (ci := 12) (q0 := 0) rfl rfl (zW_0 tA K ad g) rfl rfl hl.1 (Nat.le_of_ble_eq_true rfl) dL_byTrial_3 ⟨Nat.le_of_ble_eq_true rfl, Nat.le_of_ble_eq_true rfl⟩ ?_ ?_
  · intro E ce q9 u H locs hpx hP hD hS hce hcv hcl
    obtain ⟨hex, hrd, hth⟩ := hpx
    rcases hex with ⟨hk, hE⟩ | ⟨hk, hE⟩ | ⟨hk, hE⟩ | ⟨hk, hE⟩ | ⟨hk, hE⟩ | ⟨hk, hE⟩
    · refine zz_catch hZ hown [] ⟨0, 6, 7, 20⟩ [⟨0, 6, 11, 22⟩, ⟨0, 6, 15, 28⟩] htb rfl hE (by decide) (fun z hz => absurd hz List.not_mem_nil) (by decide) (by decide) (hts (.classLink RL 20 "java/lang/IndexOutOfBoundsException") (List.mem_append_right _ (by decide +kernel))) hce hcv hcl ?_
      refine W.eq (g2 := F0 m 7 ls [.ref q9]) rfl ?_
      refine lv_astore_n (lv' := [(3, .ref q9), (0, .ref (ad 0)), (1, .int (iI frm)), (2, .int (iI too))]) hx hb dL_byTrial_7 rfl hl (by decide) rfl (fun ls hl => ?_)
      refine zz_bipush hx hb dL_byTrial_8 rfl ?_
      have hfin : (fun (z : Int) (g' : GL) => RDO B N g g' ∧ wNeed (GL_v g) frm too z) (-11) u.2 := by
        rcases hth with h9 | h9 | h9
        · exact ⟨hrd, Or.inl ⟨h9.2, rfl⟩⟩
        · exact absurd hk (by omega)
        · exact absurd hk (by omega)
      exact hret (-11) u.2 H locs _ _ _ _ (Nat.le_of_ble_eq_true rfl) (Nat.le_of_ble_eq_true rfl) dL_byTrial_10 hfin (zP_o hP) (zD_o hD) hS
    · refine zz_catch hZ hown [⟨0, 6, 7, 20⟩] ⟨0, 6, 11, 22⟩ [⟨0, 6, 15, 28⟩] htb rfl hE (by decide) (List.forall_mem_cons.mpr ⟨⟨by decide, "java/lang/IndexOutOfBoundsException", by decide, by decide, hts (.classLink RL 20 "java/lang/IndexOutOfBoundsException") (List.mem_append_right _ (by decide +kernel))⟩, fun z hz => absurd hz List.not_mem_nil⟩) (by decide) (by decide) (hts (.classLink RL 22 "java/lang/IllegalArgumentException") (List.mem_append_right _ (by decide +kernel))) hce hcv hcl ?_
      refine W.eq (g2 := F0 m 11 ls [.ref q9]) rfl ?_
      refine lv_astore_n (lv' := [(3, .ref q9), (0, .ref (ad 0)), (1, .int (iI frm)), (2, .int (iI too))]) hx hb dL_byTrial_11 rfl hl (by decide) rfl (fun ls hl => ?_)
      refine zz_bipush hx hb dL_byTrial_12 rfl ?_
      have hfin : (fun (z : Int) (g' : GL) => RDO B N g g' ∧ wNeed (GL_v g) frm too z) (-12) u.2 := by
        rcases hth with h9 | h9 | h9
        · exact absurd hk (by omega)
        · exact ⟨hrd, Or.inr ⟨h9.2.1, Or.inl ⟨h9.2.2, rfl⟩⟩⟩
        · exact absurd hk (by omega)
      exact hret (-12) u.2 H locs _ _ _ _ (Nat.le_of_ble_eq_true rfl) (Nat.le_of_ble_eq_true rfl) dL_byTrial_14 hfin (zP_o hP) (zD_o hD) hS
    · exfalso
      first | omega | (have h8 := hth.1; omega) | (rcases hth with h9 | h9 <;> (have h8 := h9.1; omega)) | (rcases hth with h9 | h9 | h9 <;> (have h8 := h9.1; omega)) 
    · refine zz_catch hZ hown [⟨0, 6, 7, 20⟩, ⟨0, 6, 11, 22⟩] ⟨0, 6, 15, 28⟩ [] htb rfl hE (by decide) (List.forall_mem_cons.mpr ⟨⟨by decide, "java/lang/IndexOutOfBoundsException", by decide, by decide, hts (.classLink RL 20 "java/lang/IndexOutOfBoundsException") (List.mem_append_right _ (by decide +kernel))⟩, List.forall_mem_cons.mpr ⟨⟨by decide, "java/lang/IllegalArgumentException", by decide, by decide, hts (.classLink RL 22 "java/lang/IllegalArgumentException") (List.mem_append_right _ (by decide +kernel))⟩, fun z hz => absurd hz List.not_mem_nil⟩⟩) (by decide) (by decide) (hts (.classLink RL 28 "java/util/NoSuchElementException") (List.mem_append_right _ (by decide +kernel))) hce hcv hcl ?_
      refine W.eq (g2 := F0 m 15 ls [.ref q9]) rfl ?_
      refine lv_astore_n (lv' := [(3, .ref q9), (0, .ref (ad 0)), (1, .int (iI frm)), (2, .int (iI too))]) hx hb dL_byTrial_15 rfl hl (by decide) rfl (fun ls hl => ?_)
      refine zz_bipush hx hb dL_byTrial_16 rfl ?_
      have hfin : (fun (z : Int) (g' : GL) => RDO B N g g' ∧ wNeed (GL_v g) frm too z) (-13) u.2 := by
        rcases hth with h9 | h9 | h9
        · exact absurd hk (by omega)
        · exact absurd hk (by omega)
        · exact ⟨hrd, Or.inr ⟨h9.2.1, Or.inr ⟨h9.2.2.1, Or.inl ⟨rfl, h9.2.2.2⟩⟩⟩⟩
      exact hret (-13) u.2 H locs _ _ _ _ (Nat.le_of_ble_eq_true rfl) (Nat.le_of_ble_eq_true rfl) dL_byTrial_18 hfin (zP_o hP) (zD_o hD) hS
    · exfalso
      first | omega | (have h8 := hth.1; omega) | (rcases hth with h9 | h9 <;> (have h8 := h9.1; omega)) | (rcases hth with h9 | h9 | h9 <;> (have h8 := h9.1; omega)) 
    · exfalso
      first | omega | (have h8 := hth.1; omega) | (rcases hth with h9 | h9 <;> (have h8 := h9.1; omega)) | (rcases hth with h9 | h9 | h9 <;> (have h8 := h9.1; omega)) 
  · intro z g2 H locs hp hP hD hS
    have hfin : (fun (z : Int) (g' : GL) => RDO B N g g' ∧ wNeed (GL_v g) frm too z) z g2 := by
      exact ⟨hp.1, Or.inr ⟨hp.2.1, Or.inr ⟨hp.2.2.1, Or.inr hp.2.2.2⟩⟩⟩
    exact hret z g2 H locs _ _ _ _ (Nat.le_of_ble_eq_true rfl) (Nat.le_of_ble_eq_true rfl) dL_byTrial_6 hfin (zP_o hP) (zD_o hD) hS
set_option maxHeartbeats 4000000 in
set_option maxRecDepth 20000 in
theorem q_L_startOf {l : Launch} (hst : l.stackTraces = false) {K : Nat → Nat} {D : va_G} {tA : Nat → ClassId} {ad : Nat → Nat} {sz : Nat} {B N : Int} {g : GL} (hB : (0 ≤ B ∧ B ≤ 100000000) ∧ (0 ≤ N ∧ N ≤ 100000)) (hok : OKG B N g) (ship : Int) (r_ship : -2147483648 ≤ ship ∧ ship ≤ 2147483647)  : zHi l yL_startOf (wsL_startOf ++ xL) ({ frames := 8, cells := 1, slots := 6, locals := 132 }) K D tA [.ref (ad 0), .int (iI ship)] (zW tA K ad g) sz (fun (z : Int) (g' : GL) => RDO B N g g' ∧ wSub 8 (GL_v g) ship z) (fun g' => zW tA K ad g') 1 6 := by
  refine zHi_of (cc := cL_startOf) (maxL := 3) (hh := [(0, 5, 6, 20)]) (by decide) rfl (fun z u h => rfl) (Nat.le_of_ble_eq_true rfl) ?_
  intro p e s m args below meth c A Q ls hx hb hml hts hown hK hP hD hA hZ htb hret hl
  obtain ⟨H, hHe⟩ : ∃ H : Heap, H = s.heap := ⟨_, rfl⟩
  have hS : va_S A s.heap H [] := by rw [hHe]; exact va_S.rf
  rw [← hHe] at hP ⊢
  have hl : lv_has ls 3 [(0, .ref (ad 0)), (1, .int (iI ship))] := hl
  refine lv_aload_n hx hb dL_startOf_0 rfl (lv_at hl 0 rfl) ?_
  refine lv_iload_n hx hb dL_startOf_1 rfl (lv_at hl 1 rfl) ?_
  refine zx_callVi_ch (As := [.int (iI ship)]) (rest := []) (L := [zW tA K ad g]) (Lc := [zW tA K ad g]) (Lr := []) (Lc' := fun (u : GL) => [zW tA K ad u]) (Lf := fun (u : GL) => [zW tA K ad u]) (Lx := fun (u : Int × GL) => [zW tA K ad u.2]) (Lfx := fun (u : Int × GL) => [zW tA K ad u.2]) (is := [0]) (isF := [0]) (isX := [0]) ⟨hx, hb, hml, hown, hts⟩ (q_X10_startOf hst hB hok ship r_ship ) (cwV 1 hts (goodIn_wid gL_startOf_X10_startOf) rfl rfl rfl (by decide +kernel) ⟨Nat.le_of_ble_eq_true rfl, Nat.le_of_ble_eq_true rfl⟩) hK (zP_i hP) (zD_i hD) hS hA hZ (zCut_1 _) (zBack_1 _) (zBack_1 _) (ci := 12) (q0 := 0) rfl rfl (zW_0 tA K ad g) rfl rfl hl.1 (Nat.le_of_ble_eq_true rfl) dL_startOf_2 ⟨Nat.le_of_ble_eq_true rfl, Nat.le_of_ble_eq_true rfl⟩ ?_ ?_
  · intro E ce q9 u H locs hpx hP hD hS hce hcv hcl
    obtain ⟨hex, hrd, hth⟩ := hpx
    rcases hex with ⟨hk, hE⟩ | ⟨hk, hE⟩ | ⟨hk, hE⟩ | ⟨hk, hE⟩ | ⟨hk, hE⟩ | ⟨hk, hE⟩
    · refine zz_catch hZ hown [] ⟨0, 5, 6, 20⟩ [] htb rfl hE (by decide) (fun z hz => absurd hz List.not_mem_nil) (by decide) (by decide) (hts (.classLink RL 20 "java/lang/IndexOutOfBoundsException") (List.mem_append_right _ (by decide +kernel))) hce hcv hcl ?_
      refine W.eq (g2 := F0 m 6 ls [.ref q9]) rfl ?_
      refine lv_astore_n (lv' := [(2, .ref q9), (0, .ref (ad 0)), (1, .int (iI ship))]) hx hb dL_startOf_6 rfl hl (by decide) rfl (fun ls hl => ?_)
      refine zz_bipush hx hb dL_startOf_7 rfl ?_
      have hfin : (fun (z : Int) (g' : GL) => RDO B N g g' ∧ wSub 8 (GL_v g) ship z) (-11) u.2 := by
        exact ⟨hrd, Or.inl ⟨hth.2, rfl⟩⟩
      exact hret (-11) u.2 H locs _ _ _ _ (Nat.le_of_ble_eq_true rfl) (Nat.le_of_ble_eq_true rfl) dL_startOf_9 hfin (zP_o hP) (zD_o hD) hS
    · exfalso
      first | omega | (have h8 := hth.1; omega) | (rcases hth with h9 | h9 <;> (have h8 := h9.1; omega)) | (rcases hth with h9 | h9 | h9 <;> (have h8 := h9.1; omega)) 
    · exfalso
      first | omega | (have h8 := hth.1; omega) | (rcases hth with h9 | h9 <;> (have h8 := h9.1; omega)) | (rcases hth with h9 | h9 | h9 <;> (have h8 := h9.1; omega)) 
    · exfalso
      first | omega | (have h8 := hth.1; omega) | (rcases hth with h9 | h9 <;> (have h8 := h9.1; omega)) | (rcases hth with h9 | h9 | h9 <;> (have h8 := h9.1; omega)) 
    · exfalso
      first | omega | (have h8 := hth.1; omega) | (rcases hth with h9 | h9 <;> (have h8 := h9.1; omega)) | (rcases hth with h9 | h9 | h9 <;> (have h8 := h9.1; omega)) 
    · exfalso
      first | omega | (have h8 := hth.1; omega) | (rcases hth with h9 | h9 <;> (have h8 := h9.1; omega)) | (rcases hth with h9 | h9 | h9 <;> (have h8 := h9.1; omega)) 
  · intro z g2 H locs hp hP hD hS
    have hfin : (fun (z : Int) (g' : GL) => RDO B N g g' ∧ wSub 8 (GL_v g) ship z) z g2 := by
      exact ⟨hp.1, Or.inr hp.2⟩
    exact hret z g2 H locs _ _ _ _ (Nat.le_of_ble_eq_true rfl) (Nat.le_of_ble_eq_true rfl) dL_startOf_5 hfin (zP_o hP) (zD_o hD) hS
set_option maxHeartbeats 4000000 in
set_option maxRecDepth 20000 in
theorem q_L_goalOf {l : Launch} (hst : l.stackTraces = false) {K : Nat → Nat} {D : va_G} {tA : Nat → ClassId} {ad : Nat → Nat} {sz : Nat} {B N : Int} {g : GL} (hB : (0 ≤ B ∧ B ≤ 100000000) ∧ (0 ≤ N ∧ N ≤ 100000)) (hok : OKG B N g) (ship : Int) (r_ship : -2147483648 ≤ ship ∧ ship ≤ 2147483647)  : zHi l yL_goalOf (wsL_goalOf ++ xL) ({ frames := 8, cells := 1, slots := 6, locals := 132 }) K D tA [.ref (ad 0), .int (iI ship)] (zW tA K ad g) sz (fun (z : Int) (g' : GL) => RDO B N g g' ∧ wSub 9 (GL_v g) ship z) (fun g' => zW tA K ad g') 1 6 := by
  refine zHi_of (cc := cL_goalOf) (maxL := 3) (hh := [(0, 5, 6, 20)]) (by decide) rfl (fun z u h => rfl) (Nat.le_of_ble_eq_true rfl) ?_
  intro p e s m args below meth c A Q ls hx hb hml hts hown hK hP hD hA hZ htb hret hl
  obtain ⟨H, hHe⟩ : ∃ H : Heap, H = s.heap := ⟨_, rfl⟩
  have hS : va_S A s.heap H [] := by rw [hHe]; exact va_S.rf
  rw [← hHe] at hP ⊢
  have hl : lv_has ls 3 [(0, .ref (ad 0)), (1, .int (iI ship))] := hl
  refine lv_aload_n hx hb dL_goalOf_0 rfl (lv_at hl 0 rfl) ?_
  refine lv_iload_n hx hb dL_goalOf_1 rfl (lv_at hl 1 rfl) ?_
  refine zx_callVi_ch (As := [.int (iI ship)]) (rest := []) (L := [zW tA K ad g]) (Lc := [zW tA K ad g]) (Lr := []) (Lc' := fun (u : GL) => [zW tA K ad u]) (Lf := fun (u : GL) => [zW tA K ad u]) (Lx := fun (u : Int × GL) => [zW tA K ad u.2]) (Lfx := fun (u : Int × GL) => [zW tA K ad u.2]) (is := [0]) (isF := [0]) (isX := [0]) ⟨hx, hb, hml, hown, hts⟩ (q_X10_goalOf hst hB hok ship r_ship ) (cwV 1 hts (goodIn_wid gL_goalOf_X10_goalOf) rfl rfl rfl (by decide +kernel) ⟨Nat.le_of_ble_eq_true rfl, Nat.le_of_ble_eq_true rfl⟩) hK (zP_i hP) (zD_i hD) hS hA hZ (zCut_1 _) (zBack_1 _) (zBack_1 _) (ci := 12) (q0 := 0) rfl rfl (zW_0 tA K ad g) rfl rfl hl.1 (Nat.le_of_ble_eq_true rfl) dL_goalOf_2 ⟨Nat.le_of_ble_eq_true rfl, Nat.le_of_ble_eq_true rfl⟩ ?_ ?_
  · intro E ce q9 u H locs hpx hP hD hS hce hcv hcl
    obtain ⟨hex, hrd, hth⟩ := hpx
    rcases hex with ⟨hk, hE⟩ | ⟨hk, hE⟩ | ⟨hk, hE⟩ | ⟨hk, hE⟩ | ⟨hk, hE⟩ | ⟨hk, hE⟩
    · refine zz_catch hZ hown [] ⟨0, 5, 6, 20⟩ [] htb rfl hE (by decide) (fun z hz => absurd hz List.not_mem_nil) (by decide) (by decide) (hts (.classLink RL 20 "java/lang/IndexOutOfBoundsException") (List.mem_append_right _ (by decide +kernel))) hce hcv hcl ?_
      refine W.eq (g2 := F0 m 6 ls [.ref q9]) rfl ?_
      refine lv_astore_n (lv' := [(2, .ref q9), (0, .ref (ad 0)), (1, .int (iI ship))]) hx hb dL_goalOf_6 rfl hl (by decide) rfl (fun ls hl => ?_)
      refine zz_bipush hx hb dL_goalOf_7 rfl ?_
      have hfin : (fun (z : Int) (g' : GL) => RDO B N g g' ∧ wSub 9 (GL_v g) ship z) (-11) u.2 := by
        exact ⟨hrd, Or.inl ⟨hth.2, rfl⟩⟩
      exact hret (-11) u.2 H locs _ _ _ _ (Nat.le_of_ble_eq_true rfl) (Nat.le_of_ble_eq_true rfl) dL_goalOf_9 hfin (zP_o hP) (zD_o hD) hS
    · exfalso
      first | omega | (have h8 := hth.1; omega) | (rcases hth with h9 | h9 <;> (have h8 := h9.1; omega)) | (rcases hth with h9 | h9 | h9 <;> (have h8 := h9.1; omega)) 
    · exfalso
      first | omega | (have h8 := hth.1; omega) | (rcases hth with h9 | h9 <;> (have h8 := h9.1; omega)) | (rcases hth with h9 | h9 | h9 <;> (have h8 := h9.1; omega)) 
    · exfalso
      first | omega | (have h8 := hth.1; omega) | (rcases hth with h9 | h9 <;> (have h8 := h9.1; omega)) | (rcases hth with h9 | h9 | h9 <;> (have h8 := h9.1; omega)) 
    · exfalso
      first | omega | (have h8 := hth.1; omega) | (rcases hth with h9 | h9 <;> (have h8 := h9.1; omega)) | (rcases hth with h9 | h9 | h9 <;> (have h8 := h9.1; omega)) 
    · exfalso
      first | omega | (have h8 := hth.1; omega) | (rcases hth with h9 | h9 <;> (have h8 := h9.1; omega)) | (rcases hth with h9 | h9 | h9 <;> (have h8 := h9.1; omega)) 
  · intro z g2 H locs hp hP hD hS
    have hfin : (fun (z : Int) (g' : GL) => RDO B N g g' ∧ wSub 9 (GL_v g) ship z) z g2 := by
      exact ⟨hp.1, Or.inr hp.2⟩
    exact hret z g2 H locs _ _ _ _ (Nat.le_of_ble_eq_true rfl) (Nat.le_of_ble_eq_true rfl) dL_goalOf_5 hfin (zP_o hP) (zD_o hD) hS
set_option maxHeartbeats 4000000 in
set_option maxRecDepth 20000 in
theorem q_L_moneyOf {l : Launch} (hst : l.stackTraces = false) {K : Nat → Nat} {D : va_G} {tA : Nat → ClassId} {ad : Nat → Nat} {sz : Nat} {B N : Int} {g : GL} (hB : (0 ≤ B ∧ B ≤ 100000000) ∧ (0 ≤ N ∧ N ≤ 100000)) (hok : OKG B N g) (ship : Int) (r_ship : -2147483648 ≤ ship ∧ ship ≤ 2147483647)  : zHi l yL_moneyOf (wsL_moneyOf ++ xL) ({ frames := 8, cells := 1, slots := 6, locals := 132 }) K D tA [.ref (ad 0), .int (iI ship)] (zW tA K ad g) sz (fun (z : Int) (g' : GL) => RDO B N g g' ∧ wSub 10 (GL_v g) ship z) (fun g' => zW tA K ad g') 1 6 := by
  refine zHi_of (cc := cL_moneyOf) (maxL := 3) (hh := [(0, 5, 6, 20)]) (by decide) rfl (fun z u h => rfl) (Nat.le_of_ble_eq_true rfl) ?_
  intro p e s m args below meth c A Q ls hx hb hml hts hown hK hP hD hA hZ htb hret hl
  obtain ⟨H, hHe⟩ : ∃ H : Heap, H = s.heap := ⟨_, rfl⟩
  have hS : va_S A s.heap H [] := by rw [hHe]; exact va_S.rf
  rw [← hHe] at hP ⊢
  have hl : lv_has ls 3 [(0, .ref (ad 0)), (1, .int (iI ship))] := hl
  refine lv_aload_n hx hb dL_moneyOf_0 rfl (lv_at hl 0 rfl) ?_
  refine lv_iload_n hx hb dL_moneyOf_1 rfl (lv_at hl 1 rfl) ?_
  refine zx_callVi_ch (As := [.int (iI ship)]) (rest := []) (L := [zW tA K ad g]) (Lc := [zW tA K ad g]) (Lr := []) (Lc' := fun (u : GL) => [zW tA K ad u]) (Lf := fun (u : GL) => [zW tA K ad u]) (Lx := fun (u : Int × GL) => [zW tA K ad u.2]) (Lfx := fun (u : Int × GL) => [zW tA K ad u.2]) (is := [0]) (isF := [0]) (isX := [0]) ⟨hx, hb, hml, hown, hts⟩ (q_X10_moneyOf hst hB hok ship r_ship ) (cwV 1 hts (goodIn_wid gL_moneyOf_X10_moneyOf) rfl rfl rfl (by decide +kernel) ⟨Nat.le_of_ble_eq_true rfl, Nat.le_of_ble_eq_true rfl⟩) hK (zP_i hP) (zD_i hD) hS hA hZ (zCut_1 _) (zBack_1 _) (zBack_1 _) (ci := 12) (q0 := 0) rfl rfl (zW_0 tA K ad g) rfl rfl hl.1 (Nat.le_of_ble_eq_true rfl) dL_moneyOf_2 ⟨Nat.le_of_ble_eq_true rfl, Nat.le_of_ble_eq_true rfl⟩ ?_ ?_
  · intro E ce q9 u H locs hpx hP hD hS hce hcv hcl
    obtain ⟨hex, hrd, hth⟩ := hpx
    rcases hex with ⟨hk, hE⟩ | ⟨hk, hE⟩ | ⟨hk, hE⟩ | ⟨hk, hE⟩ | ⟨hk, hE⟩ | ⟨hk, hE⟩
    · refine zz_catch hZ hown [] ⟨0, 5, 6, 20⟩ [] htb rfl hE (by decide) (fun z hz => absurd hz List.not_mem_nil) (by decide) (by decide) (hts (.classLink RL 20 "java/lang/IndexOutOfBoundsException") (List.mem_append_right _ (by decide +kernel))) hce hcv hcl ?_
      refine W.eq (g2 := F0 m 6 ls [.ref q9]) rfl ?_
      refine lv_astore_n (lv' := [(2, .ref q9), (0, .ref (ad 0)), (1, .int (iI ship))]) hx hb dL_moneyOf_6 rfl hl (by decide) rfl (fun ls hl => ?_)
      refine zz_bipush hx hb dL_moneyOf_7 rfl ?_
      have hfin : (fun (z : Int) (g' : GL) => RDO B N g g' ∧ wSub 10 (GL_v g) ship z) (-11) u.2 := by
        exact ⟨hrd, Or.inl ⟨hth.2, rfl⟩⟩
      exact hret (-11) u.2 H locs _ _ _ _ (Nat.le_of_ble_eq_true rfl) (Nat.le_of_ble_eq_true rfl) dL_moneyOf_9 hfin (zP_o hP) (zD_o hD) hS
    · exfalso
      first | omega | (have h8 := hth.1; omega) | (rcases hth with h9 | h9 <;> (have h8 := h9.1; omega)) | (rcases hth with h9 | h9 | h9 <;> (have h8 := h9.1; omega)) 
    · exfalso
      first | omega | (have h8 := hth.1; omega) | (rcases hth with h9 | h9 <;> (have h8 := h9.1; omega)) | (rcases hth with h9 | h9 | h9 <;> (have h8 := h9.1; omega)) 
    · exfalso
      first | omega | (have h8 := hth.1; omega) | (rcases hth with h9 | h9 <;> (have h8 := h9.1; omega)) | (rcases hth with h9 | h9 | h9 <;> (have h8 := h9.1; omega)) 
    · exfalso
      first | omega | (have h8 := hth.1; omega) | (rcases hth with h9 | h9 <;> (have h8 := h9.1; omega)) | (rcases hth with h9 | h9 | h9 <;> (have h8 := h9.1; omega)) 
    · exfalso
      first | omega | (have h8 := hth.1; omega) | (rcases hth with h9 | h9 <;> (have h8 := h9.1; omega)) | (rcases hth with h9 | h9 | h9 <;> (have h8 := h9.1; omega)) 
  · intro z g2 H locs hp hP hD hS
    have hfin : (fun (z : Int) (g' : GL) => RDO B N g g' ∧ wSub 10 (GL_v g) ship z) z g2 := by
      exact ⟨hp.1, Or.inr hp.2⟩
    exact hret z g2 H locs _ _ _ _ (Nat.le_of_ble_eq_true rfl) (Nat.le_of_ble_eq_true rfl) dL_moneyOf_5 hfin (zP_o hP) (zD_o hD) hS
set_option maxHeartbeats 4000000 in
set_option maxRecDepth 20000 in
theorem q_L_litNights {l : Launch} (hst : l.stackTraces = false) {K : Nat → Nat} {D : va_G} {tA : Nat → ClassId} {ad : Nat → Nat} {sz : Nat} {B N : Int} {g : GL} (hB : (0 ≤ B ∧ B ≤ 100000000) ∧ (0 ≤ N ∧ N ≤ 100000)) (hok : OKG B N g) (ship : Int) (r_ship : -2147483648 ≤ ship ∧ ship ≤ 2147483647)  : zHi l yL_litNights (wsL_litNights ++ xL) ({ frames := 8, cells := 1, slots := 6, locals := 132 }) K D tA [.ref (ad 0), .int (iI ship)] (zW tA K ad g) sz (fun (z : Int) (g' : GL) => RDO B N g g' ∧ wSub 11 (GL_v g) ship z) (fun g' => zW tA K ad g') 1 6 := by
  refine zHi_of (cc := cL_litNights) (maxL := 3) (hh := [(0, 5, 6, 20)]) (by decide) rfl (fun z u h => rfl) (Nat.le_of_ble_eq_true rfl) ?_
  intro p e s m args below meth c A Q ls hx hb hml hts hown hK hP hD hA hZ htb hret hl
  obtain ⟨H, hHe⟩ : ∃ H : Heap, H = s.heap := ⟨_, rfl⟩
  have hS : va_S A s.heap H [] := by rw [hHe]; exact va_S.rf
  rw [← hHe] at hP ⊢
  have hl : lv_has ls 3 [(0, .ref (ad 0)), (1, .int (iI ship))] := hl
  refine lv_aload_n hx hb dL_litNights_0 rfl (lv_at hl 0 rfl) ?_
  refine lv_iload_n hx hb dL_litNights_1 rfl (lv_at hl 1 rfl) ?_
  refine zx_callVi_ch (As := [.int (iI ship)]) (rest := []) (L := [zW tA K ad g]) (Lc := [zW tA K ad g]) (Lr := []) (Lc' := fun (u : GL) => [zW tA K ad u]) (Lf := fun (u : GL) => [zW tA K ad u]) (Lx := fun (u : Int × GL) => [zW tA K ad u.2]) (Lfx := fun (u : Int × GL) => [zW tA K ad u.2]) (is := [0]) (isF := [0]) (isX := [0]) ⟨hx, hb, hml, hown, hts⟩ (q_X10_litNightsOf hst hB hok ship r_ship ) (cwV 1 hts (goodIn_wid gL_litNights_X10_litNightsOf) rfl rfl rfl (by decide +kernel) ⟨Nat.le_of_ble_eq_true rfl, Nat.le_of_ble_eq_true rfl⟩) hK (zP_i hP) (zD_i hD) hS hA hZ (zCut_1 _) (zBack_1 _) (zBack_1 _) (ci := 12) (q0 := 0) rfl rfl (zW_0 tA K ad g) rfl rfl hl.1 (Nat.le_of_ble_eq_true rfl) dL_litNights_2 ⟨Nat.le_of_ble_eq_true rfl, Nat.le_of_ble_eq_true rfl⟩ ?_ ?_
  · intro E ce q9 u H locs hpx hP hD hS hce hcv hcl
    obtain ⟨hex, hrd, hth⟩ := hpx
    rcases hex with ⟨hk, hE⟩ | ⟨hk, hE⟩ | ⟨hk, hE⟩ | ⟨hk, hE⟩ | ⟨hk, hE⟩ | ⟨hk, hE⟩
    · refine zz_catch hZ hown [] ⟨0, 5, 6, 20⟩ [] htb rfl hE (by decide) (fun z hz => absurd hz List.not_mem_nil) (by decide) (by decide) (hts (.classLink RL 20 "java/lang/IndexOutOfBoundsException") (List.mem_append_right _ (by decide +kernel))) hce hcv hcl ?_
      refine W.eq (g2 := F0 m 6 ls [.ref q9]) rfl ?_
      refine lv_astore_n (lv' := [(2, .ref q9), (0, .ref (ad 0)), (1, .int (iI ship))]) hx hb dL_litNights_6 rfl hl (by decide) rfl (fun ls hl => ?_)
      refine zz_bipush hx hb dL_litNights_7 rfl ?_
      have hfin : (fun (z : Int) (g' : GL) => RDO B N g g' ∧ wSub 11 (GL_v g) ship z) (-11) u.2 := by
        exact ⟨hrd, Or.inl ⟨hth.2, rfl⟩⟩
      exact hret (-11) u.2 H locs _ _ _ _ (Nat.le_of_ble_eq_true rfl) (Nat.le_of_ble_eq_true rfl) dL_litNights_9 hfin (zP_o hP) (zD_o hD) hS
    · exfalso
      first | omega | (have h8 := hth.1; omega) | (rcases hth with h9 | h9 <;> (have h8 := h9.1; omega)) | (rcases hth with h9 | h9 | h9 <;> (have h8 := h9.1; omega)) 
    · exfalso
      first | omega | (have h8 := hth.1; omega) | (rcases hth with h9 | h9 <;> (have h8 := h9.1; omega)) | (rcases hth with h9 | h9 | h9 <;> (have h8 := h9.1; omega)) 
    · exfalso
      first | omega | (have h8 := hth.1; omega) | (rcases hth with h9 | h9 <;> (have h8 := h9.1; omega)) | (rcases hth with h9 | h9 | h9 <;> (have h8 := h9.1; omega)) 
    · exfalso
      first | omega | (have h8 := hth.1; omega) | (rcases hth with h9 | h9 <;> (have h8 := h9.1; omega)) | (rcases hth with h9 | h9 | h9 <;> (have h8 := h9.1; omega)) 
    · exfalso
      first | omega | (have h8 := hth.1; omega) | (rcases hth with h9 | h9 <;> (have h8 := h9.1; omega)) | (rcases hth with h9 | h9 | h9 <;> (have h8 := h9.1; omega)) 
  · intro z g2 H locs hp hP hD hS
    have hfin : (fun (z : Int) (g' : GL) => RDO B N g g' ∧ wSub 11 (GL_v g) ship z) z g2 := by
      exact ⟨hp.1, Or.inr hp.2⟩
    exact hret z g2 H locs _ _ _ _ (Nat.le_of_ble_eq_true rfl) (Nat.le_of_ble_eq_true rfl) dL_litNights_5 hfin (zP_o hP) (zD_o hD) hS
set_option maxHeartbeats 4000000 in
set_option maxRecDepth 20000 in
theorem q_L_darkNights {l : Launch} (hst : l.stackTraces = false) {K : Nat → Nat} {D : va_G} {tA : Nat → ClassId} {ad : Nat → Nat} {sz : Nat} {B N : Int} {g : GL} (hB : (0 ≤ B ∧ B ≤ 100000000) ∧ (0 ≤ N ∧ N ≤ 100000)) (hok : OKG B N g) (ship : Int) (r_ship : -2147483648 ≤ ship ∧ ship ≤ 2147483647)  : zHi l yL_darkNights (wsL_darkNights ++ xL) ({ frames := 8, cells := 1, slots := 6, locals := 132 }) K D tA [.ref (ad 0), .int (iI ship)] (zW tA K ad g) sz (fun (z : Int) (g' : GL) => RDO B N g g' ∧ wSub 12 (GL_v g) ship z) (fun g' => zW tA K ad g') 1 6 := by
  refine zHi_of (cc := cL_darkNights) (maxL := 3) (hh := [(0, 5, 6, 20)]) (by decide) rfl (fun z u h => rfl) (Nat.le_of_ble_eq_true rfl) ?_
  intro p e s m args below meth c A Q ls hx hb hml hts hown hK hP hD hA hZ htb hret hl
  obtain ⟨H, hHe⟩ : ∃ H : Heap, H = s.heap := ⟨_, rfl⟩
  have hS : va_S A s.heap H [] := by rw [hHe]; exact va_S.rf
  rw [← hHe] at hP ⊢
  have hl : lv_has ls 3 [(0, .ref (ad 0)), (1, .int (iI ship))] := hl
  refine lv_aload_n hx hb dL_darkNights_0 rfl (lv_at hl 0 rfl) ?_
  refine lv_iload_n hx hb dL_darkNights_1 rfl (lv_at hl 1 rfl) ?_
  refine zx_callVi_ch (As := [.int (iI ship)]) (rest := []) (L := [zW tA K ad g]) (Lc := [zW tA K ad g]) (Lr := []) (Lc' := fun (u : GL) => [zW tA K ad u]) (Lf := fun (u : GL) => [zW tA K ad u]) (Lx := fun (u : Int × GL) => [zW tA K ad u.2]) (Lfx := fun (u : Int × GL) => [zW tA K ad u.2]) (is := [0]) (isF := [0]) (isX := [0]) ⟨hx, hb, hml, hown, hts⟩ (q_X10_darkNightsOf hst hB hok ship r_ship ) (cwV 1 hts (goodIn_wid gL_darkNights_X10_darkNightsOf) rfl rfl rfl (by decide +kernel) ⟨Nat.le_of_ble_eq_true rfl, Nat.le_of_ble_eq_true rfl⟩) hK (zP_i hP) (zD_i hD) hS hA hZ (zCut_1 _) (zBack_1 _) (zBack_1 _) (ci := 12) (q0 := 0) rfl rfl (zW_0 tA K ad g) rfl rfl hl.1 (Nat.le_of_ble_eq_true rfl) dL_darkNights_2 ⟨Nat.le_of_ble_eq_true rfl, Nat.le_of_ble_eq_true rfl⟩ ?_ ?_
  · intro E ce q9 u H locs hpx hP hD hS hce hcv hcl
    obtain ⟨hex, hrd, hth⟩ := hpx
    rcases hex with ⟨hk, hE⟩ | ⟨hk, hE⟩ | ⟨hk, hE⟩ | ⟨hk, hE⟩ | ⟨hk, hE⟩ | ⟨hk, hE⟩
    · refine zz_catch hZ hown [] ⟨0, 5, 6, 20⟩ [] htb rfl hE (by decide) (fun z hz => absurd hz List.not_mem_nil) (by decide) (by decide) (hts (.classLink RL 20 "java/lang/IndexOutOfBoundsException") (List.mem_append_right _ (by decide +kernel))) hce hcv hcl ?_
      refine W.eq (g2 := F0 m 6 ls [.ref q9]) rfl ?_
      refine lv_astore_n (lv' := [(2, .ref q9), (0, .ref (ad 0)), (1, .int (iI ship))]) hx hb dL_darkNights_6 rfl hl (by decide) rfl (fun ls hl => ?_)
      refine zz_bipush hx hb dL_darkNights_7 rfl ?_
      have hfin : (fun (z : Int) (g' : GL) => RDO B N g g' ∧ wSub 12 (GL_v g) ship z) (-11) u.2 := by
        exact ⟨hrd, Or.inl ⟨hth.2, rfl⟩⟩
      exact hret (-11) u.2 H locs _ _ _ _ (Nat.le_of_ble_eq_true rfl) (Nat.le_of_ble_eq_true rfl) dL_darkNights_9 hfin (zP_o hP) (zD_o hD) hS
    · exfalso
      first | omega | (have h8 := hth.1; omega) | (rcases hth with h9 | h9 <;> (have h8 := h9.1; omega)) | (rcases hth with h9 | h9 | h9 <;> (have h8 := h9.1; omega)) 
    · exfalso
      first | omega | (have h8 := hth.1; omega) | (rcases hth with h9 | h9 <;> (have h8 := h9.1; omega)) | (rcases hth with h9 | h9 | h9 <;> (have h8 := h9.1; omega)) 
    · exfalso
      first | omega | (have h8 := hth.1; omega) | (rcases hth with h9 | h9 <;> (have h8 := h9.1; omega)) | (rcases hth with h9 | h9 | h9 <;> (have h8 := h9.1; omega)) 
    · exfalso
      first | omega | (have h8 := hth.1; omega) | (rcases hth with h9 | h9 <;> (have h8 := h9.1; omega)) | (rcases hth with h9 | h9 | h9 <;> (have h8 := h9.1; omega)) 
    · exfalso
      first | omega | (have h8 := hth.1; omega) | (rcases hth with h9 | h9 <;> (have h8 := h9.1; omega)) | (rcases hth with h9 | h9 | h9 <;> (have h8 := h9.1; omega)) 
  · intro z g2 H locs hp hP hD hS
    have hfin : (fun (z : Int) (g' : GL) => RDO B N g g' ∧ wSub 12 (GL_v g) ship z) z g2 := by
      exact ⟨hp.1, Or.inr hp.2⟩
    exact hret z g2 H locs _ _ _ _ (Nat.le_of_ble_eq_true rfl) (Nat.le_of_ble_eq_true rfl) dL_darkNights_5 hfin (zP_o hP) (zD_o hD) hS
set_option maxHeartbeats 4000000 in
set_option maxRecDepth 20000 in
theorem q_L_needOf {l : Launch} (hst : l.stackTraces = false) {K : Nat → Nat} {D : va_G} {tA : Nat → ClassId} {ad : Nat → Nat} {sz : Nat} {B N : Int} {g : GL} (hB : (0 ≤ B ∧ B ≤ 100000000) ∧ (0 ≤ N ∧ N ≤ 100000)) (hok : OKG B N g) (ship : Int) (r_ship : -2147483648 ≤ ship ∧ ship ≤ 2147483647)  : zHi l yL_needOf (wsL_needOf ++ xL) ({ frames := 8, cells := 2, slots := 12, locals := 132 }) K D tA [.ref (ad 0), .int (iI ship)] (zW tA K ad g) sz (fun (z : Int) (g' : GL) => RDO B N g g' ∧ wNof (GL_v g) ship z) (fun g' => zW tA K ad g') 2 12 := by
  refine zHi_of (cc := cL_needOf) (maxL := 3) (hh := [(0, 5, 6, 20), (0, 5, 10, 28)]) (by decide) rfl (fun z u h => rfl) (Nat.le_of_ble_eq_true rfl) ?_
  intro p e s m args below meth c A Q ls hx hb hml hts hown hK hP hD hA hZ htb hret hl
  obtain ⟨H, hHe⟩ : ∃ H : Heap, H = s.heap := ⟨_, rfl⟩
  have hS : va_S A s.heap H [] := by rw [hHe]; exact va_S.rf
  rw [← hHe] at hP ⊢
  have hl : lv_has ls 3 [(0, .ref (ad 0)), (1, .int (iI ship))] := hl
  refine lv_aload_n hx hb dL_needOf_0 rfl (lv_at hl 0 rfl) ?_
  refine lv_iload_n hx hb dL_needOf_1 rfl (lv_at hl 1 rfl) ?_
  refine zx_callVi_ch (As := [.int (iI ship)]) (rest := []) (L := [zW tA K ad g]) (Lc := [zW tA K ad g]) (Lr := []) (Lc' := fun (u : GL) => [zW tA K ad u]) (Lf := fun (u : GL) => [zW tA K ad u]) (Lx := fun (u : Int × GL) => [zW tA K ad u.2]) (Lfx := fun (u : Int × GL) => [zW tA K ad u.2]) (is := [0]) (isF := [0]) (isX := [0]) ⟨hx, hb, hml, hown, hts⟩ (q_X10_needOf hst hB hok ship r_ship ) (cwV 1 hts (goodIn_wid gL_needOf_X10_needOf) rfl rfl rfl (by decide +kernel) ⟨Nat.le_of_ble_eq_true rfl, Nat.le_of_ble_eq_true rfl⟩) hK (zP_i hP) (zD_i hD) hS hA hZ (zCut_1 _) (zBack_1 _) (zBack_1 _) (ci := 12) (q0 := 0) rfl rfl (zW_0 tA K ad g) rfl rfl hl.1 (Nat.le_of_ble_eq_true rfl) dL_needOf_2 ⟨Nat.le_of_ble_eq_true rfl, Nat.le_of_ble_eq_true rfl⟩ ?_ ?_
  · intro E ce q9 u H locs hpx hP hD hS hce hcv hcl
    obtain ⟨hex, hrd, hth⟩ := hpx
    rcases hex with ⟨hk, hE⟩ | ⟨hk, hE⟩ | ⟨hk, hE⟩ | ⟨hk, hE⟩ | ⟨hk, hE⟩ | ⟨hk, hE⟩
    · refine zz_catch hZ hown [] ⟨0, 5, 6, 20⟩ [⟨0, 5, 10, 28⟩] htb rfl hE (by decide) (fun z hz => absurd hz List.not_mem_nil) (by decide) (by decide) (hts (.classLink RL 20 "java/lang/IndexOutOfBoundsException") (List.mem_append_right _ (by decide +kernel))) hce hcv hcl ?_
      refine W.eq (g2 := F0 m 6 ls [.ref q9]) rfl ?_
      refine lv_astore_n (lv' := [(2, .ref q9), (0, .ref (ad 0)), (1, .int (iI ship))]) hx hb dL_needOf_6 rfl hl (by decide) rfl (fun ls hl => ?_)
      refine zz_bipush hx hb dL_needOf_7 rfl ?_
      have hfin : (fun (z : Int) (g' : GL) => RDO B N g g' ∧ wNof (GL_v g) ship z) (-11) u.2 := by
        rcases hth with h9 | h9
        · exact ⟨hrd, Or.inl ⟨h9.2, rfl⟩⟩
        · exact absurd hk (by omega)
      exact hret (-11) u.2 H locs _ _ _ _ (Nat.le_of_ble_eq_true rfl) (Nat.le_of_ble_eq_true rfl) dL_needOf_9 hfin (zP_o hP) (zD_o hD) hS
    · exfalso
      first | omega | (have h8 := hth.1; omega) | (rcases hth with h9 | h9 <;> (have h8 := h9.1; omega)) | (rcases hth with h9 | h9 | h9 <;> (have h8 := h9.1; omega)) 
    · exfalso
      first | omega | (have h8 := hth.1; omega) | (rcases hth with h9 | h9 <;> (have h8 := h9.1; omega)) | (rcases hth with h9 | h9 | h9 <;> (have h8 := h9.1; omega)) 
    · refine zz_catch hZ hown [⟨0, 5, 6, 20⟩] ⟨0, 5, 10, 28⟩ [] htb rfl hE (by decide) (List.forall_mem_cons.mpr ⟨⟨by decide, "java/lang/IndexOutOfBoundsException", by decide, by decide, hts (.classLink RL 20 "java/lang/IndexOutOfBoundsException") (List.mem_append_right _ (by decide +kernel))⟩, fun z hz => absurd hz List.not_mem_nil⟩) (by decide) (by decide) (hts (.classLink RL 28 "java/util/NoSuchElementException") (List.mem_append_right _ (by decide +kernel))) hce hcv hcl ?_
      refine W.eq (g2 := F0 m 10 ls [.ref q9]) rfl ?_
      refine lv_astore_n (lv' := [(2, .ref q9), (0, .ref (ad 0)), (1, .int (iI ship))]) hx hb dL_needOf_10 rfl hl (by decide) rfl (fun ls hl => ?_)
      refine zz_bipush hx hb dL_needOf_11 rfl ?_
      have hfin : (fun (z : Int) (g' : GL) => RDO B N g g' ∧ wNof (GL_v g) ship z) (-13) u.2 := by
        rcases hth with h9 | h9
        · exact absurd hk (by omega)
        · exact ⟨hrd, Or.inr ⟨h9.2.1, Or.inl ⟨rfl, h9.2.2⟩⟩⟩
      exact hret (-13) u.2 H locs _ _ _ _ (Nat.le_of_ble_eq_true rfl) (Nat.le_of_ble_eq_true rfl) dL_needOf_13 hfin (zP_o hP) (zD_o hD) hS
    · exfalso
      first | omega | (have h8 := hth.1; omega) | (rcases hth with h9 | h9 <;> (have h8 := h9.1; omega)) | (rcases hth with h9 | h9 | h9 <;> (have h8 := h9.1; omega)) 
    · exfalso
      first | omega | (have h8 := hth.1; omega) | (rcases hth with h9 | h9 <;> (have h8 := h9.1; omega)) | (rcases hth with h9 | h9 | h9 <;> (have h8 := h9.1; omega)) 
  · intro z g2 H locs hp hP hD hS
    have hfin : (fun (z : Int) (g' : GL) => RDO B N g g' ∧ wNof (GL_v g) ship z) z g2 := by
      exact ⟨hp.1, Or.inr ⟨hp.2.1, Or.inr hp.2.2⟩⟩
    exact hret z g2 H locs _ _ _ _ (Nat.le_of_ble_eq_true rfl) (Nat.le_of_ble_eq_true rfl) dL_needOf_5 hfin (zP_o hP) (zD_o hD) hS
set_option maxHeartbeats 4000000 in
set_option maxRecDepth 20000 in
theorem q_L_shareOf {l : Launch} (hst : l.stackTraces = false) {K : Nat → Nat} {D : va_G} {tA : Nat → ClassId} {ad : Nat → Nat} {sz : Nat} {B N : Int} {g : GL} (hB : (0 ≤ B ∧ B ≤ 100000000) ∧ (0 ≤ N ∧ N ≤ 100000)) (hok : OKG B N g) (ship : Int) (r_ship : -2147483648 ≤ ship ∧ ship ≤ 2147483647)  : zHi l yL_shareOf (wsL_shareOf ++ xL) ({ frames := 8, cells := 2, slots := 12, locals := 132 }) K D tA [.ref (ad 0), .int (iI ship)] (zW tA K ad g) sz (fun (z : Int) (g' : GL) => RDO B N g g' ∧ wShr (GL_v g) ship z) (fun g' => zW tA K ad g') 2 12 := by
  refine zHi_of (cc := cL_shareOf) (maxL := 3) (hh := [(0, 5, 6, 20), (0, 5, 10, 28)]) (by decide) rfl (fun z u h => rfl) (Nat.le_of_ble_eq_true rfl) ?_
  intro p e s m args below meth c A Q ls hx hb hml hts hown hK hP hD hA hZ htb hret hl
  obtain ⟨H, hHe⟩ : ∃ H : Heap, H = s.heap := ⟨_, rfl⟩
  have hS : va_S A s.heap H [] := by rw [hHe]; exact va_S.rf
  rw [← hHe] at hP ⊢
  have hl : lv_has ls 3 [(0, .ref (ad 0)), (1, .int (iI ship))] := hl
  refine lv_aload_n hx hb dL_shareOf_0 rfl (lv_at hl 0 rfl) ?_
  refine lv_iload_n hx hb dL_shareOf_1 rfl (lv_at hl 1 rfl) ?_
  refine zx_callVi_ch (As := [.int (iI ship)]) (rest := []) (L := [zW tA K ad g]) (Lc := [zW tA K ad g]) (Lr := []) (Lc' := fun (u : GL) => [zW tA K ad u]) (Lf := fun (u : GL) => [zW tA K ad u]) (Lx := fun (u : Int × GL) => [zW tA K ad u.2]) (Lfx := fun (u : Int × GL) => [zW tA K ad u.2]) (is := [0]) (isF := [0]) (isX := [0]) ⟨hx, hb, hml, hown, hts⟩ (q_X10_shareOf hst hB hok ship r_ship ) (cwV 1 hts (goodIn_wid gL_shareOf_X10_shareOf) rfl rfl rfl (by decide +kernel) ⟨Nat.le_of_ble_eq_true rfl, Nat.le_of_ble_eq_true rfl⟩) hK (zP_i hP) (zD_i hD) hS hA hZ (zCut_1 _) (zBack_1 _) (zBack_1 _) (ci := 12) (q0 := 0) rfl rfl (zW_0 tA K ad g) rfl rfl hl.1 (Nat.le_of_ble_eq_true rfl) dL_shareOf_2 ⟨Nat.le_of_ble_eq_true rfl, Nat.le_of_ble_eq_true rfl⟩ ?_ ?_
  · intro E ce q9 u H locs hpx hP hD hS hce hcv hcl
    obtain ⟨hex, hrd, hth⟩ := hpx
    rcases hex with ⟨hk, hE⟩ | ⟨hk, hE⟩ | ⟨hk, hE⟩ | ⟨hk, hE⟩ | ⟨hk, hE⟩ | ⟨hk, hE⟩
    · refine zz_catch hZ hown [] ⟨0, 5, 6, 20⟩ [⟨0, 5, 10, 28⟩] htb rfl hE (by decide) (fun z hz => absurd hz List.not_mem_nil) (by decide) (by decide) (hts (.classLink RL 20 "java/lang/IndexOutOfBoundsException") (List.mem_append_right _ (by decide +kernel))) hce hcv hcl ?_
      refine W.eq (g2 := F0 m 6 ls [.ref q9]) rfl ?_
      refine lv_astore_n (lv' := [(2, .ref q9), (0, .ref (ad 0)), (1, .int (iI ship))]) hx hb dL_shareOf_6 rfl hl (by decide) rfl (fun ls hl => ?_)
      refine zz_bipush hx hb dL_shareOf_7 rfl ?_
      have hfin : (fun (z : Int) (g' : GL) => RDO B N g g' ∧ wShr (GL_v g) ship z) (-11) u.2 := by
        rcases hth with h9 | h9
        · exact ⟨hrd, Or.inl ⟨h9.2, rfl⟩⟩
        · exact absurd hk (by omega)
      exact hret (-11) u.2 H locs _ _ _ _ (Nat.le_of_ble_eq_true rfl) (Nat.le_of_ble_eq_true rfl) dL_shareOf_9 hfin (zP_o hP) (zD_o hD) hS
    · exfalso
      first | omega | (have h8 := hth.1; omega) | (rcases hth with h9 | h9 <;> (have h8 := h9.1; omega)) | (rcases hth with h9 | h9 | h9 <;> (have h8 := h9.1; omega)) 
    · exfalso
      first | omega | (have h8 := hth.1; omega) | (rcases hth with h9 | h9 <;> (have h8 := h9.1; omega)) | (rcases hth with h9 | h9 | h9 <;> (have h8 := h9.1; omega)) 
    · refine zz_catch hZ hown [⟨0, 5, 6, 20⟩] ⟨0, 5, 10, 28⟩ [] htb rfl hE (by decide) (List.forall_mem_cons.mpr ⟨⟨by decide, "java/lang/IndexOutOfBoundsException", by decide, by decide, hts (.classLink RL 20 "java/lang/IndexOutOfBoundsException") (List.mem_append_right _ (by decide +kernel))⟩, fun z hz => absurd hz List.not_mem_nil⟩) (by decide) (by decide) (hts (.classLink RL 28 "java/util/NoSuchElementException") (List.mem_append_right _ (by decide +kernel))) hce hcv hcl ?_
      refine W.eq (g2 := F0 m 10 ls [.ref q9]) rfl ?_
      refine lv_astore_n (lv' := [(2, .ref q9), (0, .ref (ad 0)), (1, .int (iI ship))]) hx hb dL_shareOf_10 rfl hl (by decide) rfl (fun ls hl => ?_)
      refine zz_bipush hx hb dL_shareOf_11 rfl ?_
      have hfin : (fun (z : Int) (g' : GL) => RDO B N g g' ∧ wShr (GL_v g) ship z) (-13) u.2 := by
        rcases hth with h9 | h9
        · exact absurd hk (by omega)
        · exact ⟨hrd, Or.inr ⟨h9.2.1, Or.inl ⟨rfl, h9.2.2⟩⟩⟩
      exact hret (-13) u.2 H locs _ _ _ _ (Nat.le_of_ble_eq_true rfl) (Nat.le_of_ble_eq_true rfl) dL_shareOf_13 hfin (zP_o hP) (zD_o hD) hS
    · exfalso
      first | omega | (have h8 := hth.1; omega) | (rcases hth with h9 | h9 <;> (have h8 := h9.1; omega)) | (rcases hth with h9 | h9 | h9 <;> (have h8 := h9.1; omega)) 
    · exfalso
      first | omega | (have h8 := hth.1; omega) | (rcases hth with h9 | h9 <;> (have h8 := h9.1; omega)) | (rcases hth with h9 | h9 | h9 <;> (have h8 := h9.1; omega)) 
  · intro z g2 H locs hp hP hD hS
    have hfin : (fun (z : Int) (g' : GL) => RDO B N g g' ∧ wShr (GL_v g) ship z) z g2 := by
      exact ⟨hp.1, Or.inr ⟨hp.2.1, Or.inr hp.2.2⟩⟩
    exact hret z g2 H locs _ _ _ _ (Nat.le_of_ble_eq_true rfl) (Nat.le_of_ble_eq_true rfl) dL_shareOf_5 hfin (zP_o hP) (zD_o hD) hS
set_option maxHeartbeats 4000000 in
set_option maxRecDepth 20000 in
theorem q_L_byOrders {l : Launch} (hst : l.stackTraces = false) {K : Nat → Nat} {D : va_G} {tA : Nat → ClassId} {ad : Nat → Nat} {sz : Nat} {B N : Int} {g : GL} (hB : (0 ≤ B ∧ B ≤ 100000000) ∧ (0 ≤ N ∧ N ≤ 100000)) (hok : OKG B N g) (ship : Int) (r_ship : -2147483648 ≤ ship ∧ ship ≤ 2147483647)  : zHi l yL_byOrders (wsL_byOrders ++ xL) ({ frames := 8, cells := 2, slots := 12, locals := 132 }) K D tA [.ref (ad 0), .int (iI ship)] (zW tA K ad g) sz (fun (z : Int) (g' : GL) => RDO B N g g' ∧ wShr (GL_v g) ship z) (fun g' => zW tA K ad g') 2 12 := by
  refine zHi_of (cc := cL_byOrders) (maxL := 3) (hh := [(0, 5, 6, 20), (0, 5, 10, 28)]) (by decide) rfl (fun z u h => rfl) (Nat.le_of_ble_eq_true rfl) ?_
  intro p e s m args below meth c A Q ls hx hb hml hts hown hK hP hD hA hZ htb hret hl
  obtain ⟨H, hHe⟩ : ∃ H : Heap, H = s.heap := ⟨_, rfl⟩
  have hS : va_S A s.heap H [] := by rw [hHe]; exact va_S.rf
  rw [← hHe] at hP ⊢
  have hl : lv_has ls 3 [(0, .ref (ad 0)), (1, .int (iI ship))] := hl
  refine lv_aload_n hx hb dL_byOrders_0 rfl (lv_at hl 0 rfl) ?_
  refine lv_iload_n hx hb dL_byOrders_1 rfl (lv_at hl 1 rfl) ?_
  refine zx_callVi_ch (As := [.int (iI ship)]) (rest := []) (L := [zW tA K ad g]) (Lc := [zW tA K ad g]) (Lr := []) (Lc' := fun (u : GL) => [zW tA K ad u]) (Lf := fun (u : GL) => [zW tA K ad u]) (Lx := fun (u : Int × GL) => [zW tA K ad u.2]) (Lfx := fun (u : Int × GL) => [zW tA K ad u.2]) (is := [0]) (isF := [0]) (isX := [0]) ⟨hx, hb, hml, hown, hts⟩ (q_X10_shareByOrders hst hB hok ship r_ship ) (cwV 1 hts (goodIn_wid gL_byOrders_X10_shareByOrders) rfl rfl rfl (by decide +kernel) ⟨Nat.le_of_ble_eq_true rfl, Nat.le_of_ble_eq_true rfl⟩) hK (zP_i hP) (zD_i hD) hS hA hZ (zCut_1 _) (zBack_1 _) (zBack_1 _) (ci := 12) (q0 := 0) rfl rfl (zW_0 tA K ad g) rfl rfl hl.1 (Nat.le_of_ble_eq_true rfl) dL_byOrders_2 ⟨Nat.le_of_ble_eq_true rfl, Nat.le_of_ble_eq_true rfl⟩ ?_ ?_
  · intro E ce q9 u H locs hpx hP hD hS hce hcv hcl
    obtain ⟨hex, hrd, hth⟩ := hpx
    rcases hex with ⟨hk, hE⟩ | ⟨hk, hE⟩ | ⟨hk, hE⟩ | ⟨hk, hE⟩ | ⟨hk, hE⟩ | ⟨hk, hE⟩
    · refine zz_catch hZ hown [] ⟨0, 5, 6, 20⟩ [⟨0, 5, 10, 28⟩] htb rfl hE (by decide) (fun z hz => absurd hz List.not_mem_nil) (by decide) (by decide) (hts (.classLink RL 20 "java/lang/IndexOutOfBoundsException") (List.mem_append_right _ (by decide +kernel))) hce hcv hcl ?_
      refine W.eq (g2 := F0 m 6 ls [.ref q9]) rfl ?_
      refine lv_astore_n (lv' := [(2, .ref q9), (0, .ref (ad 0)), (1, .int (iI ship))]) hx hb dL_byOrders_6 rfl hl (by decide) rfl (fun ls hl => ?_)
      refine zz_bipush hx hb dL_byOrders_7 rfl ?_
      have hfin : (fun (z : Int) (g' : GL) => RDO B N g g' ∧ wShr (GL_v g) ship z) (-11) u.2 := by
        rcases hth with h9 | h9
        · exact ⟨hrd, Or.inl ⟨h9.2, rfl⟩⟩
        · exact absurd hk (by omega)
      exact hret (-11) u.2 H locs _ _ _ _ (Nat.le_of_ble_eq_true rfl) (Nat.le_of_ble_eq_true rfl) dL_byOrders_9 hfin (zP_o hP) (zD_o hD) hS
    · exfalso
      first | omega | (have h8 := hth.1; omega) | (rcases hth with h9 | h9 <;> (have h8 := h9.1; omega)) | (rcases hth with h9 | h9 | h9 <;> (have h8 := h9.1; omega)) 
    · exfalso
      first | omega | (have h8 := hth.1; omega) | (rcases hth with h9 | h9 <;> (have h8 := h9.1; omega)) | (rcases hth with h9 | h9 | h9 <;> (have h8 := h9.1; omega)) 
    · refine zz_catch hZ hown [⟨0, 5, 6, 20⟩] ⟨0, 5, 10, 28⟩ [] htb rfl hE (by decide) (List.forall_mem_cons.mpr ⟨⟨by decide, "java/lang/IndexOutOfBoundsException", by decide, by decide, hts (.classLink RL 20 "java/lang/IndexOutOfBoundsException") (List.mem_append_right _ (by decide +kernel))⟩, fun z hz => absurd hz List.not_mem_nil⟩) (by decide) (by decide) (hts (.classLink RL 28 "java/util/NoSuchElementException") (List.mem_append_right _ (by decide +kernel))) hce hcv hcl ?_
      refine W.eq (g2 := F0 m 10 ls [.ref q9]) rfl ?_
      refine lv_astore_n (lv' := [(2, .ref q9), (0, .ref (ad 0)), (1, .int (iI ship))]) hx hb dL_byOrders_10 rfl hl (by decide) rfl (fun ls hl => ?_)
      refine zz_bipush hx hb dL_byOrders_11 rfl ?_
      have hfin : (fun (z : Int) (g' : GL) => RDO B N g g' ∧ wShr (GL_v g) ship z) (-13) u.2 := by
        rcases hth with h9 | h9
        · exact absurd hk (by omega)
        · exact ⟨hrd, Or.inr ⟨h9.2.1, Or.inl ⟨rfl, h9.2.2⟩⟩⟩
      exact hret (-13) u.2 H locs _ _ _ _ (Nat.le_of_ble_eq_true rfl) (Nat.le_of_ble_eq_true rfl) dL_byOrders_13 hfin (zP_o hP) (zD_o hD) hS
    · exfalso
      first | omega | (have h8 := hth.1; omega) | (rcases hth with h9 | h9 <;> (have h8 := h9.1; omega)) | (rcases hth with h9 | h9 | h9 <;> (have h8 := h9.1; omega)) 
    · exfalso
      first | omega | (have h8 := hth.1; omega) | (rcases hth with h9 | h9 <;> (have h8 := h9.1; omega)) | (rcases hth with h9 | h9 | h9 <;> (have h8 := h9.1; omega)) 
  · intro z g2 H locs hp hP hD hS
    have hfin : (fun (z : Int) (g' : GL) => RDO B N g g' ∧ wShr (GL_v g) ship z) z g2 := by
      exact ⟨hp.1, Or.inr ⟨hp.2.1, Or.inr hp.2.2⟩⟩
    exact hret z g2 H locs _ _ _ _ (Nat.le_of_ble_eq_true rfl) (Nat.le_of_ble_eq_true rfl) dL_byOrders_5 hfin (zP_o hP) (zD_o hD) hS
set_option maxHeartbeats 4000000 in
set_option maxRecDepth 20000 in
theorem q_L_byDark {l : Launch} (hst : l.stackTraces = false) {K : Nat → Nat} {D : va_G} {tA : Nat → ClassId} {ad : Nat → Nat} {sz : Nat} {B N : Int} {g : GL} (hB : (0 ≤ B ∧ B ≤ 100000000) ∧ (0 ≤ N ∧ N ≤ 100000)) (hok : OKG B N g) (rank : Int) (r_rank : -2147483648 ≤ rank ∧ rank ≤ 2147483647)  : zHi l yL_byDark (wsL_byDark ++ xL) ({ frames := 8, cells := 1, slots := 6, locals := 131 }) K D tA [.ref (ad 0), .int (iI rank)] (zW tA K ad g) sz (fun (z : Int) (g' : GL) => RDO B N g g' ∧ wDrk (GL_v g) rank z) (fun g' => zW tA K ad g') 1 6 := by
  refine zHi_of (cc := cL_byDark) (maxL := 3) (hh := [(0, 5, 6, 28)]) (by decide) rfl (fun z u h => rfl) (Nat.le_of_ble_eq_true rfl) ?_
  intro p e s m args below meth c A Q ls hx hb hml hts hown hK hP hD hA hZ htb hret hl
  obtain ⟨H, hHe⟩ : ∃ H : Heap, H = s.heap := ⟨_, rfl⟩
  have hS : va_S A s.heap H [] := by rw [hHe]; exact va_S.rf
  rw [← hHe] at hP ⊢
  have hl : lv_has ls 3 [(0, .ref (ad 0)), (1, .int (iI rank))] := hl
  refine lv_aload_n hx hb dL_byDark_0 rfl (lv_at hl 0 rfl) ?_
  refine lv_iload_n hx hb dL_byDark_1 rfl (lv_at hl 1 rfl) ?_
  refine zx_callVi_ch (As := [.int (iI rank)]) (rest := []) (L := [zW tA K ad g]) (Lc := [zW tA K ad g]) (Lr := []) (Lc' := fun (u : GL) => [zW tA K ad u]) (Lf := fun (u : GL) => [zW tA K ad u]) (Lx := fun (u : Int × GL) => [zW tA K ad u.2]) (Lfx := fun (u : Int × GL) => [zW tA K ad u.2]) (is := [0]) (isF := [0]) (isX := [0]) ⟨hx, hb, hml, hown, hts⟩ (q_X10_subscriberByDark hst hB hok rank r_rank ) (cwV 1 hts (goodIn_wid gL_byDark_X10_subscriberByDark) rfl rfl rfl (by decide +kernel) ⟨Nat.le_of_ble_eq_true rfl, Nat.le_of_ble_eq_true rfl⟩) hK (zP_i hP) (zD_i hD) hS hA hZ (zCut_1 _) (zBack_1 _) (zBack_1 _) (ci := 12) (q0 := 0) rfl rfl (zW_0 tA K ad g) rfl rfl hl.1 (Nat.le_of_ble_eq_true rfl) dL_byDark_2 ⟨Nat.le_of_ble_eq_true rfl, Nat.le_of_ble_eq_true rfl⟩ ?_ ?_
  · intro E ce q9 u H locs hpx hP hD hS hce hcv hcl
    obtain ⟨hex, hrd, hth⟩ := hpx
    rcases hex with ⟨hk, hE⟩ | ⟨hk, hE⟩ | ⟨hk, hE⟩ | ⟨hk, hE⟩ | ⟨hk, hE⟩ | ⟨hk, hE⟩
    · exfalso
      first | omega | (have h8 := hth.1; omega) | (rcases hth with h9 | h9 <;> (have h8 := h9.1; omega)) | (rcases hth with h9 | h9 | h9 <;> (have h8 := h9.1; omega)) 
    · exfalso
      first | omega | (have h8 := hth.1; omega) | (rcases hth with h9 | h9 <;> (have h8 := h9.1; omega)) | (rcases hth with h9 | h9 | h9 <;> (have h8 := h9.1; omega)) 
    · exfalso
      first | omega | (have h8 := hth.1; omega) | (rcases hth with h9 | h9 <;> (have h8 := h9.1; omega)) | (rcases hth with h9 | h9 | h9 <;> (have h8 := h9.1; omega)) 
    · refine zz_catch hZ hown [] ⟨0, 5, 6, 28⟩ [] htb rfl hE (by decide) (fun z hz => absurd hz List.not_mem_nil) (by decide) (by decide) (hts (.classLink RL 28 "java/util/NoSuchElementException") (List.mem_append_right _ (by decide +kernel))) hce hcv hcl ?_
      refine W.eq (g2 := F0 m 6 ls [.ref q9]) rfl ?_
      refine lv_astore_n (lv' := [(2, .ref q9), (0, .ref (ad 0)), (1, .int (iI rank))]) hx hb dL_byDark_6 rfl hl (by decide) rfl (fun ls hl => ?_)
      refine zz_bipush hx hb dL_byDark_7 rfl ?_
      have hfin : (fun (z : Int) (g' : GL) => RDO B N g g' ∧ wDrk (GL_v g) rank z) (-13) u.2 := by
        exact ⟨hrd, Or.inl ⟨rfl, hth.2⟩⟩
      exact hret (-13) u.2 H locs _ _ _ _ (Nat.le_of_ble_eq_true rfl) (Nat.le_of_ble_eq_true rfl) dL_byDark_9 hfin (zP_o hP) (zD_o hD) hS
    · exfalso
      first | omega | (have h8 := hth.1; omega) | (rcases hth with h9 | h9 <;> (have h8 := h9.1; omega)) | (rcases hth with h9 | h9 | h9 <;> (have h8 := h9.1; omega)) 
    · exfalso
      first | omega | (have h8 := hth.1; omega) | (rcases hth with h9 | h9 <;> (have h8 := h9.1; omega)) | (rcases hth with h9 | h9 | h9 <;> (have h8 := h9.1; omega)) 
  · intro z g2 H locs hp hP hD hS
    have hfin : (fun (z : Int) (g' : GL) => RDO B N g g' ∧ wDrk (GL_v g) rank z) z g2 := by
      exact ⟨hp.1, Or.inr hp.2⟩
    exact hret z g2 H locs _ _ _ _ (Nat.le_of_ble_eq_true rfl) (Nat.le_of_ble_eq_true rfl) dL_byDark_5 hfin (zP_o hP) (zD_o hD) hS
set_option maxHeartbeats 4000000 in
set_option maxRecDepth 20000 in
theorem q_L_wouldBeLit {l : Launch} (hst : l.stackTraces = false) {K : Nat → Nat} {D : va_G} {tA : Nat → ClassId} {ad : Nat → Nat} {sz : Nat} {B N : Int} {g : GL} (hB : (0 ≤ B ∧ B ≤ 100000000) ∧ (0 ≤ N ∧ N ≤ 100000)) (hok : OKG B N g) (ship : Int) (r_ship : -2147483648 ≤ ship ∧ ship ≤ 2147483647)  : zHi l yL_wouldBeLit (wsL_wouldBeLit ++ xL) ({ frames := 8, cells := 1, slots := 6, locals := 132 }) K D tA [.ref (ad 0), .int (iI ship)] (zW tA K ad g) sz (fun (z : Int) (g' : GL) => RDO B N g g' ∧ wWld (GL_v g) ship z) (fun g' => zW tA K ad g') 1 6 := by
  refine zHi_of (cc := cL_wouldBeLit) (maxL := 3) (hh := [(0, 13, 14, 20)]) (by decide) rfl (fun z u h => rfl) (Nat.le_of_ble_eq_true rfl) ?_
  intro p e s m args below meth c A Q ls hx hb hml hts hown hK hP hD hA hZ htb hret hl
  obtain ⟨H, hHe⟩ : ∃ H : Heap, H = s.heap := ⟨_, rfl⟩
  have hS : va_S A s.heap H [] := by rw [hHe]; exact va_S.rf
  rw [← hHe] at hP ⊢
  have hl : lv_has ls 3 [(0, .ref (ad 0)), (1, .int (iI ship))] := hl
  refine lv_aload_n hx hb dL_wouldBeLit_0 rfl (lv_at hl 0 rfl) ?_
  refine lv_iload_n hx hb dL_wouldBeLit_1 rfl (lv_at hl 1 rfl) ?_
  refine zx_callVi_ch (As := [.int (iI ship)]) (rest := []) (L := [zW tA K ad g]) (Lc := [zW tA K ad g]) (Lr := []) (Lc' := fun (u : GL) => [zW tA K ad u]) (Lf := fun (u : GL) => [zW tA K ad u]) (Lx := fun (u : Int × GL) => [zW tA K ad u.2]) (Lfx := fun (u : Int × GL) => [zW tA K ad u.2]) (is := [0]) (isF := [0]) (isX := [0]) ⟨hx, hb, hml, hown, hts⟩ (q_X10_wouldBeLit hst hB hok ship r_ship ) (cwV 1 hts (goodIn_wid gL_wouldBeLit_X10_wouldBeLit) rfl rfl rfl (by decide +kernel) ⟨Nat.le_of_ble_eq_true rfl, Nat.le_of_ble_eq_true rfl⟩) hK (zP_i hP) (zD_i hD) hS hA hZ (zCut_1 _) (zBack_1 _) (zBack_1 _) (ci := 12) (q0 := 0) rfl rfl (zW_0 tA K ad g) rfl rfl hl.1 (Nat.le_of_ble_eq_true rfl) dL_wouldBeLit_2 ⟨Nat.le_of_ble_eq_true rfl, Nat.le_of_ble_eq_true rfl⟩ ?_ ?_
  · intro E ce q9 u H locs hpx hP hD hS hce hcv hcl
    obtain ⟨hex, hrd, hth⟩ := hpx
    rcases hex with ⟨hk, hE⟩ | ⟨hk, hE⟩ | ⟨hk, hE⟩ | ⟨hk, hE⟩ | ⟨hk, hE⟩ | ⟨hk, hE⟩
    · refine zz_catch hZ hown [] ⟨0, 13, 14, 20⟩ [] htb rfl hE (by decide) (fun z hz => absurd hz List.not_mem_nil) (by decide) (by decide) (hts (.classLink RL 20 "java/lang/IndexOutOfBoundsException") (List.mem_append_right _ (by decide +kernel))) hce hcv hcl ?_
      refine W.eq (g2 := F0 m 14 ls [.ref q9]) rfl ?_
      refine lv_astore_n (lv' := [(2, .ref q9), (0, .ref (ad 0)), (1, .int (iI ship))]) hx hb dL_wouldBeLit_14 rfl hl (by decide) rfl (fun ls hl => ?_)
      refine zz_bipush hx hb dL_wouldBeLit_15 rfl ?_
      have hfin : (fun (z : Int) (g' : GL) => RDO B N g g' ∧ wWld (GL_v g) ship z) (-11) u.2 := by
        exact ⟨hrd, Or.inl ⟨hth.2, rfl⟩⟩
      exact hret (-11) u.2 H locs _ _ _ _ (Nat.le_of_ble_eq_true rfl) (Nat.le_of_ble_eq_true rfl) dL_wouldBeLit_17 hfin (zP_o hP) (zD_o hD) hS
    · exfalso
      first | omega | (have h8 := hth.1; omega) | (rcases hth with h9 | h9 <;> (have h8 := h9.1; omega)) | (rcases hth with h9 | h9 | h9 <;> (have h8 := h9.1; omega)) 
    · exfalso
      first | omega | (have h8 := hth.1; omega) | (rcases hth with h9 | h9 <;> (have h8 := h9.1; omega)) | (rcases hth with h9 | h9 | h9 <;> (have h8 := h9.1; omega)) 
    · exfalso
      first | omega | (have h8 := hth.1; omega) | (rcases hth with h9 | h9 <;> (have h8 := h9.1; omega)) | (rcases hth with h9 | h9 | h9 <;> (have h8 := h9.1; omega)) 
    · exfalso
      first | omega | (have h8 := hth.1; omega) | (rcases hth with h9 | h9 <;> (have h8 := h9.1; omega)) | (rcases hth with h9 | h9 | h9 <;> (have h8 := h9.1; omega)) 
    · exfalso
      first | omega | (have h8 := hth.1; omega) | (rcases hth with h9 | h9 <;> (have h8 := h9.1; omega)) | (rcases hth with h9 | h9 | h9 <;> (have h8 := h9.1; omega)) 
  · intro z g2 H locs hp hP hD hS
    have hfin : (fun (z : Int) (g' : GL) => RDO B N g g' ∧ wWld (GL_v g) ship z) z g2 := by
      exact ⟨hp.1, Or.inr ⟨hp.2.2.1, hp.2.1, hp.2.2.2⟩⟩
    have hz01 : z = 0 ∨ z = 1 := by
      exact hp.2.1
    refine zz_if_eq (tgt := 12) hx hb dL_wouldBeLit_5 (by decide) (by omega) (fun c9 => ?_) (fun c9 => ?_)
    · have hz9 : z = 0 := by omega
      subst hz9
      refine zz_iconst hx hb dL_wouldBeLit_12 ?_
      exact hret 0 g2 H locs _ _ _ _ (Nat.le_of_ble_eq_true rfl) (Nat.le_of_ble_eq_true rfl) dL_wouldBeLit_13 hfin (zP_o hP) (zD_o hD) hS
    · have hz9 : z = 1 := by omega
      subst hz9
      refine zz_iconst hx hb dL_wouldBeLit_8 ?_
      refine lv_goto (tgt := 13) hx hb dL_wouldBeLit_9 (by decide) ?_
      exact hret 1 g2 H locs _ _ _ _ (Nat.le_of_ble_eq_true rfl) (Nat.le_of_ble_eq_true rfl) dL_wouldBeLit_13 hfin (zP_o hP) (zD_o hD) hS
set_option maxHeartbeats 4000000 in
set_option maxRecDepth 20000 in
theorem q_L_costOf {l : Launch} (hst : l.stackTraces = false) {K : Nat → Nat} {D : va_G} {tA : Nat → ClassId} {ad : Nat → Nat} {sz : Nat} {B N : Int} {g : GL} (hB : (0 ≤ B ∧ B ≤ 100000000) ∧ (0 ≤ N ∧ N ≤ 100000)) (hok : OKG B N g) (r : Int) (r_r : -2147483648 ≤ r ∧ r ≤ 2147483647)  : zHi l yL_costOf (wsL_costOf ++ xL) ({ frames := 7, cells := 1, slots := 6, locals := 111 }) K D tA [.ref (ad 0), .int (iI r)] (zW tA K ad g) sz (fun (z : Int) (g' : GL) => RDO B N g g' ∧ wCst r z) (fun g' => zW tA K ad g') 1 6 := by
  refine zHi_of (cc := cL_costOf) (maxL := 3) (hh := [(0, 5, 6, 22)]) (by decide) rfl (fun z u h => rfl) (Nat.le_of_ble_eq_true rfl) ?_
  intro p e s m args below meth c A Q ls hx hb hml hts hown hK hP hD hA hZ htb hret hl
  obtain ⟨H, hHe⟩ : ∃ H : Heap, H = s.heap := ⟨_, rfl⟩
  have hS : va_S A s.heap H [] := by rw [hHe]; exact va_S.rf
  rw [← hHe] at hP ⊢
  have hl : lv_has ls 3 [(0, .ref (ad 0)), (1, .int (iI r))] := hl
  refine lv_aload_n hx hb dL_costOf_0 rfl (lv_at hl 0 rfl) ?_
  refine lv_iload_n hx hb dL_costOf_1 rfl (lv_at hl 1 rfl) ?_
  refine zx_callVi_ch (As := [.int (iI r)]) (rest := []) (L := [zW tA K ad g]) (Lc := [zW tA K ad g]) (Lr := []) (Lc' := fun (u : GL) => [zW tA K ad u]) (Lf := fun (u : GL) => [zW tA K ad u]) (Lx := fun (u : Int × GL) => [zW tA K ad u.2]) (Lfx := fun (u : Int × GL) => [zW tA K ad u.2]) (is := [0]) (isF := [0]) (isX := [0]) ⟨hx, hb, hml, hown, hts⟩ (q_X10_costOf hst hB hok r r_r ) (cwV 1 hts (goodIn_wid gL_costOf_X10_costOf) rfl rfl rfl (by decide +kernel) ⟨Nat.le_of_ble_eq_true rfl, Nat.le_of_ble_eq_true rfl⟩) hK (zP_i hP) (zD_i hD) hS hA hZ (zCut_1 _) (zBack_1 _) (zBack_1 _) (ci := 12) (q0 := 0) rfl rfl (zW_0 tA K ad g) rfl rfl hl.1 (Nat.le_of_ble_eq_true rfl) dL_costOf_2 ⟨Nat.le_of_ble_eq_true rfl, Nat.le_of_ble_eq_true rfl⟩ ?_ ?_
  · intro E ce q9 u H locs hpx hP hD hS hce hcv hcl
    obtain ⟨hex, hrd, hth⟩ := hpx
    rcases hex with ⟨hk, hE⟩ | ⟨hk, hE⟩ | ⟨hk, hE⟩ | ⟨hk, hE⟩ | ⟨hk, hE⟩ | ⟨hk, hE⟩
    · exfalso
      first | omega | (have h8 := hth.1; omega) | (rcases hth with h9 | h9 <;> (have h8 := h9.1; omega)) | (rcases hth with h9 | h9 | h9 <;> (have h8 := h9.1; omega)) 
    · refine zz_catch hZ hown [] ⟨0, 5, 6, 22⟩ [] htb rfl hE (by decide) (fun z hz => absurd hz List.not_mem_nil) (by decide) (by decide) (hts (.classLink RL 22 "java/lang/IllegalArgumentException") (List.mem_append_right _ (by decide +kernel))) hce hcv hcl ?_
      refine W.eq (g2 := F0 m 6 ls [.ref q9]) rfl ?_
      refine lv_astore_n (lv' := [(2, .ref q9), (0, .ref (ad 0)), (1, .int (iI r))]) hx hb dL_costOf_6 rfl hl (by decide) rfl (fun ls hl => ?_)
      refine zz_bipush hx hb dL_costOf_7 rfl ?_
      have hfin : (fun (z : Int) (g' : GL) => RDO B N g g' ∧ wCst r z) (-12) u.2 := by
        exact ⟨hrd, Or.inl ⟨hth.2, rfl⟩⟩
      exact hret (-12) u.2 H locs _ _ _ _ (Nat.le_of_ble_eq_true rfl) (Nat.le_of_ble_eq_true rfl) dL_costOf_9 hfin (zP_o hP) (zD_o hD) hS
    · exfalso
      first | omega | (have h8 := hth.1; omega) | (rcases hth with h9 | h9 <;> (have h8 := h9.1; omega)) | (rcases hth with h9 | h9 | h9 <;> (have h8 := h9.1; omega)) 
    · exfalso
      first | omega | (have h8 := hth.1; omega) | (rcases hth with h9 | h9 <;> (have h8 := h9.1; omega)) | (rcases hth with h9 | h9 | h9 <;> (have h8 := h9.1; omega)) 
    · exfalso
      first | omega | (have h8 := hth.1; omega) | (rcases hth with h9 | h9 <;> (have h8 := h9.1; omega)) | (rcases hth with h9 | h9 | h9 <;> (have h8 := h9.1; omega)) 
    · exfalso
      first | omega | (have h8 := hth.1; omega) | (rcases hth with h9 | h9 <;> (have h8 := h9.1; omega)) | (rcases hth with h9 | h9 | h9 <;> (have h8 := h9.1; omega)) 
  · intro z g2 H locs hp hP hD hS
    have hfin : (fun (z : Int) (g' : GL) => RDO B N g g' ∧ wCst r z) z g2 := by
      exact ⟨hp.1, Or.inr hp.2⟩
    exact hret z g2 H locs _ _ _ _ (Nat.le_of_ble_eq_true rfl) (Nat.le_of_ble_eq_true rfl) dL_costOf_5 hfin (zP_o hP) (zD_o hD) hS
set_option maxHeartbeats 4000000 in
set_option maxRecDepth 20000 in
theorem q_L_writeSubscriber {l : Launch} (hst : l.stackTraces = false) {K : Nat → Nat} {D : va_G} {tA : Nat → ClassId} {ad : Nat → Nat} {sz : Nat} {B N : Int} {g : GL} (hB : (0 ≤ B ∧ B ≤ 100000000) ∧ (0 ≤ N ∧ N ≤ 100000)) (hok : OKG B N g) (sb : Int) (r_sb : -2147483648 ≤ sb ∧ sb ≤ 2147483647)  : zHi l yL_writeSubscriber (wsL_writeSubscriber ++ xL) ({ frames := 8, cells := 1, slots := 6, locals := 134 }) K D tA [.ref (ad 0), .int (iI sb)] (zW tA K ad g) sz (fun (z : Int) (g' : GL) => RDO B N g g' ∧ wWrS (GL_v g) sb z g g') (fun g' => zW tA K ad g') 1 6 := by
  refine zHi_of (cc := cL_writeSubscriber) (maxL := 3) (hh := [(0, 5, 6, 20)]) (by decide) rfl (fun z u h => rfl) (Nat.le_of_ble_eq_true rfl) ?_
  intro p e s m args below meth c A Q ls hx hb hml hts hown hK hP hD hA hZ htb hret hl
  obtain ⟨H, hHe⟩ : ∃ H : Heap, H = s.heap := ⟨_, rfl⟩
  have hS : va_S A s.heap H [] := by rw [hHe]; exact va_S.rf
  rw [← hHe] at hP ⊢
  have hl : lv_has ls 3 [(0, .ref (ad 0)), (1, .int (iI sb))] := hl
  refine lv_aload_n hx hb dL_writeSubscriber_0 rfl (lv_at hl 0 rfl) ?_
  refine lv_iload_n hx hb dL_writeSubscriber_1 rfl (lv_at hl 1 rfl) ?_
  refine zx_callVi_ch (As := [.int (iI sb)]) (rest := []) (L := [zW tA K ad g]) (Lc := [zW tA K ad g]) (Lr := []) (Lc' := fun (u : GL) => [zW tA K ad u]) (Lf := fun (u : GL) => [zW tA K ad u]) (Lx := fun (u : Int × GL) => [zW tA K ad u.2]) (Lfx := fun (u : Int × GL) => [zW tA K ad u.2]) (is := [0]) (isF := [0]) (isX := [0]) ⟨hx, hb, hml, hown, hts⟩ (q_X10_writeSubscriber hst hB hok sb r_sb ) (cwV 1 hts (goodIn_wid gL_writeSubscriber_X10_writeSubscriber) rfl rfl rfl (by decide +kernel) ⟨Nat.le_of_ble_eq_true rfl, Nat.le_of_ble_eq_true rfl⟩) hK (zP_i hP) (zD_i hD) hS hA hZ (zCut_1 _) (zBack_1 _) (zBack_1 _) (ci := 12) (q0 := 0) rfl rfl (zW_0 tA K ad g) rfl rfl hl.1 (Nat.le_of_ble_eq_true rfl) dL_writeSubscriber_2 ⟨Nat.le_of_ble_eq_true rfl, Nat.le_of_ble_eq_true rfl⟩ ?_ ?_
  · intro E ce q9 u H locs hpx hP hD hS hce hcv hcl
    obtain ⟨hex, hrd, hth⟩ := hpx
    rcases hex with ⟨hk, hE⟩ | ⟨hk, hE⟩ | ⟨hk, hE⟩ | ⟨hk, hE⟩ | ⟨hk, hE⟩ | ⟨hk, hE⟩
    · refine zz_catch hZ hown [] ⟨0, 5, 6, 20⟩ [] htb rfl hE (by decide) (fun z hz => absurd hz List.not_mem_nil) (by decide) (by decide) (hts (.classLink RL 20 "java/lang/IndexOutOfBoundsException") (List.mem_append_right _ (by decide +kernel))) hce hcv hcl ?_
      refine W.eq (g2 := F0 m 6 ls [.ref q9]) rfl ?_
      refine lv_astore_n (lv' := [(2, .ref q9), (0, .ref (ad 0)), (1, .int (iI sb))]) hx hb dL_writeSubscriber_6 rfl hl (by decide) rfl (fun ls hl => ?_)
      refine zz_bipush hx hb dL_writeSubscriber_7 rfl ?_
      have hfin : (fun (z : Int) (g' : GL) => RDO B N g g' ∧ wWrS (GL_v g) sb z g g') (-11) u.2 := by
        exact ⟨hrd, Or.inl ⟨hth.2, rfl⟩⟩
      exact hret (-11) u.2 H locs _ _ _ _ (Nat.le_of_ble_eq_true rfl) (Nat.le_of_ble_eq_true rfl) dL_writeSubscriber_9 hfin (zP_o hP) (zD_o hD) hS
    · exfalso
      first | omega | (have h8 := hth.1; omega) | (rcases hth with h9 | h9 <;> (have h8 := h9.1; omega)) | (rcases hth with h9 | h9 | h9 <;> (have h8 := h9.1; omega)) 
    · exfalso
      first | omega | (have h8 := hth.1; omega) | (rcases hth with h9 | h9 <;> (have h8 := h9.1; omega)) | (rcases hth with h9 | h9 | h9 <;> (have h8 := h9.1; omega)) 
    · exfalso
      first | omega | (have h8 := hth.1; omega) | (rcases hth with h9 | h9 <;> (have h8 := h9.1; omega)) | (rcases hth with h9 | h9 | h9 <;> (have h8 := h9.1; omega)) 
    · exfalso
      first | omega | (have h8 := hth.1; omega) | (rcases hth with h9 | h9 <;> (have h8 := h9.1; omega)) | (rcases hth with h9 | h9 | h9 <;> (have h8 := h9.1; omega)) 
    · exfalso
      first | omega | (have h8 := hth.1; omega) | (rcases hth with h9 | h9 <;> (have h8 := h9.1; omega)) | (rcases hth with h9 | h9 | h9 <;> (have h8 := h9.1; omega)) 
  · intro z g2 H locs hp hP hD hS
    have hfin : (fun (z : Int) (g' : GL) => RDO B N g g' ∧ wWrS (GL_v g) sb z g g') z g2 := by
      exact ⟨hp.1, Or.inr hp.2⟩
    exact hret z g2 H locs _ _ _ _ (Nat.le_of_ble_eq_true rfl) (Nat.le_of_ble_eq_true rfl) dL_writeSubscriber_5 hfin (zP_o hP) (zD_o hD) hS
set_option maxHeartbeats 4000000 in
set_option maxRecDepth 20000 in
theorem q_L_writeLeg {l : Launch} (hst : l.stackTraces = false) {K : Nat → Nat} {D : va_G} {tA : Nat → ClassId} {ad : Nat → Nat} {sz : Nat} {B N : Int} {g : GL} (hB : (0 ≤ B ∧ B ≤ 100000000) ∧ (0 ≤ N ∧ N ≤ 100000)) (hok : OKG B N g) (pos1 : Int) (r_pos1 : -2147483648 ≤ pos1 ∧ pos1 ≤ 2147483647)  : zHi l yL_writeLeg (wsL_writeLeg ++ xL) ({ frames := 8, cells := 1, slots := 6, locals := 133 }) K D tA [.ref (ad 0), .int (iI pos1)] (zW tA K ad g) sz (fun (z : Int) (g' : GL) => RDO B N g g' ∧ wWrL (GL_v g) pos1 z g g') (fun g' => zW tA K ad g') 1 6 := by
  refine zHi_of (cc := cL_writeLeg) (maxL := 3) (hh := [(0, 5, 6, 20)]) (by decide) rfl (fun z u h => rfl) (Nat.le_of_ble_eq_true rfl) ?_
  intro p e s m args below meth c A Q ls hx hb hml hts hown hK hP hD hA hZ htb hret hl
  obtain ⟨H, hHe⟩ : ∃ H : Heap, H = s.heap := ⟨_, rfl⟩
  have hS : va_S A s.heap H [] := by rw [hHe]; exact va_S.rf
  rw [← hHe] at hP ⊢
  have hl : lv_has ls 3 [(0, .ref (ad 0)), (1, .int (iI pos1))] := hl
  refine lv_aload_n hx hb dL_writeLeg_0 rfl (lv_at hl 0 rfl) ?_
  refine lv_iload_n hx hb dL_writeLeg_1 rfl (lv_at hl 1 rfl) ?_
  refine zx_callVi_ch (As := [.int (iI pos1)]) (rest := []) (L := [zW tA K ad g]) (Lc := [zW tA K ad g]) (Lr := []) (Lc' := fun (u : GL) => [zW tA K ad u]) (Lf := fun (u : GL) => [zW tA K ad u]) (Lx := fun (u : Int × GL) => [zW tA K ad u.2]) (Lfx := fun (u : Int × GL) => [zW tA K ad u.2]) (is := [0]) (isF := [0]) (isX := [0]) ⟨hx, hb, hml, hown, hts⟩ (q_X10_writeLeg hst hB hok pos1 r_pos1 ) (cwV 1 hts (goodIn_wid gL_writeLeg_X10_writeLeg) rfl rfl rfl (by decide +kernel) ⟨Nat.le_of_ble_eq_true rfl, Nat.le_of_ble_eq_true rfl⟩) hK (zP_i hP) (zD_i hD) hS hA hZ (zCut_1 _) (zBack_1 _) (zBack_1 _) (ci := 12) (q0 := 0) rfl rfl (zW_0 tA K ad g) rfl rfl hl.1 (Nat.le_of_ble_eq_true rfl) dL_writeLeg_2 ⟨Nat.le_of_ble_eq_true rfl, Nat.le_of_ble_eq_true rfl⟩ ?_ ?_
  · intro E ce q9 u H locs hpx hP hD hS hce hcv hcl
    obtain ⟨hex, hrd, hth⟩ := hpx
    rcases hex with ⟨hk, hE⟩ | ⟨hk, hE⟩ | ⟨hk, hE⟩ | ⟨hk, hE⟩ | ⟨hk, hE⟩ | ⟨hk, hE⟩
    · refine zz_catch hZ hown [] ⟨0, 5, 6, 20⟩ [] htb rfl hE (by decide) (fun z hz => absurd hz List.not_mem_nil) (by decide) (by decide) (hts (.classLink RL 20 "java/lang/IndexOutOfBoundsException") (List.mem_append_right _ (by decide +kernel))) hce hcv hcl ?_
      refine W.eq (g2 := F0 m 6 ls [.ref q9]) rfl ?_
      refine lv_astore_n (lv' := [(2, .ref q9), (0, .ref (ad 0)), (1, .int (iI pos1))]) hx hb dL_writeLeg_6 rfl hl (by decide) rfl (fun ls hl => ?_)
      refine zz_bipush hx hb dL_writeLeg_7 rfl ?_
      have hfin : (fun (z : Int) (g' : GL) => RDO B N g g' ∧ wWrL (GL_v g) pos1 z g g') (-11) u.2 := by
        exact ⟨hrd, Or.inl ⟨hth.2, rfl⟩⟩
      exact hret (-11) u.2 H locs _ _ _ _ (Nat.le_of_ble_eq_true rfl) (Nat.le_of_ble_eq_true rfl) dL_writeLeg_9 hfin (zP_o hP) (zD_o hD) hS
    · exfalso
      first | omega | (have h8 := hth.1; omega) | (rcases hth with h9 | h9 <;> (have h8 := h9.1; omega)) | (rcases hth with h9 | h9 | h9 <;> (have h8 := h9.1; omega)) 
    · exfalso
      first | omega | (have h8 := hth.1; omega) | (rcases hth with h9 | h9 <;> (have h8 := h9.1; omega)) | (rcases hth with h9 | h9 | h9 <;> (have h8 := h9.1; omega)) 
    · exfalso
      first | omega | (have h8 := hth.1; omega) | (rcases hth with h9 | h9 <;> (have h8 := h9.1; omega)) | (rcases hth with h9 | h9 | h9 <;> (have h8 := h9.1; omega)) 
    · exfalso
      first | omega | (have h8 := hth.1; omega) | (rcases hth with h9 | h9 <;> (have h8 := h9.1; omega)) | (rcases hth with h9 | h9 | h9 <;> (have h8 := h9.1; omega)) 
    · exfalso
      first | omega | (have h8 := hth.1; omega) | (rcases hth with h9 | h9 <;> (have h8 := h9.1; omega)) | (rcases hth with h9 | h9 | h9 <;> (have h8 := h9.1; omega)) 
  · intro z g2 H locs hp hP hD hS
    have hfin : (fun (z : Int) (g' : GL) => RDO B N g g' ∧ wWrL (GL_v g) pos1 z g g') z g2 := by
      exact ⟨hp.1, Or.inr hp.2⟩
    exact hret z g2 H locs _ _ _ _ (Nat.le_of_ble_eq_true rfl) (Nat.le_of_ble_eq_true rfl) dL_writeLeg_5 hfin (zP_o hP) (zD_o hD) hS
set_option maxHeartbeats 4000000 in
set_option maxRecDepth 20000 in
theorem q_L_lineAt {l : Launch} (hst : l.stackTraces = false) {K : Nat → Nat} {D : va_G} {tA : Nat → ClassId} {ad : Nat → Nat} {sz : Nat} {B N : Int} {g : GL} (hB : (0 ≤ B ∧ B ≤ 100000000) ∧ (0 ≤ N ∧ N ≤ 100000)) (hok : OKG B N g) (i : Int) (r_i : -2147483648 ≤ i ∧ i ≤ 2147483647)  : zHi l yL_lineAt (wsL_lineAt ++ xL) ({ frames := 7, cells := 1, slots := 6, locals := 111 }) K D tA [.ref (ad 0), .int (iI i)] (zW tA K ad g) sz (fun (z : Int) (g' : GL) => RDO B N g g' ∧ wLin (GL_lnb g) (GL_lct g) i z ∧ GL_lnb g' = GL_lnb g ∧ GL_lct g' = GL_lct g) (fun g' => zW tA K ad g') 1 6 := by
  refine zHi_of (cc := cL_lineAt) (maxL := 3) (hh := [(0, 5, 6, 20)]) (by decide) rfl (fun z u h => rfl) (Nat.le_of_ble_eq_true rfl) ?_
  intro p e s m args below meth c A Q ls hx hb hml hts hown hK hP hD hA hZ htb hret hl
  obtain ⟨H, hHe⟩ : ∃ H : Heap, H = s.heap := ⟨_, rfl⟩
  have hS : va_S A s.heap H [] := by rw [hHe]; exact va_S.rf
  rw [← hHe] at hP ⊢
  have hl : lv_has ls 3 [(0, .ref (ad 0)), (1, .int (iI i))] := hl
  refine lv_aload_n hx hb dL_lineAt_0 rfl (lv_at hl 0 rfl) ?_
  refine lv_iload_n hx hb dL_lineAt_1 rfl (lv_at hl 1 rfl) ?_
  refine zx_callVi_ch (As := [.int (iI i)]) (rest := []) (L := [zW tA K ad g]) (Lc := [zW tA K ad g]) (Lr := []) (Lc' := fun (u : GL) => [zW tA K ad u]) (Lf := fun (u : GL) => [zW tA K ad u]) (Lx := fun (u : Int × GL) => [zW tA K ad u.2]) (Lfx := fun (u : Int × GL) => [zW tA K ad u.2]) (is := [0]) (isF := [0]) (isX := [0]) ⟨hx, hb, hml, hown, hts⟩ (q_X10_lineAt_l hst hB hok i r_i ) (cwV 1 hts (goodIn_wid gL_lineAt_X10_lineAt) rfl rfl rfl (by decide +kernel) ⟨Nat.le_of_ble_eq_true rfl, Nat.le_of_ble_eq_true rfl⟩) hK (zP_i hP) (zD_i hD) hS hA hZ (zCut_1 _) (zBack_1 _) (zBack_1 _) (ci := 12) (q0 := 0) rfl rfl (zW_0 tA K ad g) rfl rfl hl.1 (Nat.le_of_ble_eq_true rfl) dL_lineAt_2 ⟨Nat.le_of_ble_eq_true rfl, Nat.le_of_ble_eq_true rfl⟩ ?_ ?_
  · intro E ce q9 u H locs hpx hP hD hS hce hcv hcl
    obtain ⟨hex, hrd, hth⟩ := hpx
    rcases hex with ⟨hk, hE⟩ | ⟨hk, hE⟩ | ⟨hk, hE⟩ | ⟨hk, hE⟩ | ⟨hk, hE⟩ | ⟨hk, hE⟩
    · refine zz_catch hZ hown [] ⟨0, 5, 6, 20⟩ [] htb rfl hE (by decide) (fun z hz => absurd hz List.not_mem_nil) (by decide) (by decide) (hts (.classLink RL 20 "java/lang/IndexOutOfBoundsException") (List.mem_append_right _ (by decide +kernel))) hce hcv hcl ?_
      refine W.eq (g2 := F0 m 6 ls [.ref q9]) rfl ?_
      refine lv_astore_n (lv' := [(2, .ref q9), (0, .ref (ad 0)), (1, .int (iI i))]) hx hb dL_lineAt_6 rfl hl (by decide) rfl (fun ls hl => ?_)
      refine zz_bipush hx hb dL_lineAt_7 rfl ?_
      have hfin : (fun (z : Int) (g' : GL) => RDO B N g g' ∧ wLin (GL_lnb g) (GL_lct g) i z ∧ GL_lnb g' = GL_lnb g ∧ GL_lct g' = GL_lct g) (-11) u.2 := by
        exact ⟨hrd, Or.inl ⟨hth.1.2, rfl⟩, hth.2⟩
      exact hret (-11) u.2 H locs _ _ _ _ (Nat.le_of_ble_eq_true rfl) (Nat.le_of_ble_eq_true rfl) dL_lineAt_9 hfin (zP_o hP) (zD_o hD) hS
    · exfalso
      first | omega | (have h8 := hth.1; omega) | (rcases hth with h9 | h9 <;> (have h8 := h9.1; omega)) | (rcases hth with h9 | h9 | h9 <;> (have h8 := h9.1; omega)) 
    · exfalso
      first | omega | (have h8 := hth.1; omega) | (rcases hth with h9 | h9 <;> (have h8 := h9.1; omega)) | (rcases hth with h9 | h9 | h9 <;> (have h8 := h9.1; omega)) 
    · exfalso
      first | omega | (have h8 := hth.1; omega) | (rcases hth with h9 | h9 <;> (have h8 := h9.1; omega)) | (rcases hth with h9 | h9 | h9 <;> (have h8 := h9.1; omega)) 
    · exfalso
      first | omega | (have h8 := hth.1; omega) | (rcases hth with h9 | h9 <;> (have h8 := h9.1; omega)) | (rcases hth with h9 | h9 | h9 <;> (have h8 := h9.1; omega)) 
    · exfalso
      first | omega | (have h8 := hth.1; omega) | (rcases hth with h9 | h9 <;> (have h8 := h9.1; omega)) | (rcases hth with h9 | h9 | h9 <;> (have h8 := h9.1; omega)) 
  · intro z g2 H locs hp hP hD hS
    have hfin : (fun (z : Int) (g' : GL) => RDO B N g g' ∧ wLin (GL_lnb g) (GL_lct g) i z ∧ GL_lnb g' = GL_lnb g ∧ GL_lct g' = GL_lct g) z g2 := by
      exact ⟨hp.1, Or.inr ⟨hp.2.1.1.1, hp.2.1.1.2, hp.2.1.2⟩, hp.2.2⟩
    exact hret z g2 H locs _ _ _ _ (Nat.le_of_ble_eq_true rfl) (Nat.le_of_ble_eq_true rfl) dL_lineAt_5 hfin (zP_o hP) (zD_o hD) hS
