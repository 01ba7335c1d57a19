/-! ===== p57: the law's cell; execute and undo with what they answer at most ===== -/
theorem iI_of (x : Int32) : iI x.toInt = x := Int32.ofInt_toInt x
theorem i32r (x : Int32) : -2147483648 ≤ x.toInt ∧ x.toInt ≤ 2147483647 := by
  have h1 := Int32.le_toInt x
  have h2 := Int32.toInt_lt x
  omega
set_option maxHeartbeats 4000000 in
set_option maxRecDepth 20000 in
theorem q_L_executeb {l : Launch} (hst : l.stackTraces = false) {K : Nat → Nat} {D : va_G} {tA : Nat → ClassId} {ad : Nat → Nat} {sz : Nat} {B N : Int} {g : GL} (hB : (0 ≤ B ∧ B ≤ 100000000) ∧ (0 ≤ N ∧ N ≤ 100000)) (hok : OKG B N g) (qs qa : Nat) (tx : List Int) (hchr : ∀ v ∈ tx, 0 ≤ v ∧ v ≤ 127) (hsn : tx.length ≤ 64) : zHi l yL_execute (wsL_execute ++ xL) ({ frames := 10, cells := 66, slots := 396, locals := 215 }) K D tA [.ref (ad 0), .ref qs] [zW tA K ad g, bStr tA qs qa tx].flatten sz (fun (z : Int) (g' : GL) => wOp B N g g' z ∧ (-20 ≤ z ∧ z ≤ 2000000000)) (fun g' => zW tA K ad g') 66 396 := by
  refine zHi_ofC (cc := cL_execute) (maxL := 3) (by decide) rfl (fun z u h => rfl) (Nat.le_of_ble_eq_true rfl) ?_
  intro p e s m args below meth c A Q ls hx hb hml hts hown hK hP hD hA hZ hret hl
  obtain ⟨H, hHe⟩ : ∃ H : Heap, H = s.heap := ⟨_, rfl⟩
  have hS : va_S A s.heap H [] := by rw [hHe]; exact va_S.rf
  rw [← hHe] at hP ⊢
  have hr : RDO B N g g := RDO_refl hok
  have hl : lv_has ls 3 [(0, .ref (ad 0)), (1, .ref qs)] := hl
  obtain ⟨hokv, hhn, hhc, hln, htx, hva, hcm, hlc, hlb⟩ := id hok
  obtain ⟨hsv, hnv⟩ := id hokv
  obtain ⟨hch, hu, hcc, hsp, hmo, hfg, hrg, hni, hfd, hmt, hld, hbr⟩ := SVk_out (show SVk B N (eSv (GL_v g)) from hsv)
  have hpp : 0 ≤ GL_v g 0 0 ∧ GL_v g 0 0 ≤ 10 := ⟨hch.1, hch.2.1⟩
  have hlg : 0 ≤ GL_v g 1 0 ∧ GL_v g 1 0 ≤ 20 := ⟨hch.2.2.1, hch.2.2.2.1⟩
  refine zz_iconst hx hb dL_execute_0 ?_
  refine lv_istore_n (lv' := [(2, .int (iI 0)), (0, .ref (ad 0)), (1, .ref qs)]) hx hb dL_execute_1 rfl hl (by decide) rfl (fun ls hl => ?_)
  have L2 : ∀ (f9 : Nat) (k_ : Int) (g2 : GL) (k9 : Nat) (n9 : Nat) (H : Heap) (locs : List Loc) (ls : Array Slot), (RDO B N g g2) → (0 ≤ k_ ∧ k_ ≤ ((tx.length : Nat) : Int)) → (((k9 : Nat) : Int) ≤ k_ ∧ ((n9 : Nat) : Int) ≤ 6 * (k_)) → (((tx.length : Nat) : Int) - k_).toNat < f9 → va_P D vwCl [zW tA K ad g2, bStr tA qs qa tx].flatten H → va_D A [zW tA K ad g2, bStr tA qs qa tx].flatten → va_S A s.heap H locs → lv_has ls 3 [(2, .int (iI k_)), (0, .ref (ad 0)), (1, .ref qs)] → W p l e (headSpec (wsL_execute ++ xL) ({ frames := 10, cells := 66, slots := 396, locals := 215 })).room s m args below meth c H locs k9 n9 Q (F0 m 2 ls []) := by
    intro f9
    induction f9 with
    | zero => intro k_ g2 k9 n9 H locs ls hr hk hk9 hmz; exact absurd hmz (Nat.not_lt_zero _)
    | succ f9 ih2 =>
      intro k_ g2 k9 n9 H locs ls hr hk hk9 hmz hP hD hS hl
      refine lv_iload_n hx hb dL_execute_2 rfl (lv_at hl 0 rfl) ?_
      refine lv_aload_n hx hb dL_execute_3 rfl (lv_at hl 2 rfl) ?_
      refine zc_callVi_ch (As := []) (rest := [.int (iI k_)]) (L := [zW tA K ad g2, bStr tA qs qa tx]) (Lc := [bStr tA qs qa tx]) (Lr := [zW tA K ad g2]) (Lc' := fun (u : Unit) => [bStr tA qs qa tx]) (Lf := fun (u : Unit) => [zW tA K ad g2, bStr tA qs qa tx]) (is := [1, 0]) (isF := [0, 1]) ⟨hx, hb, hml, hown, hts⟩ (c_J0_length_8abf5_S l K D tA qs qa H.size tx hsn) (cwV 0 hts (goodIn_wid gL_execute_J0_length_8abf5) rfl rfl rfl (by decide +kernel) ⟨Nat.le_of_ble_eq_true rfl, Nat.le_of_ble_eq_true rfl⟩) hK hP hD hS hA hZ.2.2.2 ⟨rfl, rfl, (by decide)⟩ ⟨fun _ => rfl, fun _ => rfl, (by decide)⟩ (ci := 0) (q0 := 0) rfl rfl rfl rfl rfl hl.1 (Nat.le_of_ble_eq_true rfl) dL_execute_4 (by show _ + 0 ≤ 66 ∧ _ + 0 ≤ 396; omega) ?_
      intro z4_0 u H locs q4 hP hD hS
      have hz4 : z4_0 = ((tx.length : Nat) : Int) := q4
      subst hz4
      refine zz_icmp_ge (tgt := 34) hx hb dL_execute_7 (by decide) (by omega) (by omega) (fun c_7 => ?_) (fun c_7 => ?_)
      · refine lv_aload_n hx hb dL_execute_34 rfl (lv_at hl 1 rfl) ?_
        refine zh_callSi_ch (As := [.ref (ad 0)]) (rest := []) (L := [zW tA K ad g2, bStr tA qs qa tx]) (Lc := [zW tA K ad g2]) (Lr := [bStr tA qs qa tx]) (Lc' := fun (u : GL) => [zW tA K ad u]) (Lf := fun (u : GL) => [zW tA K ad u, bStr tA qs qa tx]) (is := [0, 1]) (isF := [1, 0]) ⟨hx, hb, hml, hown, hts⟩ (q_L_executesb hst hB hr.1  ) (vx_cwSW 1 hts (gx_ww gL_execute_L_executes) rfl rfl rfl (by decide +kernel) ⟨Nat.le_of_ble_eq_true rfl, Nat.le_of_ble_eq_true rfl⟩) hK hP hD hS hA hZ ⟨(List.append_nil _).symm, rfl, (by decide)⟩ ⟨fun _ => (List.append_nil _).symm, fun _ => rfl, (by decide)⟩ rfl rfl hl.1 (Nat.le_of_ble_eq_true rfl) dL_execute_35 (by show _ + 1 ≤ 66 ∧ _ + 6 ≤ 396; omega) ?_
        intro z35_2 g35_1 H locs hp9 hP hD hS
        have hfin : (fun (z : Int) (g' : GL) => wOp B N g g' z ∧ (-20 ≤ z ∧ z ≤ 2000000000)) z35_2 g35_1 := by
          exact ⟨wOp_rd hr hp9.1, hp9.2⟩
        exact hret z35_2 g35_1 H locs _ _ _ _ (by omega) (by omega) dL_execute_38 hfin (zap_Pc hP) (zap_Dc hD) hS
      · refine lv_aload_n hx hb dL_execute_10 rfl (lv_at hl 1 rfl) ?_
        refine lv_aload_n hx hb dL_execute_11 rfl (lv_at hl 2 rfl) ?_
        refine lv_iload_n hx hb dL_execute_12 rfl (lv_at hl 0 rfl) ?_
        refine zc_callVi_ch (As := [.int (iI k_)]) (rest := [.ref (ad 0)]) (L := [zW tA K ad g2, bStr tA qs qa tx]) (Lc := [bStr tA qs qa tx]) (Lr := [zW tA K ad g2]) (Lc' := fun (u : Unit) => [bStr tA qs qa tx]) (Lf := fun (u : Unit) => [zW tA K ad g2, bStr tA qs qa tx]) (is := [1, 0]) (isF := [0, 1]) ⟨hx, hb, hml, hown, hts⟩ (c_J0_charAt_5068e_S l K D tA qs qa H.size tx k_ (by omega) hchr hsn ⟨by omega, by omega⟩) (cwV 1 hts (goodIn_wid gL_execute_J0_charAt_5068e) rfl rfl rfl (by decide +kernel) ⟨Nat.le_of_ble_eq_true rfl, Nat.le_of_ble_eq_true rfl⟩) hK hP hD hS hA hZ.2.2.2 ⟨rfl, rfl, (by decide)⟩ ⟨fun _ => rfl, fun _ => rfl, (by decide)⟩ (ci := 0) (q0 := 0) rfl rfl rfl rfl rfl hl.1 (Nat.le_of_ble_eq_true rfl) dL_execute_13 (by show _ + 0 ≤ 66 ∧ _ + 0 ≤ 396; omega) ?_
        intro z13_3 u H locs q13 hP hD hS
        refine zh_callSi_ch (As := [.ref (ad 0), .int (iI z13_3)]) (rest := []) (L := [zW tA K ad g2, bStr tA qs qa tx]) (Lc := [zW tA K ad g2]) (Lr := [bStr tA qs qa tx]) (Lc' := fun (u : GL) => [zW tA K ad u]) (Lf := fun (u : GL) => [zW tA K ad u, bStr tA qs qa tx]) (is := [0, 1]) (isF := [1, 0]) ⟨hx, hb, hml, hown, hts⟩ (q_L_typeb hst hB hr.1 z13_3 (by omega) (by omega)) (vx_cwSW 2 hts (gx_ww gL_execute_L_type) rfl rfl rfl (by decide +kernel) ⟨Nat.le_of_ble_eq_true rfl, Nat.le_of_ble_eq_true rfl⟩) hK hP hD hS hA hZ ⟨(List.append_nil _).symm, rfl, (by decide)⟩ ⟨fun _ => (List.append_nil _).symm, fun _ => rfl, (by decide)⟩ rfl rfl hl.1 (Nat.le_of_ble_eq_true rfl) dL_execute_16 (by show _ + 1 ≤ 66 ∧ _ + 6 ≤ 396; omega) ?_
        intro z16_5 g16_4 H locs hp9 hP hD hS
        have q16 := hp9.2
        try rw [hr.2.1] at q16
        have hr := RDO_trans hr hp9.1
        clear hp9
        refine lv_iload_n hx hb dL_execute_19 rfl (lv_at hl 0 rfl) ?_
        refine zz_iconst hx hb dL_execute_20 ?_
        refine zz_iadd hx hb dL_execute_21 ?_
        refine zz_icmp_eq (tgt := 28) hx hb dL_execute_22 (by decide) (by omega) (by omega) (fun c_22 => ?_) (fun c_22 => ?_)
        · refine zz_iinc (lv' := [(2, .int (iI (k_ + 1))), (0, .ref (ad 0)), (1, .ref qs)]) hx hb dL_execute_28 hl (k := 0) rfl (by decide) rfl (fun ls hl => ?_)
          refine lv_goto (tgt := 2) hx hb dL_execute_31 (by decide) ?_
          exact ih2 (k_ + 1) g16_4 _ _ _ _ _ (by exact hr) (by omega) (by omega) (by omega) hP hD hS (lv_sub hl [0, 1, 2] rfl)
        · refine zz_bipush hx hb dL_execute_25 (by decide) ?_
          have hfin : (fun (z : Int) (g' : GL) => wOp B N g g' z ∧ (-20 ≤ z ∧ z ≤ 2000000000)) ((-9) : Int) g16_4 := by
            exact ⟨Or.inl ⟨by decide, hr⟩, by decide⟩
          exact hret ((-9)) g16_4 H locs _ _ _ _ (by omega) (by omega) dL_execute_27 hfin (zap_Pc hP) (zap_Dc hD) hS
  exact L2 _ 0 g _ _ _ _ _ (by exact hr) (by omega) (by omega) (Nat.lt_succ_self _) hP hD hS (lv_sub hl [0, 1, 2] rfl)
set_option maxHeartbeats 4000000 in
set_option maxRecDepth 20000 in
theorem q_L_undob {l : Launch} (hst : l.stackTraces = false) {K : Nat → Nat} {D : va_G} {tA : Nat → ClassId} {ad : Nat → Nat} {sz : Nat} {B N : Int} {g : GL} (hB : (0 ≤ B ∧ B ≤ 100000000) ∧ (0 ≤ N ∧ N ≤ 100000)) (hok : OKG B N g) {x : Nat → Int → Int} {Ls : List (Nat → Int → Int)} (hxs : OKs B N x) (hH : HtS g (x :: Ls)) : zHi l yL_undo (wsL_undo ++ xL) ({ frames := 7, cells := 1, slots := 6, locals := 125 }) K D tA [.ref (ad 0)] (zW tA K ad g) sz (fun (z : Int) (g' : GL) => OKG B N g' ∧ (0 ≤ z ∧ z ≤ 2000000000) ∧ GL_v g' = eSv x ∧ HtS g' Ls) (fun g' => zW tA K ad g') 1 6 := by
  refine zHi_of (cc := cL_undo) (maxL := 2) (hh := [(0, 4, 5, 14)]) (by decide) rfl (fun z u h => rfl) (Nat.le_of_ble_eq_true rfl) ?_
  intro p e s m args below meth c A Q ls hx hb hml hts hown hK hP hD hA hZ htb hret hl
  obtain ⟨H, hHe⟩ : ∃ H : Heap, H = s.heap := ⟨_, rfl⟩
  have hS : va_S A s.heap H [] := by rw [hHe]; exact va_S.rf
  rw [← hHe] at hP ⊢
  have hl : lv_has ls 2 [(0, .ref (ad 0))] := hl
  refine lv_aload_n hx hb dL_undo_0 rfl (lv_at hl 0 rfl) ?_
  refine zt_callVi (As := []) (rest := []) (L := [zW tA K ad g]) (Lc := [zW tA K ad g]) (Lr := []) (Lc' := fun (u : GL) => [zW tA K ad u]) (Lf := fun (u : GL) => [zW tA K ad u]) (is := [0]) (isF := [0]) ⟨hx, hb, hml, hown, hts⟩ (q_X10_undob hst hB hok hxs hH) (cwV 0 hts (goodIn_wid gL_undo_X10_undo) rfl rfl rfl (by decide +kernel) ⟨Nat.le_of_ble_eq_true rfl, Nat.le_of_ble_eq_true rfl⟩) hK (zP_i hP) (zD_i hD) hS hA hZ (zCut_1 _) (zBack_1 _) (ci := 12) (q0 := 0) rfl rfl (zW_0 tA K ad g) rfl rfl hl.1 (Nat.le_of_ble_eq_true rfl) dL_undo_1 ⟨Nat.le_of_ble_eq_true rfl, Nat.le_of_ble_eq_true rfl⟩ ?_
  intro z g2 H locs hp hP hD hS
  exact hret z g2 H locs _ _ _ _ (Nat.le_of_ble_eq_true rfl) (Nat.le_of_ble_eq_true rfl) dL_undo_4 hp (zP_o hP) (zD_o hD) hS
set_option maxHeartbeats 4000000 in
set_option maxRecDepth 20000 in
theorem q_L_cell {l : Launch} (hst : l.stackTraces = false) {K : Nat → Nat} {D : va_G} {tA : Nat → ClassId} {ad : Nat → Nat} {sz : Nat} {B N : Int} {g : GL} (hB : (0 ≤ B ∧ B ≤ 100000000) ∧ (0 ≤ N ∧ N ≤ 100000)) (hok : OKG B N g) (kx : Int) (r_kx : -2147483648 ≤ kx ∧ kx ≤ 2147483647) (hkx : 0 ≤ kx ∧ kx ≤ 100) : zHi l yL_cell (wsL_cell ++ xL) ({ frames := 0, cells := 0, slots := 0, locals := 0 }) K D tA [.ref (K 12), .int (iI kx)] (zW tA K ad g) sz (fun (z : Int) (g' : GL) => RDO B N g g' ∧ (-2147483648 ≤ z ∧ z ≤ 2147483647)) (fun g' => zW tA K ad g') 0 0 := by
  refine zHi_ofC (cc := cL_cell) (maxL := 2) (by decide) rfl (fun z u h => rfl) (Nat.le_of_ble_eq_true rfl) ?_
  intro p e s m args below meth c A Q ls hx hb hml hts hown hK hP hD hA hZ hret hl
  obtain ⟨H, hHe⟩ : ∃ H : Heap, H = s.heap := ⟨_, rfl⟩
  have hS : va_S A s.heap H [] := by rw [hHe]; exact va_S.rf
  rw [← hHe] at hP ⊢
  have hP := zP_i hP
  have hD := zD_i hD
  have hr : RDO B N g g := RDO_refl hok
  have hl : lv_has ls 2 [(0, .ref (K 12)), (1, .int (iI kx))] := hl
  obtain ⟨hokv, hhn, hhc, hln, htx, hva, hcm, hlc, hlb⟩ := id hok
  obtain ⟨hsv, hnv⟩ := id hokv
  obtain ⟨hch, hu, hcc, hsp, hmo, hfg, hrg, hni, hfd, hmt, hld, hbr⟩ := SVk_out (show SVk B N (eSv (GL_v g)) from hsv)
  have hpp : 0 ≤ GL_v g 0 0 ∧ GL_v g 0 0 ≤ 10 := ⟨hch.1, hch.2.1⟩
  have hlg : 0 ≤ GL_v g 1 0 ∧ GL_v g 1 0 ≤ 20 := ⟨hch.2.2.1, hch.2.2.2.1⟩
  obtain ⟨hK13, f9, hT9⟩ := hZ.2.2.2.2.2.1
  refine lv_iload_n hx hb dL_cell_0 rfl (lv_at hl 1 rfl) ?_
  refine lv_aload_n hx hb dL_cell_1 rfl (lv_at hl 0 rfl) ?_
  refine va_tlen hx hb hT9 hS (v := iI ((K 13 : Nat) : Int)) (nI_iI _) dL_cell_2 ?_
  refine zz_icmp_ge (tgt := 12) hx hb dL_cell_3 (by decide) (by omega) (by omega) (fun c_3 => ?_) (fun c_3 => ?_)
  · refine zz_ldc hx hb hown (hts (.constant RL 7 (40503)) (by decide +kernel)) (n := 40503) (by decide +kernel) dL_cell_12 ?_
    refine lv_iload_n hx hb dL_cell_14 rfl (lv_at hl 1 rfl) ?_
    refine zz_imul hx hb dL_cell_15 ?_
    have hfin : (fun (z : Int) (g' : GL) => RDO B N g g' ∧ (-2147483648 ≤ z ∧ z ≤ 2147483647)) (40503 * kx) g := by
      exact ⟨hr, by omega⟩
    exact hret (40503 * kx) g H _ _ _ _ _ (by omega) (by omega) dL_cell_16 hfin (zP_o hP) (zD_o hD) hS
  · refine lv_aload_n hx hb dL_cell_6 rfl (lv_at hl 0 rfl) ?_
    refine lv_iload_n hx hb dL_cell_7 rfl (lv_at hl 1 rfl) ?_
    refine va_ti hx hb hT9 hS (zin (k := kx) (n := K 13) ⟨by omega, by omega⟩ (by omega)) (v := .int (iI (f9 (iI kx).toNatClampNeg).toInt)) (by show Value.int (f9 (iI kx).toNatClampNeg) = _; rw [iI_of]) dL_cell_8 ?_
    refine lv_goto (tgt := 16) hx hb dL_cell_9 (by decide) ?_
    have hfin : (fun (z : Int) (g' : GL) => RDO B N g g' ∧ (-2147483648 ≤ z ∧ z ≤ 2147483647)) ((f9 (iI kx).toNatClampNeg).toInt) g := by
      exact ⟨hr, i32r _⟩
    exact hret ((f9 (iI kx).toNatClampNeg).toInt) g H _ _ _ _ _ (by omega) (by omega) dL_cell_16 hfin (zP_o hP) (zD_o hD) hS
