/-! ===== p57: the law's routes ===== -/
set_option maxHeartbeats 4000000 in
set_option maxRecDepth 20000 in
theorem q_L_routes {l : Launch} (hst : l.stackTraces = false) {K : Nat → Nat} {D : va_G} {tA : Nat → ClassId} {ad : Nat → Nat} {sz : Nat} {B N : Int} {g : GL} (hB : (0 ≤ B ∧ B ≤ 100000000) ∧ (0 ≤ N ∧ N ≤ 100000)) (hok : OKG B N g)  : zHi l yL_routes (wsL_routes ++ xL) ({ frames := 77, cells := 2100, slots := 12600, locals := 4117 }) K D tA [.ref (ad 0)] (zW tA K ad g) sz (fun (z : Int) (g' : GL) => RDO B N g g' ∧ z = 1) (fun g' => zW tA K ad g') 2100 12600 := by
  refine zHi_ofC (cc := cL_routes) (maxL := 10) (by decide) rfl (fun z u h => zbool z (by have := h.2; omega)) (Nat.le_of_ble_eq_true rfl) ?_
  intro p e s m args below meth c A Q ls hx hb hml hts hown hK hP hD hA hZ hret hl
  obtain ⟨H, hHe⟩ : ∃ H : Heap, H = s.heap := ⟨_, rfl⟩
  have hS : va_S A s.heap H [] := by rw [hHe]; exact va_S.rf
  rw [← hHe] at hP ⊢
  have hP := zP_i hP
  have hD := zD_i hD
  have hr : RDO B N g g := RDO_refl hok
  have hl : lv_has ls 10 [(0, .ref (ad 0))] := hl
  obtain ⟨hokv, hhn, hhc, hln, htx, hva, hcm, hlc, hlb⟩ := id hok
  obtain ⟨hsv, hnv⟩ := id hokv
  obtain ⟨hch, hu, hcc, hsp, hmo, hfg, hrg, hni, hfd, hmt, hld, hbr⟩ := SVk_out (show SVk B N (eSv (GL_v g)) from hsv)
  have hpp : 0 ≤ GL_v g 0 0 ∧ GL_v g 0 0 ≤ 10 := ⟨hch.1, hch.2.1⟩
  have hlg : 0 ≤ GL_v g 1 0 ∧ GL_v g 1 0 ≤ 20 := ⟨hch.2.2.1, hch.2.2.2.1⟩
  refine lv_aload_n hx hb dL_routes_0 rfl (lv_at hl 0 rfl) ?_
  refine zt_callVi (As := []) (rest := []) (L := [zW tA K ad g]) (Lc := [zW tA K ad g]) (Lr := []) (Lc' := fun (u : GL) => [zW tA K ad u]) (Lf := fun (u : GL) => [zW tA K ad u]) (is := [0]) (isF := [0]) ⟨hx, hb, hml, hown, hts⟩ (q_X10_portCount hst hB hr.1  ) (cwV 0 hts (goodIn_wid gL_routes_X10_portCount) rfl rfl rfl (by decide +kernel) ⟨Nat.le_of_ble_eq_true rfl, Nat.le_of_ble_eq_true rfl⟩) hK hP hD hS hA hZ (zCut_1 _) (zBack_1 _) (ci := 12) (q0 := 0) rfl rfl (zW_0 tA K ad g) rfl rfl hl.1 (Nat.le_of_ble_eq_true rfl) dL_routes_1 (by show _ + 0 ≤ 2100 ∧ _ + 0 ≤ 12600; omega) ?_
  intro z1_1 g1_0 H locs hp9 hP hD hS
  have q1 := hp9.2
  try rw [hr.2.1] at q1
  have hr := RDO_trans hr hp9.1
  clear hp9
  refine lv_istore_n (lv' := [(1, .int (iI z1_1)), (0, .ref (ad 0))]) hx hb dL_routes_4 rfl hl (by decide) rfl (fun ls hl => ?_)
  refine zz_iconst hx hb dL_routes_5 ?_
  refine lv_istore_n (lv' := [(2, .int (iI 0)), (1, .int (iI z1_1)), (0, .ref (ad 0))]) hx hb dL_routes_6 rfl hl (by decide) rfl (fun ls hl => ?_)
  refine zz_iconst hx hb dL_routes_7 ?_
  refine lv_istore_n (lv' := [(3, .int (iI 0)), (2, .int (iI 0)), (1, .int (iI z1_1)), (0, .ref (ad 0))]) hx hb dL_routes_8 rfl hl (by decide) rfl (fun ls hl => ?_)
  have L9 : ∀ (f9 : Nat) (i_ : Int) (c_ : Int) (g9 : GL) (k9 : Nat) (n9 : Nat) (H : Heap) (locs : List Loc) (ls : Array Slot), (RDO B N g g9) → (0 ≤ i_ ∧ i_ ≤ GL_v g 0 0) → (0 ≤ c_ ∧ c_ ≤ i_) → (grC (sE (GL_v g) (GL_v g 13 0)) i_ c_) → (((k9 : Nat) : Int) ≤ 200 * i_ ∧ ((n9 : Nat) : Int) ≤ 6 * (200 * i_)) → (GL_v g 0 0 - i_).toNat < f9 → va_P D vwCl [zW tA K ad g9].flatten H → va_D A [zW tA K ad g9].flatten → va_S A s.heap H locs → lv_has ls 10 [(3, .int (iI i_)), (2, .int (iI c_)), (1, .int (iI z1_1)), (0, .ref (ad 0))] → W p l e (headSpec (wsL_routes ++ xL) ({ frames := 77, cells := 2100, slots := 12600, locals := 4117 })).room s m args below meth c H locs k9 n9 Q (F0 m 9 ls []) := by
    intro f9
    induction f9 with
    | zero => intro i_ c_ g9 k9 n9 H locs ls hr hi hcr hc hk9 hmz; exact absurd hmz (Nat.not_lt_zero _)
    | succ f9 ih9 =>
      intro i_ c_ g9 k9 n9 H locs ls hr hi hcr hc hk9 hmz hP hD hS hl
      refine lv_iload_n hx hb dL_routes_9 rfl (lv_at hl 0 rfl) ?_
      refine lv_iload_n hx hb dL_routes_10 rfl (lv_at hl 2 rfl) ?_
      refine zz_icmp_ge (tgt := 374) hx hb dL_routes_11 (by decide) (by omega) (by omega) (fun c_11 => ?_) (fun c_11 => ?_)
      · refine lv_aload_n hx hb dL_routes_374 rfl (lv_at hl 3 rfl) ?_
        refine zt_callVi (As := []) (rest := []) (L := [zW tA K ad g9]) (Lc := [zW tA K ad g9]) (Lr := []) (Lc' := fun (u : GL) => [zW tA K ad u]) (Lf := fun (u : GL) => [zW tA K ad u]) (is := [0]) (isF := [0]) ⟨hx, hb, hml, hown, hts⟩ (q_X10_litGroups hst hB hr.1  ) (cwV 0 hts (goodIn_wid gL_routes_X10_litGroups) rfl rfl rfl (by decide +kernel) ⟨Nat.le_of_ble_eq_true rfl, Nat.le_of_ble_eq_true rfl⟩) hK hP hD hS hA hZ (zCut_1 _) (zBack_1 _) (ci := 12) (q0 := 0) rfl rfl (zW_0 tA K ad g9) rfl rfl hl.1 (Nat.le_of_ble_eq_true rfl) dL_routes_375 (by show _ + 0 ≤ 2100 ∧ _ + 0 ≤ 12600; omega) ?_
        intro z375_3 g375_2 H locs hp9 hP hD hS
        have q375 := hp9.2
        try rw [hr.2.1] at q375
        have hr := RDO_trans hr hp9.1
        clear hp9
        have e375 : z375_3 = c_ := by
          have hi9 : i_ = GL_v g 0 0 := by omega
          rw [hi9] at hc
          exact grp_uq q375 (grC_end hc)
        refine lv_iload_n hx hb dL_routes_378 rfl (lv_at hl 1 rfl) ?_
        refine zz_icmp_ne (tgt := 448) hx hb dL_routes_379 (by decide) (by omega) (by omega) (fun c_379 => ?_) (fun c_379 => ?_)
        · exfalso
          omega
        · refine lv_aload_n hx hb dL_routes_382 rfl (lv_at hl 3 rfl) ?_
          refine zt_callVi (As := []) (rest := []) (L := [zW tA K ad g375_2]) (Lc := [zW tA K ad g375_2]) (Lr := []) (Lc' := fun (u : GL) => [zW tA K ad u]) (Lf := fun (u : GL) => [zW tA K ad u]) (is := [0]) (isF := [0]) ⟨hx, hb, hml, hown, hts⟩ (q_X10_isConsistent hst hB hr.1  ) (cwV 0 hts (goodIn_wid gL_routes_X10_isConsistent) rfl rfl rfl (by decide +kernel) ⟨Nat.le_of_ble_eq_true rfl, Nat.le_of_ble_eq_true rfl⟩) hK hP hD hS hA hZ (zCut_1 _) (zBack_1 _) (ci := 12) (q0 := 0) rfl rfl (zW_0 tA K ad g375_2) rfl rfl hl.1 (Nat.le_of_ble_eq_true rfl) dL_routes_383 (by show _ + 0 ≤ 2100 ∧ _ + 0 ≤ 12600; omega) ?_
          intro z383_5 g383_4 H locs hp9 hP hD hS
          have q383 := hp9.2
          try rw [hr.2.1] at q383
          have hr := RDO_trans hr hp9.1
          clear hp9
          refine zz_if_eq (tgt := 448) hx hb dL_routes_386 (by decide) (by omega) (fun c_386 => ?_) (fun c_386 => ?_)
          · exfalso
            omega
          · refine lv_aload_n hx hb dL_routes_389 rfl (lv_at hl 3 rfl) ?_
            refine lv_iload_n hx hb dL_routes_390 rfl (lv_at hl 2 rfl) ?_
            refine zz_iconst hx hb dL_routes_391 ?_
            refine zh_callSi_ch (As := [.ref (ad 0), .int (iI z1_1), .int (iI 0)]) (rest := []) (L := [zW tA K ad g383_4]) (Lc := [zW tA K ad g383_4]) (Lr := []) (Lc' := fun (u : GL) => [zW tA K ad u]) (Lf := fun (u : GL) => [zW tA K ad u]) (is := [0]) (isF := [0]) ⟨hx, hb, hml, hown, hts⟩ (q_L_distance hst hB hr.1 z1_1 0 (by omega) (by decide)) (vx_cwSW 3 hts (gx_ww gL_routes_L_distance) rfl rfl rfl (by decide +kernel) ⟨Nat.le_of_ble_eq_true rfl, Nat.le_of_ble_eq_true rfl⟩) hK hP hD hS hA hZ (zCut_1 _) (zBack_1 _) rfl rfl hl.1 (Nat.le_of_ble_eq_true rfl) dL_routes_392 (by show _ + 2 ≤ 2100 ∧ _ + 12 ≤ 12600; omega) ?_
            intro z392_7 g392_6 H locs hp9 hP hD hS
            have q392 := hp9.2
            try rw [hr.2.1] at q392
            have hr := RDO_trans hr hp9.1
            clear hp9
            have q392 := q392.elim (fun h => h.2) (fun h => absurd h.1 (fun h => by unfold inP at h; omega))
            refine zz_bipush hx hb dL_routes_395 (by decide) ?_
            refine zz_icmp_ne (tgt := 448) hx hb dL_routes_397 (by decide) (by omega) (by decide) (fun c_397 => ?_) (fun c_397 => ?_)
            · exfalso
              omega
            · refine lv_aload_n hx hb dL_routes_400 rfl (lv_at hl 3 rfl) ?_
              refine zz_iconst hx hb dL_routes_401 ?_
              refine lv_iload_n hx hb dL_routes_402 rfl (lv_at hl 2 rfl) ?_
              refine zh_callSi_ch (As := [.ref (ad 0), .int (iI 0), .int (iI z1_1)]) (rest := []) (L := [zW tA K ad g392_6]) (Lc := [zW tA K ad g392_6]) (Lr := []) (Lc' := fun (u : GL) => [zW tA K ad u]) (Lf := fun (u : GL) => [zW tA K ad u]) (is := [0]) (isF := [0]) ⟨hx, hb, hml, hown, hts⟩ (q_L_byRounds hst hB hr.1 0 z1_1 (by decide) (by omega)) (vx_cwSW 3 hts (gx_ww gL_routes_L_byRounds) rfl rfl rfl (by decide +kernel) ⟨Nat.le_of_ble_eq_true rfl, Nat.le_of_ble_eq_true rfl⟩) hK hP hD hS hA hZ (zCut_1 _) (zBack_1 _) rfl rfl hl.1 (Nat.le_of_ble_eq_true rfl) dL_routes_403 (by show _ + 2 ≤ 2100 ∧ _ + 12 ≤ 12600; omega) ?_
              intro z403_9 g403_8 H locs hp9 hP hD hS
              have q403 := hp9.2
              try rw [hr.2.1] at q403
              have hr := RDO_trans hr hp9.1
              clear hp9
              have q403 := q403.elim (fun h => h.2) (fun h => absurd h.1 (fun h => by unfold inP at h; omega))
              refine zz_bipush hx hb dL_routes_406 (by decide) ?_
              refine zz_icmp_ne (tgt := 448) hx hb dL_routes_408 (by decide) (by omega) (by decide) (fun c_408 => ?_) (fun c_408 => ?_)
              · exfalso
                omega
              · refine lv_aload_n hx hb dL_routes_411 rfl (lv_at hl 3 rfl) ?_
                refine zz_iconst hx hb dL_routes_412 ?_
                refine zz_iconst hx hb dL_routes_413 ?_
                refine zh_callSi_ch (As := [.ref (ad 0), .int (iI (-1)), .int (iI 0)]) (rest := []) (L := [zW tA K ad g403_8]) (Lc := [zW tA K ad g403_8]) (Lr := []) (Lc' := fun (u : GL) => [zW tA K ad u]) (Lf := fun (u : GL) => [zW tA K ad u]) (is := [0]) (isF := [0]) ⟨hx, hb, hml, hown, hts⟩ (q_L_litDistance hst hB hr.1 (-1) 0 (by decide) (by decide)) (vx_cwSW 3 hts (gx_ww gL_routes_L_litDistance) rfl rfl rfl (by decide +kernel) ⟨Nat.le_of_ble_eq_true rfl, Nat.le_of_ble_eq_true rfl⟩) hK hP hD hS hA hZ (zCut_1 _) (zBack_1 _) rfl rfl hl.1 (Nat.le_of_ble_eq_true rfl) dL_routes_414 (by show _ + 2 ≤ 2100 ∧ _ + 12 ≤ 12600; omega) ?_
                intro z414_11 g414_10 H locs hp9 hP hD hS
                have q414 := hp9.2
                try rw [hr.2.1] at q414
                have hr := RDO_trans hr hp9.1
                clear hp9
                have q414 := q414.elim (fun h => h.2) (fun h => absurd h.1 (fun h => by unfold inP at h; omega))
                refine zz_bipush hx hb dL_routes_417 (by decide) ?_
                refine zz_icmp_ne (tgt := 448) hx hb dL_routes_419 (by decide) (by omega) (by decide) (fun c_419 => ?_) (fun c_419 => ?_)
                · exfalso
                  omega
                · refine lv_aload_n hx hb dL_routes_422 rfl (lv_at hl 3 rfl) ?_
                  refine lv_iload_n hx hb dL_routes_423 rfl (lv_at hl 2 rfl) ?_
                  refine lv_iload_n hx hb dL_routes_424 rfl (lv_at hl 2 rfl) ?_
                  refine zh_callSi_ch (As := [.ref (ad 0), .int (iI z1_1), .int (iI z1_1)]) (rest := []) (L := [zW tA K ad g414_10]) (Lc := [zW tA K ad g414_10]) (Lr := []) (Lc' := fun (u : GL) => [zW tA K ad u]) (Lf := fun (u : GL) => [zW tA K ad u]) (is := [0]) (isF := [0]) ⟨hx, hb, hml, hown, hts⟩ (q_L_needed hst hB hr.1 z1_1 z1_1 (by omega) (by omega)) (vx_cwSW 3 hts (gx_ww gL_routes_L_needed) rfl rfl rfl (by decide +kernel) ⟨Nat.le_of_ble_eq_true rfl, Nat.le_of_ble_eq_true rfl⟩) hK hP hD hS hA hZ (zCut_1 _) (zBack_1 _) rfl rfl hl.1 (Nat.le_of_ble_eq_true rfl) dL_routes_425 (by show _ + 3 ≤ 2100 ∧ _ + 18 ≤ 12600; omega) ?_
                  intro z425_13 g425_12 H locs hp9 hP hD hS
                  have q425 := hp9.2
                  try rw [hr.2.1] at q425
                  have hr := RDO_trans hr hp9.1
                  clear hp9
                  have q425 := q425.elim (fun h => h.2) (fun h => absurd h.1 (fun h => by unfold inP at h; omega))
                  refine zz_bipush hx hb dL_routes_428 (by decide) ?_
                  refine zz_icmp_ne (tgt := 448) hx hb dL_routes_430 (by decide) (by omega) (by decide) (fun c_430 => ?_) (fun c_430 => ?_)
                  · exfalso
                    omega
                  · refine lv_aload_n hx hb dL_routes_433 rfl (lv_at hl 3 rfl) ?_
                    refine zz_iconst hx hb dL_routes_434 ?_
                    refine zz_iconst hx hb dL_routes_435 ?_
                    refine zh_callSi_ch (As := [.ref (ad 0), .int (iI 0), .int (iI (-1))]) (rest := []) (L := [zW tA K ad g425_12]) (Lc := [zW tA K ad g425_12]) (Lr := []) (Lc' := fun (u : GL) => [zW tA K ad u]) (Lf := fun (u : GL) => [zW tA K ad u]) (is := [0]) (isF := [0]) ⟨hx, hb, hml, hown, hts⟩ (q_L_byTrial hst hB hr.1 0 (-1) (by decide) (by decide)) (vx_cwSW 3 hts (gx_ww gL_routes_L_byTrial) rfl rfl rfl (by decide +kernel) ⟨Nat.le_of_ble_eq_true rfl, Nat.le_of_ble_eq_true rfl⟩) hK hP hD hS hA hZ (zCut_1 _) (zBack_1 _) rfl rfl hl.1 (Nat.le_of_ble_eq_true rfl) dL_routes_436 (by show _ + 3 ≤ 2100 ∧ _ + 18 ≤ 12600; omega) ?_
                    intro z436_15 g436_14 H locs hp9 hP hD hS
                    have q436 := hp9.2
                    try rw [hr.2.1] at q436
                    have hr := RDO_trans hr hp9.1
                    clear hp9
                    have q436 := q436.elim (fun h => h.2) (fun h => absurd h.1 (fun h => by unfold inP at h; omega))
                    refine zz_bipush hx hb dL_routes_439 (by decide) ?_
                    refine zz_icmp_ne (tgt := 448) hx hb dL_routes_441 (by decide) (by omega) (by decide) (fun c_441 => ?_) (fun c_441 => ?_)
                    · exfalso
                      omega
                    · refine zz_iconst hx hb dL_routes_444 ?_
                      refine lv_goto (tgt := 449) hx hb dL_routes_445 (by decide) ?_
                      have hfin : (fun (z : Int) (g' : GL) => RDO B N g g' ∧ z = 1) (1 : Int) g436_14 := by
                        exact ⟨hr, rfl⟩
                      exact hret (1) g436_14 H locs _ _ _ _ (by omega) (by omega) dL_routes_449 hfin (zP_o hP) (zD_o hD) hS
      · refine zz_iconst hx hb dL_routes_14 ?_
        refine lv_istore (lv' := [(4, .int (iI 1)), (3, .int (iI i_)), (2, .int (iI c_)), (1, .int (iI z1_1)), (0, .ref (ad 0))]) hx hb dL_routes_15 hl (by decide) rfl (fun ls hl => ?_)
        refine zz_iconst hx hb dL_routes_17 ?_
        refine lv_istore (lv' := [(5, .int (iI 0)), (4, .int (iI 1)), (3, .int (iI i_)), (2, .int (iI c_)), (1, .int (iI z1_1)), (0, .ref (ad 0))]) hx hb dL_routes_18 hl (by decide) rfl (fun ls hl => ?_)
        have L20 : ∀ (f9 : Nat) (j_ : Int) (f_ : Int) (g20 : GL) (k9 : Nat) (n9 : Nat) (H : Heap) (locs : List Loc) (ls : Array Slot), (RDO B N g g20) → (0 ≤ j_ ∧ j_ ≤ GL_v g 0 0) → (fsP (sE (GL_v g) (GL_v g 13 0)) i_ j_ f_) → (((k9 : Nat) : Int) ≤ 200 * i_ + 20 * j_ ∧ ((n9 : Nat) : Int) ≤ 6 * (200 * i_ + 20 * j_)) → (GL_v g 0 0 - j_).toNat < f9 → va_P D vwCl [zW tA K ad g20].flatten H → va_D A [zW tA K ad g20].flatten → va_S A s.heap H locs → lv_has ls 10 [(5, .int (iI j_)), (4, .int (iI f_)), (3, .int (iI i_)), (2, .int (iI c_)), (1, .int (iI z1_1)), (0, .ref (ad 0))] → W p l e (headSpec (wsL_routes ++ xL) ({ frames := 77, cells := 2100, slots := 12600, locals := 4117 })).room s m args below meth c H locs k9 n9 Q (F0 m 20 ls []) := by
          intro f9
          induction f9 with
          | zero => intro j_ f_ g20 k9 n9 H locs ls hr hj hf hk9 hmz; exact absurd hmz (Nat.not_lt_zero _)
          | succ f9 ih20 =>
            intro j_ f_ g20 k9 n9 H locs ls hr hj hf hk9 hmz hP hD hS hl
            have hf00 := fsP_01 hf
            refine lv_iload hx hb dL_routes_20 (lv_at hl 0 rfl) ?_
            refine lv_iload_n hx hb dL_routes_22 rfl (lv_at hl 4 rfl) ?_
            refine zz_icmp_ge (tgt := 355) hx hb dL_routes_23 (by decide) (by omega) (by omega) (fun c_23 => ?_) (fun c_23 => ?_)
            · refine lv_iload_n hx hb dL_routes_355 rfl (lv_at hl 3 rfl) ?_
              refine lv_iload hx hb dL_routes_356 (lv_at hl 1 rfl) ?_
              refine zz_if_eq (tgt := 365) hx hb dL_routes_358 (by decide) (by omega) (fun c_358 => ?_) (fun c_358 => ?_)
              · refine zz_iconst hx hb dL_routes_365 ?_
                refine zz_iadd hx hb dL_routes_366 ?_
                refine lv_istore_n (lv' := [(2, .int (iI (c_ + 0))), (5, .int (iI j_)), (4, .int (iI f_)), (3, .int (iI i_)), (1, .int (iI z1_1)), (0, .ref (ad 0))]) hx hb dL_routes_367 rfl hl (by decide) rfl (fun ls hl => ?_)
                have hcn : grC (sE (GL_v g) (GL_v g 13 0)) (i_ + 1) (c_ + 0) := by
                  have e2 : j_ = GL_v g 0 0 := by omega
                  have e1 : f_ = 0 := by omega
                  rw [e1, e2] at hf
                  exact grC_s (by omega) (by omega) hc hf
                refine zz_iinc (lv' := [(3, .int (iI (i_ + 1))), (2, .int (iI (c_ + 0))), (5, .int (iI j_)), (4, .int (iI f_)), (1, .int (iI z1_1)), (0, .ref (ad 0))]) hx hb dL_routes_368 hl (k := 3) rfl (by decide) rfl (fun ls hl => ?_)
                refine lv_goto (tgt := 9) hx hb dL_routes_371 (by decide) ?_
                exact ih9 (i_ + 1) (c_ + 0) g20 _ _ _ _ _ (by exact hr) (by omega) (by omega) (by exact hcn) (by omega) (by omega) hP hD hS (lv_sub hl [0, 1, 4, 5] rfl)
              · refine zz_iconst hx hb dL_routes_361 ?_
                refine lv_goto (tgt := 366) hx hb dL_routes_362 (by decide) ?_
                refine zz_iadd hx hb dL_routes_366 ?_
                refine lv_istore_n (lv' := [(2, .int (iI (c_ + 1))), (5, .int (iI j_)), (4, .int (iI f_)), (3, .int (iI i_)), (1, .int (iI z1_1)), (0, .ref (ad 0))]) hx hb dL_routes_367 rfl hl (by decide) rfl (fun ls hl => ?_)
                have hcn : grC (sE (GL_v g) (GL_v g 13 0)) (i_ + 1) (c_ + 1) := by
                  have e2 : j_ = GL_v g 0 0 := by omega
                  have e1 : f_ = 1 := by omega
                  rw [e1, e2] at hf
                  exact grC_s (by omega) (by omega) hc hf
                refine zz_iinc (lv' := [(3, .int (iI (i_ + 1))), (2, .int (iI (c_ + 1))), (5, .int (iI j_)), (4, .int (iI f_)), (1, .int (iI z1_1)), (0, .ref (ad 0))]) hx hb dL_routes_368 hl (k := 3) rfl (by decide) rfl (fun ls hl => ?_)
                refine lv_goto (tgt := 9) hx hb dL_routes_371 (by decide) ?_
                exact ih9 (i_ + 1) (c_ + 1) g20 _ _ _ _ _ (by exact hr) (by omega) (by omega) (by exact hcn) (by omega) (by omega) hP hD hS (lv_sub hl [0, 1, 4, 5] rfl)
            · have hin9 : inP (GL_v g 0 0) i_ j_ := ⟨by omega, by omega, by omega, by omega⟩
              have J70 : ∀ (way_ : Int) (g70 : GL) (k9 : Nat) (n9 : Nat) (H : Heap) (locs : List Loc) (ls : Array Slot), (RDO B N g g70) → (wDist 20 (GL_v g) i_ j_ way_) → (((k9 : Nat) : Int) ≤ 200 * i_ + 20 * j_ + 2 ∧ ((n9 : Nat) : Int) ≤ 6 * (200 * i_ + 20 * j_ + 2)) → va_P D vwCl [zW tA K ad g70].flatten H → va_D A [zW tA K ad g70].flatten → va_S A s.heap H locs → lv_has ls 10 [(6, .int (iI way_)), (5, .int (iI j_)), (4, .int (iI f_)), (3, .int (iI i_)), (2, .int (iI c_)), (1, .int (iI z1_1)), (0, .ref (ad 0))] → W p l e (headSpec (wsL_routes ++ xL) ({ frames := 77, cells := 2100, slots := 12600, locals := 4117 })).room s m args below meth c H locs k9 n9 Q (F0 m 70 ls []) := by
                intro way_ g70 k9 n9 H locs ls hr hw hk9 hP hD hS hl
                have hw8 := wDist_cn hin9 (hch.egOk 20) hpp.2 hw
                have hw9 : (way_ = -13 ∧ ¬ cn (sE (GL_v g) 20) i_ j_) ∨ (0 ≤ way_ ∧ cn (sE (GL_v g) 20) i_ j_) := hw8.elim (fun h => Or.inl h) (fun h => Or.inr ⟨h.1, h.2.2.1⟩)
                have J116 : ∀ (lit_ : Int) (g116 : GL) (k9 : Nat) (n9 : Nat) (H : Heap) (locs : List Loc) (ls : Array Slot), (RDO B N g g116) → (wDist (GL_v g 13 0) (GL_v g) i_ j_ lit_) → (((k9 : Nat) : Int) ≤ 200 * i_ + 20 * j_ + 4 ∧ ((n9 : Nat) : Int) ≤ 6 * (200 * i_ + 20 * j_ + 4)) → va_P D vwCl [zW tA K ad g116].flatten H → va_D A [zW tA K ad g116].flatten → va_S A s.heap H locs → lv_has ls 10 [(7, .int (iI lit_)), (6, .int (iI way_)), (5, .int (iI j_)), (4, .int (iI f_)), (3, .int (iI i_)), (2, .int (iI c_)), (1, .int (iI z1_1)), (0, .ref (ad 0))] → W p l e (headSpec (wsL_routes ++ xL) ({ frames := 77, cells := 2100, slots := 12600, locals := 4117 })).room s m args below meth c H locs k9 n9 Q (F0 m 116 ls []) := by
                  intro lit_ g116 k9 n9 H locs ls hr hlw hk9 hP hD hS hl
                  have hl8 := wDist_cn hin9 (hch.egOk _) hpp.2 hlw
                  have hl9 : (lit_ = -13 ∧ ¬ cn (sE (GL_v g) (GL_v g 13 0)) i_ j_) ∨ (0 ≤ lit_ ∧ cn (sE (GL_v g) (GL_v g 13 0)) i_ j_) := hl8.elim (fun h => Or.inl h) (fun h => Or.inr ⟨h.1, h.2.2.1⟩)
                  have hf01 := fsP_01 hf
                  have J141 : ∀ (f2_ : Int) (g141 : GL) (k9 : Nat) (n9 : Nat) (H : Heap) (locs : List Loc) (ls : Array Slot), (RDO B N g g141) → (fsP (sE (GL_v g) (GL_v g 13 0)) i_ (j_ + 1) f2_) → (((k9 : Nat) : Int) ≤ 200 * i_ + 20 * j_ + 4 ∧ ((n9 : Nat) : Int) ≤ 6 * (200 * i_ + 20 * j_ + 4)) → va_P D vwCl [zW tA K ad g141].flatten H → va_D A [zW tA K ad g141].flatten → va_S A s.heap H locs → lv_has ls 10 [(4, .int (iI f2_)), (7, .int (iI lit_)), (6, .int (iI way_)), (5, .int (iI j_)), (3, .int (iI i_)), (2, .int (iI c_)), (1, .int (iI z1_1)), (0, .ref (ad 0))] → W p l e (headSpec (wsL_routes ++ xL) ({ frames := 77, cells := 2100, slots := 12600, locals := 4117 })).room s m args below meth c H locs k9 n9 Q (F0 m 141 ls []) := by
                    intro f2_ g141 k9 n9 H locs ls hr hf2 hk9 hP hD hS hl
                    refine lv_aload_n hx hb dL_routes_141 rfl (lv_at hl 7 rfl) ?_
                    refine lv_iload_n hx hb dL_routes_142 rfl (lv_at hl 4 rfl) ?_
                    refine lv_iload hx hb dL_routes_143 (lv_at hl 3 rfl) ?_
                    refine zh_callSi_ch (As := [.ref (ad 0), .int (iI i_), .int (iI j_)]) (rest := []) (L := [zW tA K ad g141]) (Lc := [zW tA K ad g141]) (Lr := []) (Lc' := fun (u : GL) => [zW tA K ad u]) (Lf := fun (u : GL) => [zW tA K ad u]) (is := [0]) (isF := [0]) ⟨hx, hb, hml, hown, hts⟩ (q_L_distance hst hB hr.1 i_ j_ (by omega) (by omega)) (vx_cwSW 3 hts (gx_ww gL_routes_L_distance) rfl rfl rfl (by decide +kernel) ⟨Nat.le_of_ble_eq_true rfl, Nat.le_of_ble_eq_true rfl⟩) hK hP hD hS hA hZ (zCut_1 _) (zBack_1 _) rfl rfl hl.1 (Nat.le_of_ble_eq_true rfl) dL_routes_145 (by show _ + 2 ≤ 2100 ∧ _ + 12 ≤ 12600; omega) ?_
                    intro z145_17 g145_16 H locs hp9 hP hD hS
                    have q145 := hp9.2
                    try rw [hr.2.1] at q145
                    have hr := RDO_trans hr hp9.1
                    clear hp9
                    have q145 := wDist_uq q145 hw
                    refine lv_iload hx hb dL_routes_148 (lv_at hl 2 rfl) ?_
                    refine zz_icmp_ne (tgt := 189) hx hb dL_routes_150 (by decide) (by omega) (by omega) (fun c_150 => ?_) (fun c_150 => ?_)
                    · exfalso
                      omega
                    · refine lv_aload_n hx hb dL_routes_153 rfl (lv_at hl 7 rfl) ?_
                      refine lv_iload_n hx hb dL_routes_154 rfl (lv_at hl 4 rfl) ?_
                      refine lv_iload hx hb dL_routes_155 (lv_at hl 3 rfl) ?_
                      refine zh_callSi_ch (As := [.ref (ad 0), .int (iI i_), .int (iI j_)]) (rest := []) (L := [zW tA K ad g145_16]) (Lc := [zW tA K ad g145_16]) (Lr := []) (Lc' := fun (u : GL) => [zW tA K ad u]) (Lf := fun (u : GL) => [zW tA K ad u]) (is := [0]) (isF := [0]) ⟨hx, hb, hml, hown, hts⟩ (q_L_byRounds hst hB hr.1 i_ j_ (by omega) (by omega)) (vx_cwSW 3 hts (gx_ww gL_routes_L_byRounds) rfl rfl rfl (by decide +kernel) ⟨Nat.le_of_ble_eq_true rfl, Nat.le_of_ble_eq_true rfl⟩) hK hP hD hS hA hZ (zCut_1 _) (zBack_1 _) rfl rfl hl.1 (Nat.le_of_ble_eq_true rfl) dL_routes_157 (by show _ + 2 ≤ 2100 ∧ _ + 12 ≤ 12600; omega) ?_
                      intro z157_19 g157_18 H locs hp9 hP hD hS
                      have q157 := hp9.2
                      try rw [hr.2.1] at q157
                      have hr := RDO_trans hr hp9.1
                      clear hp9
                      have q157 := wDist_uq q157 hw
                      refine lv_iload hx hb dL_routes_160 (lv_at hl 2 rfl) ?_
                      refine zz_icmp_ne (tgt := 189) hx hb dL_routes_162 (by decide) (by omega) (by omega) (fun c_162 => ?_) (fun c_162 => ?_)
                      · exfalso
                        omega
                      · refine lv_aload_n hx hb dL_routes_165 rfl (lv_at hl 7 rfl) ?_
                        refine lv_iload_n hx hb dL_routes_166 rfl (lv_at hl 4 rfl) ?_
                        refine lv_iload hx hb dL_routes_167 (lv_at hl 3 rfl) ?_
                        refine zh_callSi_ch (As := [.ref (ad 0), .int (iI i_), .int (iI j_)]) (rest := []) (L := [zW tA K ad g157_18]) (Lc := [zW tA K ad g157_18]) (Lr := []) (Lc' := fun (u : GL) => [zW tA K ad u]) (Lf := fun (u : GL) => [zW tA K ad u]) (is := [0]) (isF := [0]) ⟨hx, hb, hml, hown, hts⟩ (q_L_litDistance hst hB hr.1 i_ j_ (by omega) (by omega)) (vx_cwSW 3 hts (gx_ww gL_routes_L_litDistance) rfl rfl rfl (by decide +kernel) ⟨Nat.le_of_ble_eq_true rfl, Nat.le_of_ble_eq_true rfl⟩) hK hP hD hS hA hZ (zCut_1 _) (zBack_1 _) rfl rfl hl.1 (Nat.le_of_ble_eq_true rfl) dL_routes_169 (by show _ + 2 ≤ 2100 ∧ _ + 12 ≤ 12600; omega) ?_
                        intro z169_21 g169_20 H locs hp9 hP hD hS
                        have q169 := hp9.2
                        try rw [hr.2.1] at q169
                        have hr := RDO_trans hr hp9.1
                        clear hp9
                        have q169 := wDist_uq q169 hlw
                        refine lv_iload hx hb dL_routes_172 (lv_at hl 1 rfl) ?_
                        refine zz_icmp_ne (tgt := 189) hx hb dL_routes_174 (by decide) (by omega) (by omega) (fun c_174 => ?_) (fun c_174 => ?_)
                        · exfalso
                          omega
                        · refine lv_iload hx hb dL_routes_177 (lv_at hl 1 rfl) ?_
                          refine zz_if_lt (tgt := 191) hx hb dL_routes_179 (by decide) (by omega) (fun c_179 => ?_) (fun c_179 => ?_)
                          · refine lv_aload_n hx hb dL_routes_191 rfl (lv_at hl 7 rfl) ?_
                            refine lv_iload_n hx hb dL_routes_192 rfl (lv_at hl 4 rfl) ?_
                            refine lv_iload hx hb dL_routes_193 (lv_at hl 3 rfl) ?_
                            refine zh_callSi_ch (As := [.ref (ad 0), .int (iI i_), .int (iI j_)]) (rest := []) (L := [zW tA K ad g169_20]) (Lc := [zW tA K ad g169_20]) (Lr := []) (Lc' := fun (u : GL) => [zW tA K ad u]) (Lf := fun (u : GL) => [zW tA K ad u]) (is := [0]) (isF := [0]) ⟨hx, hb, hml, hown, hts⟩ (q_L_needed hst hB hr.1 i_ j_ (by omega) (by omega)) (vx_cwSW 3 hts (gx_ww gL_routes_L_needed) rfl rfl rfl (by decide +kernel) ⟨Nat.le_of_ble_eq_true rfl, Nat.le_of_ble_eq_true rfl⟩) hK hP hD hS hA hZ (zCut_1 _) (zBack_1 _) rfl rfl hl.1 (Nat.le_of_ble_eq_true rfl) dL_routes_195 (by show _ + 3 ≤ 2100 ∧ _ + 18 ≤ 12600; omega) ?_
                            intro z195_23 g195_22 H locs hp9 hP hD hS
                            have q195 := hp9.2
                            try rw [hr.2.1] at q195
                            have hr := RDO_trans hr hp9.1
                            clear hp9
                            have w195 := q195
                            have q195 := wNeed_f hin9 hch hrg hw9 hl9 q195
                            refine lv_istore (lv' := [(8, .int (iI z195_23)), (4, .int (iI f2_)), (7, .int (iI lit_)), (6, .int (iI way_)), (5, .int (iI j_)), (3, .int (iI i_)), (2, .int (iI c_)), (1, .int (iI z1_1)), (0, .ref (ad 0))]) hx hb dL_routes_198 hl (by decide) rfl (fun ls hl => ?_)
                            have J292 : ∀ (g292 : GL) (k9 : Nat) (n9 : Nat) (H : Heap) (locs : List Loc) (ls : Array Slot), (RDO B N g g292) → (((k9 : Nat) : Int) ≤ 200 * i_ + 20 * j_ + 14 ∧ ((n9 : Nat) : Int) ≤ 6 * (200 * i_ + 20 * j_ + 14)) → va_P D vwCl [zW tA K ad g292].flatten H → va_D A [zW tA K ad g292].flatten → va_S A s.heap H locs → lv_has ls 10 [(8, .int (iI z195_23)), (4, .int (iI f2_)), (7, .int (iI lit_)), (6, .int (iI way_)), (5, .int (iI j_)), (3, .int (iI i_)), (2, .int (iI c_)), (1, .int (iI z1_1)), (0, .ref (ad 0))] → W p l e (headSpec (wsL_routes ++ xL) ({ frames := 77, cells := 2100, slots := 12600, locals := 4117 })).room s m args below meth c H locs k9 n9 Q (F0 m 292 ls []) := by
                              intro g292 k9 n9 H locs ls hr hk9 hP hD hS hl
                              refine lv_aload_n hx hb dL_routes_292 rfl (lv_at hl 8 rfl) ?_
                              refine lv_iload_n hx hb dL_routes_293 rfl (lv_at hl 5 rfl) ?_
                              refine lv_iload hx hb dL_routes_294 (lv_at hl 4 rfl) ?_
                              refine zh_callSi_ch (As := [.ref (ad 0), .int (iI i_), .int (iI j_)]) (rest := []) (L := [zW tA K ad g292]) (Lc := [zW tA K ad g292]) (Lr := []) (Lc' := fun (u : GL) => [zW tA K ad u]) (Lf := fun (u : GL) => [zW tA K ad u]) (is := [0]) (isF := [0]) ⟨hx, hb, hml, hown, hts⟩ (q_L_byTrial hst hB hr.1 i_ j_ (by omega) (by omega)) (vx_cwSW 3 hts (gx_ww gL_routes_L_byTrial) rfl rfl rfl (by decide +kernel) ⟨Nat.le_of_ble_eq_true rfl, Nat.le_of_ble_eq_true rfl⟩) hK hP hD hS hA hZ (zCut_1 _) (zBack_1 _) rfl rfl hl.1 (Nat.le_of_ble_eq_true rfl) dL_routes_296 (by show _ + 3 ≤ 2100 ∧ _ + 18 ≤ 12600; omega) ?_
                              intro z296_25 g296_24 H locs hp9 hP hD hS
                              have q296 := hp9.2
                              try rw [hr.2.1] at q296
                              have hr := RDO_trans hr hp9.1
                              clear hp9
                              have q296 := wNeed_uq q296 w195
                              refine lv_iload hx hb dL_routes_299 (lv_at hl 0 rfl) ?_
                              refine zz_icmp_ne (tgt := 347) hx hb dL_routes_301 (by decide) (by omega) (by omega) (fun c_301 => ?_) (fun c_301 => ?_)
                              · exfalso
                                omega
                              · refine lv_iload_n hx hb dL_routes_304 rfl (lv_at hl 7 rfl) ?_
                                refine zz_bipush hx hb dL_routes_305 (by decide) ?_
                                refine zz_icmp_gt (tgt := 349) hx hb dL_routes_307 (by decide) (by omega) (by decide) (fun c_307 => ?_) (fun c_307 => ?_)
                                · refine zz_iinc (lv' := [(5, .int (iI (j_ + 1))), (8, .int (iI z195_23)), (4, .int (iI f2_)), (7, .int (iI lit_)), (6, .int (iI way_)), (3, .int (iI i_)), (2, .int (iI c_)), (1, .int (iI z1_1)), (0, .ref (ad 0))]) hx hb dL_routes_349 hl (k := 4) rfl (by decide) rfl (fun ls hl => ?_)
                                  refine lv_goto (tgt := 20) hx hb dL_routes_352 (by decide) ?_
                                  exact ih20 (j_ + 1) f2_ g296_24 _ _ _ _ _ (by exact hr) (by omega) (by exact hf2) (by omega) (by omega) hP hD hS (lv_sub hl [0, 2, 5, 6, 7, 8] rfl)
                                · refine lv_iload hx hb dL_routes_310 (lv_at hl 0 rfl) ?_
                                  refine zz_if_le (tgt := 349) hx hb dL_routes_312 (by decide) (by omega) (fun c_312 => ?_) (fun c_312 => ?_)
                                  · refine zz_iinc (lv' := [(5, .int (iI (j_ + 1))), (8, .int (iI z195_23)), (4, .int (iI f2_)), (7, .int (iI lit_)), (6, .int (iI way_)), (3, .int (iI i_)), (2, .int (iI c_)), (1, .int (iI z1_1)), (0, .ref (ad 0))]) hx hb dL_routes_349 hl (k := 4) rfl (by decide) rfl (fun ls hl => ?_)
                                    refine lv_goto (tgt := 20) hx hb dL_routes_352 (by decide) ?_
                                    exact ih20 (j_ + 1) f2_ g296_24 _ _ _ _ _ (by exact hr) (by omega) (by exact hf2) (by omega) (by omega) hP hD hS (lv_sub hl [0, 2, 5, 6, 7, 8] rfl)
                                  · refine lv_aload_n hx hb dL_routes_315 rfl (lv_at hl 8 rfl) ?_
                                    refine lv_iload_n hx hb dL_routes_316 rfl (lv_at hl 5 rfl) ?_
                                    refine lv_iload hx hb dL_routes_317 (lv_at hl 4 rfl) ?_
                                    refine lv_iload hx hb dL_routes_319 (lv_at hl 0 rfl) ?_
                                    refine zz_iconst hx hb dL_routes_321 ?_
                                    refine zt_callSi (As := [.ref (ad 0), .int (iI i_), .int (iI j_), .int (iI z195_23), .int (iI 0)]) (rest := []) (L := [zW tA K ad g296_24]) (Lc := [zW tA K ad g296_24]) (Lr := []) (Lc' := fun (u : GL) => [zW tA K ad u]) (Lf := fun (u : GL) => [zW tA K ad u]) (is := [0]) (isF := [0]) ⟨hx, hb, hml, hown, hts⟩ (q_L_shortest hst hB 64 (ad := ad) (sz := H.size) (g := g296_24) hr.1 (by rw [hr.2.1]; omega) i_ j_ z195_23 0 (by rw [hr.2.1]; exact hin9) (by omega) (by decide) (bitP_0 _) (by decide)) (va_cwS 5 hts (gx_ww gL_routes_L_shortest) rfl rfl rfl (by decide +kernel) ⟨Nat.le_of_ble_eq_true rfl, Nat.le_of_ble_eq_true rfl⟩) hK hP hD hS hA hZ (zCut_1 _) (zBack_1 _) rfl rfl hl.1 (Nat.le_of_ble_eq_true rfl) dL_routes_322 (by show _ + 0 ≤ 2100 ∧ _ + 0 ≤ 12600; omega) ?_
                                    intro z322_27 g322_26 H locs hp9 hP hD hS
                                    have q322 := hp9.2
                                    rw [hr.2.1] at q322
                                    have hr := RDO_trans hr hp9.1
                                    clear hp9
                                    have b322 := q322.1
                                    have q322 := wDist_sh hin9 hch hu q322
                                    refine zz_ldc hx hb hown (hts (.constant RL 239 (99999)) (by decide +kernel)) (n := 99999) (by decide +kernel) dL_routes_325 ?_
                                    refine zz_icmp_eq (tgt := 347) hx hb dL_routes_327 (by decide) (by omega) (by decide) (fun c_327 => ?_) (fun c_327 => ?_)
                                    · exfalso
                                      rcases q322 with h | h
                                      · exact h.2.1 (by
                                        rcases q195 with y | y | y
                                        · exact absurd y.2 (by omega)
                                        · exact absurd y.2.2 (by omega)
                                        · exact y.2.2.2.2.2.1)
                                      · exact h.1 c_327
                                    · refine lv_aload_n hx hb dL_routes_330 rfl (lv_at hl 8 rfl) ?_
                                      refine lv_iload_n hx hb dL_routes_331 rfl (lv_at hl 5 rfl) ?_
                                      refine lv_iload hx hb dL_routes_332 (lv_at hl 4 rfl) ?_
                                      refine lv_iload hx hb dL_routes_334 (lv_at hl 0 rfl) ?_
                                      refine zz_iconst hx hb dL_routes_336 ?_
                                      refine zz_isub hx hb dL_routes_337 ?_
                                      refine zz_iconst hx hb dL_routes_338 ?_
                                      refine zt_callSi (As := [.ref (ad 0), .int (iI i_), .int (iI j_), .int (iI (z195_23 - 1)), .int (iI 0)]) (rest := []) (L := [zW tA K ad g322_26]) (Lc := [zW tA K ad g322_26]) (Lr := []) (Lc' := fun (u : GL) => [zW tA K ad u]) (Lf := fun (u : GL) => [zW tA K ad u]) (is := [0]) (isF := [0]) ⟨hx, hb, hml, hown, hts⟩ (q_L_shortest hst hB 64 (ad := ad) (sz := H.size) (g := g322_26) hr.1 (by rw [hr.2.1]; omega) i_ j_ (z195_23 - 1) 0 (by rw [hr.2.1]; exact hin9) (by omega) (by decide) (bitP_0 _) (by decide)) (va_cwS 5 hts (gx_ww gL_routes_L_shortest) rfl rfl rfl (by decide +kernel) ⟨Nat.le_of_ble_eq_true rfl, Nat.le_of_ble_eq_true rfl⟩) hK hP hD hS hA hZ (zCut_1 _) (zBack_1 _) rfl rfl hl.1 (Nat.le_of_ble_eq_true rfl) dL_routes_339 (by show _ + 0 ≤ 2100 ∧ _ + 0 ≤ 12600; omega) ?_
                                      intro z339_29 g339_28 H locs hp9 hP hD hS
                                      have q339 := hp9.2
                                      rw [hr.2.1] at q339
                                      have hr := RDO_trans hr hp9.1
                                      clear hp9
                                      have b339 := q339.1
                                      have q339 := wDist_sh hin9 hch hu q339
                                      refine zz_ldc hx hb hown (hts (.constant RL 239 (99999)) (by decide +kernel)) (n := 99999) (by decide +kernel) dL_routes_342 ?_
                                      refine zz_icmp_eq (tgt := 349) hx hb dL_routes_344 (by decide) (by omega) (by decide) (fun c_344 => ?_) (fun c_344 => ?_)
                                      · refine zz_iinc (lv' := [(5, .int (iI (j_ + 1))), (8, .int (iI z195_23)), (4, .int (iI f2_)), (7, .int (iI lit_)), (6, .int (iI way_)), (3, .int (iI i_)), (2, .int (iI c_)), (1, .int (iI z1_1)), (0, .ref (ad 0))]) hx hb dL_routes_349 hl (k := 4) rfl (by decide) rfl (fun ls hl => ?_)
                                        refine lv_goto (tgt := 20) hx hb dL_routes_352 (by decide) ?_
                                        exact ih20 (j_ + 1) f2_ g339_28 _ _ _ _ _ (by exact hr) (by omega) (by exact hf2) (by omega) (by omega) hP hD hS (lv_sub hl [0, 2, 5, 6, 7, 8] rfl)
                                      · exfalso
                                        rcases q339 with h | h
                                        · exact c_344 h.1
                                        · exact absurd h.2.1 (by
                                          rcases q195 with y | y | y
                                          · exact absurd y.2 (by omega)
                                          · exact absurd y.2.2 (by omega)
                                          · exact y.2.2.2.2.2.2)
                            refine lv_iload_n hx hb dL_routes_200 rfl (lv_at hl 5 rfl) ?_
                            rcases q195 with y | y | y
                            · refine lv_iload hx hb dL_routes_201 (lv_at hl 4 rfl) ?_
                              refine zz_icmp_ne (tgt := 221) hx hb dL_routes_203 (by decide) (by omega) (by omega) (fun c_203 => ?_) (fun c_203 => ?_)
                              · exfalso
                                omega
                              · refine lv_iload hx hb dL_routes_206 (lv_at hl 0 rfl) ?_
                                refine zz_bipush hx hb dL_routes_208 (by decide) ?_
                                refine zz_icmp_ne (tgt := 217) hx hb dL_routes_210 (by decide) (by omega) (by decide) (fun c_210 => ?_) (fun c_210 => ?_)
                                · exfalso
                                  omega
                                · refine zz_iconst hx hb dL_routes_213 ?_
                                  refine lv_goto (tgt := 285) hx hb dL_routes_214 (by decide) ?_
                                  refine lv_istore (lv' := [(9, .int (iI 1)), (8, .int (iI z195_23)), (4, .int (iI f2_)), (7, .int (iI lit_)), (6, .int (iI way_)), (5, .int (iI j_)), (3, .int (iI i_)), (2, .int (iI c_)), (1, .int (iI z1_1)), (0, .ref (ad 0))]) hx hb dL_routes_285 hl (by decide) rfl (fun ls hl => ?_)
                                  refine lv_iload hx hb dL_routes_287 (lv_at hl 0 rfl) ?_
                                  refine zz_if_eq (tgt := 347) hx hb dL_routes_289 (by decide) (by decide) (fun c_289 => ?_) (fun c_289 => ?_)
                                  · exact absurd c_289 (by decide)
                                  · exact J292 g195_22 _ _ _ _ _ (by exact hr) (by omega) hP hD hS (lv_sub hl [1, 2, 3, 4, 5, 6, 7, 8, 9] rfl)
                            · refine lv_iload hx hb dL_routes_201 (lv_at hl 4 rfl) ?_
                              refine zz_icmp_ne (tgt := 221) hx hb dL_routes_203 (by decide) (by omega) (by omega) (fun c_203 => ?_) (fun c_203 => ?_)
                              · refine lv_iload hx hb dL_routes_221 (lv_at hl 3 rfl) ?_
                                refine zz_if_ge (tgt := 241) hx hb dL_routes_223 (by decide) (by omega) (fun c_223 => ?_) (fun c_223 => ?_)
                                · exfalso
                                  omega
                                · refine lv_iload hx hb dL_routes_226 (lv_at hl 0 rfl) ?_
                                  refine zz_bipush hx hb dL_routes_228 (by decide) ?_
                                  refine zz_icmp_ne (tgt := 237) hx hb dL_routes_230 (by decide) (by omega) (by decide) (fun c_230 => ?_) (fun c_230 => ?_)
                                  · exfalso
                                    omega
                                  · refine zz_iconst hx hb dL_routes_233 ?_
                                    refine lv_goto (tgt := 285) hx hb dL_routes_234 (by decide) ?_
                                    refine lv_istore (lv' := [(9, .int (iI 1)), (8, .int (iI z195_23)), (4, .int (iI f2_)), (7, .int (iI lit_)), (6, .int (iI way_)), (5, .int (iI j_)), (3, .int (iI i_)), (2, .int (iI c_)), (1, .int (iI z1_1)), (0, .ref (ad 0))]) hx hb dL_routes_285 hl (by decide) rfl (fun ls hl => ?_)
                                    refine lv_iload hx hb dL_routes_287 (lv_at hl 0 rfl) ?_
                                    refine zz_if_eq (tgt := 347) hx hb dL_routes_289 (by decide) (by decide) (fun c_289 => ?_) (fun c_289 => ?_)
                                    · exact absurd c_289 (by decide)
                                    · exact J292 g195_22 _ _ _ _ _ (by exact hr) (by omega) hP hD hS (lv_sub hl [1, 2, 3, 4, 5, 6, 7, 8, 9] rfl)
                              · exfalso
                                omega
                            · refine lv_iload hx hb dL_routes_201 (lv_at hl 4 rfl) ?_
                              refine zz_icmp_ne (tgt := 221) hx hb dL_routes_203 (by decide) (by omega) (by omega) (fun c_203 => ?_) (fun c_203 => ?_)
                              · refine lv_iload hx hb dL_routes_221 (lv_at hl 3 rfl) ?_
                                refine zz_if_ge (tgt := 241) hx hb dL_routes_223 (by decide) (by omega) (fun c_223 => ?_) (fun c_223 => ?_)
                                · refine lv_iload hx hb dL_routes_241 (lv_at hl 0 rfl) ?_
                                  refine zz_if_le (tgt := 284) hx hb dL_routes_243 (by decide) (by omega) (fun c_243 => ?_) (fun c_243 => ?_)
                                  · exfalso
                                    omega
                                  · refine lv_iload hx hb dL_routes_246 (lv_at hl 0 rfl) ?_
                                    refine zz_bipush hx hb dL_routes_248 (by decide) ?_
                                    refine zz_icmp_gt (tgt := 284) hx hb dL_routes_250 (by decide) (by omega) (by decide) (fun c_250 => ?_) (fun c_250 => ?_)
                                    · exfalso
                                      omega
                                    · refine lv_iload hx hb dL_routes_253 (lv_at hl 2 rfl) ?_
                                      refine zz_if_lt (tgt := 262) hx hb dL_routes_255 (by decide) (by omega) (fun c_255 => ?_) (fun c_255 => ?_)
                                      · refine zz_iconst hx hb dL_routes_262 ?_
                                        refine lv_iload hx hb dL_routes_263 (lv_at hl 0 rfl) ?_
                                        refine lv_aload_n hx hb dL_routes_265 rfl (lv_at hl 8 rfl) ?_
                                        refine zt_callVi (As := []) (rest := [.int (iI z195_23), .int (iI 0)]) (L := [zW tA K ad g195_22]) (Lc := [zW tA K ad g195_22]) (Lr := []) (Lc' := fun (u : GL) => [zW tA K ad u]) (Lf := fun (u : GL) => [zW tA K ad u]) (is := [0]) (isF := [0]) ⟨hx, hb, hml, hown, hts⟩ (q_X10_range hst hB hr.1  ) (cwV 0 hts (goodIn_wid gL_routes_X10_range) rfl rfl rfl (by decide +kernel) ⟨Nat.le_of_ble_eq_true rfl, Nat.le_of_ble_eq_true rfl⟩) hK hP hD hS hA hZ (zCut_1 _) (zBack_1 _) (ci := 12) (q0 := 0) rfl rfl (zW_0 tA K ad g195_22) rfl rfl hl.1 (Nat.le_of_ble_eq_true rfl) dL_routes_266 (by show _ + 0 ≤ 2100 ∧ _ + 0 ≤ 12600; omega) ?_
                                        intro z266_31 g266_30 H locs hp9 hP hD hS
                                        have q266 := hp9.2
                                        try rw [hr.2.1] at q266
                                        have hr := RDO_trans hr hp9.1
                                        clear hp9
                                        refine zz_icmp_gt (tgt := 276) hx hb dL_routes_269 (by decide) (by omega) (by omega) (fun c_269 => ?_) (fun c_269 => ?_)
                                        · refine zz_iconst hx hb dL_routes_276 ?_
                                          refine zz_icmp_ne (tgt := 284) hx hb dL_routes_277 (by decide) (by decide) (by decide) (fun c_277 => ?_) (fun c_277 => ?_)
                                          · exact absurd c_277 (by decide)
                                          · refine zz_iconst hx hb dL_routes_280 ?_
                                            refine lv_goto (tgt := 285) hx hb dL_routes_281 (by decide) ?_
                                            refine lv_istore (lv' := [(9, .int (iI 1)), (8, .int (iI z195_23)), (4, .int (iI f2_)), (7, .int (iI lit_)), (6, .int (iI way_)), (5, .int (iI j_)), (3, .int (iI i_)), (2, .int (iI c_)), (1, .int (iI z1_1)), (0, .ref (ad 0))]) hx hb dL_routes_285 hl (by decide) rfl (fun ls hl => ?_)
                                            refine lv_iload hx hb dL_routes_287 (lv_at hl 0 rfl) ?_
                                            refine zz_if_eq (tgt := 347) hx hb dL_routes_289 (by decide) (by decide) (fun c_289 => ?_) (fun c_289 => ?_)
                                            · exact absurd c_289 (by decide)
                                            · exact J292 g266_30 _ _ _ _ _ (by exact hr) (by omega) hP hD hS (lv_sub hl [1, 2, 3, 4, 5, 6, 7, 8, 9] rfl)
                                        · refine zz_iconst hx hb dL_routes_272 ?_
                                          refine lv_goto (tgt := 277) hx hb dL_routes_273 (by decide) ?_
                                          refine zz_icmp_ne (tgt := 284) hx hb dL_routes_277 (by decide) (by decide) (by decide) (fun c_277 => ?_) (fun c_277 => ?_)
                                          · exfalso
                                            omega
                                          · exact absurd c_277 (by decide)
                                      · refine zz_iconst hx hb dL_routes_258 ?_
                                        refine lv_goto (tgt := 263) hx hb dL_routes_259 (by decide) ?_
                                        refine lv_iload hx hb dL_routes_263 (lv_at hl 0 rfl) ?_
                                        refine lv_aload_n hx hb dL_routes_265 rfl (lv_at hl 8 rfl) ?_
                                        refine zt_callVi (As := []) (rest := [.int (iI z195_23), .int (iI 1)]) (L := [zW tA K ad g195_22]) (Lc := [zW tA K ad g195_22]) (Lr := []) (Lc' := fun (u : GL) => [zW tA K ad u]) (Lf := fun (u : GL) => [zW tA K ad u]) (is := [0]) (isF := [0]) ⟨hx, hb, hml, hown, hts⟩ (q_X10_range hst hB hr.1  ) (cwV 0 hts (goodIn_wid gL_routes_X10_range) rfl rfl rfl (by decide +kernel) ⟨Nat.le_of_ble_eq_true rfl, Nat.le_of_ble_eq_true rfl⟩) hK hP hD hS hA hZ (zCut_1 _) (zBack_1 _) (ci := 12) (q0 := 0) rfl rfl (zW_0 tA K ad g195_22) rfl rfl hl.1 (Nat.le_of_ble_eq_true rfl) dL_routes_266 (by show _ + 0 ≤ 2100 ∧ _ + 0 ≤ 12600; omega) ?_
                                        intro z266_33 g266_32 H locs hp9 hP hD hS
                                        have q266 := hp9.2
                                        try rw [hr.2.1] at q266
                                        have hr := RDO_trans hr hp9.1
                                        clear hp9
                                        refine zz_icmp_gt (tgt := 276) hx hb dL_routes_269 (by decide) (by omega) (by omega) (fun c_269 => ?_) (fun c_269 => ?_)
                                        · refine zz_iconst hx hb dL_routes_276 ?_
                                          refine zz_icmp_ne (tgt := 284) hx hb dL_routes_277 (by decide) (by decide) (by decide) (fun c_277 => ?_) (fun c_277 => ?_)
                                          · exfalso
                                            omega
                                          · exact absurd c_277 (by decide)
                                        · refine zz_iconst hx hb dL_routes_272 ?_
                                          refine lv_goto (tgt := 277) hx hb dL_routes_273 (by decide) ?_
                                          refine zz_icmp_ne (tgt := 284) hx hb dL_routes_277 (by decide) (by decide) (by decide) (fun c_277 => ?_) (fun c_277 => ?_)
                                          · exact absurd c_277 (by decide)
                                          · refine zz_iconst hx hb dL_routes_280 ?_
                                            refine lv_goto (tgt := 285) hx hb dL_routes_281 (by decide) ?_
                                            refine lv_istore (lv' := [(9, .int (iI 1)), (8, .int (iI z195_23)), (4, .int (iI f2_)), (7, .int (iI lit_)), (6, .int (iI way_)), (5, .int (iI j_)), (3, .int (iI i_)), (2, .int (iI c_)), (1, .int (iI z1_1)), (0, .ref (ad 0))]) hx hb dL_routes_285 hl (by decide) rfl (fun ls hl => ?_)
                                            refine lv_iload hx hb dL_routes_287 (lv_at hl 0 rfl) ?_
                                            refine zz_if_eq (tgt := 347) hx hb dL_routes_289 (by decide) (by decide) (fun c_289 => ?_) (fun c_289 => ?_)
                                            · exact absurd c_289 (by decide)
                                            · exact J292 g266_32 _ _ _ _ _ (by exact hr) (by omega) hP hD hS (lv_sub hl [1, 2, 3, 4, 5, 6, 7, 8, 9] rfl)
                                · exfalso
                                  omega
                              · exfalso
                                omega
                          · refine lv_iload hx hb dL_routes_182 (lv_at hl 1 rfl) ?_
                            refine lv_iload hx hb dL_routes_184 (lv_at hl 2 rfl) ?_
                            refine zz_icmp_ge (tgt := 191) hx hb dL_routes_186 (by decide) (by omega) (by omega) (fun c_186 => ?_) (fun c_186 => ?_)
                            · refine lv_aload_n hx hb dL_routes_191 rfl (lv_at hl 7 rfl) ?_
                              refine lv_iload_n hx hb dL_routes_192 rfl (lv_at hl 4 rfl) ?_
                              refine lv_iload hx hb dL_routes_193 (lv_at hl 3 rfl) ?_
                              refine zh_callSi_ch (As := [.ref (ad 0), .int (iI i_), .int (iI j_)]) (rest := []) (L := [zW tA K ad g169_20]) (Lc := [zW tA K ad g169_20]) (Lr := []) (Lc' := fun (u : GL) => [zW tA K ad u]) (Lf := fun (u : GL) => [zW tA K ad u]) (is := [0]) (isF := [0]) ⟨hx, hb, hml, hown, hts⟩ (q_L_needed hst hB hr.1 i_ j_ (by omega) (by omega)) (vx_cwSW 3 hts (gx_ww gL_routes_L_needed) rfl rfl rfl (by decide +kernel) ⟨Nat.le_of_ble_eq_true rfl, Nat.le_of_ble_eq_true rfl⟩) hK hP hD hS hA hZ (zCut_1 _) (zBack_1 _) rfl rfl hl.1 (Nat.le_of_ble_eq_true rfl) dL_routes_195 (by show _ + 3 ≤ 2100 ∧ _ + 18 ≤ 12600; omega) ?_
                              intro z195_35 g195_34 H locs hp9 hP hD hS
                              have q195 := hp9.2
                              try rw [hr.2.1] at q195
                              have hr := RDO_trans hr hp9.1
                              clear hp9
                              have w195 := q195
                              have q195 := wNeed_f hin9 hch hrg hw9 hl9 q195
                              refine lv_istore (lv' := [(8, .int (iI z195_35)), (4, .int (iI f2_)), (7, .int (iI lit_)), (6, .int (iI way_)), (5, .int (iI j_)), (3, .int (iI i_)), (2, .int (iI c_)), (1, .int (iI z1_1)), (0, .ref (ad 0))]) hx hb dL_routes_198 hl (by decide) rfl (fun ls hl => ?_)
                              have J292 : ∀ (g292 : GL) (k9 : Nat) (n9 : Nat) (H : Heap) (locs : List Loc) (ls : Array Slot), (RDO B N g g292) → (((k9 : Nat) : Int) ≤ 200 * i_ + 20 * j_ + 14 ∧ ((n9 : Nat) : Int) ≤ 6 * (200 * i_ + 20 * j_ + 14)) → va_P D vwCl [zW tA K ad g292].flatten H → va_D A [zW tA K ad g292].flatten → va_S A s.heap H locs → lv_has ls 10 [(8, .int (iI z195_35)), (4, .int (iI f2_)), (7, .int (iI lit_)), (6, .int (iI way_)), (5, .int (iI j_)), (3, .int (iI i_)), (2, .int (iI c_)), (1, .int (iI z1_1)), (0, .ref (ad 0))] → W p l e (headSpec (wsL_routes ++ xL) ({ frames := 77, cells := 2100, slots := 12600, locals := 4117 })).room s m args below meth c H locs k9 n9 Q (F0 m 292 ls []) := by
                                intro g292 k9 n9 H locs ls hr hk9 hP hD hS hl
                                refine lv_aload_n hx hb dL_routes_292 rfl (lv_at hl 8 rfl) ?_
                                refine lv_iload_n hx hb dL_routes_293 rfl (lv_at hl 5 rfl) ?_
                                refine lv_iload hx hb dL_routes_294 (lv_at hl 4 rfl) ?_
                                refine zh_callSi_ch (As := [.ref (ad 0), .int (iI i_), .int (iI j_)]) (rest := []) (L := [zW tA K ad g292]) (Lc := [zW tA K ad g292]) (Lr := []) (Lc' := fun (u : GL) => [zW tA K ad u]) (Lf := fun (u : GL) => [zW tA K ad u]) (is := [0]) (isF := [0]) ⟨hx, hb, hml, hown, hts⟩ (q_L_byTrial hst hB hr.1 i_ j_ (by omega) (by omega)) (vx_cwSW 3 hts (gx_ww gL_routes_L_byTrial) rfl rfl rfl (by decide +kernel) ⟨Nat.le_of_ble_eq_true rfl, Nat.le_of_ble_eq_true rfl⟩) hK hP hD hS hA hZ (zCut_1 _) (zBack_1 _) rfl rfl hl.1 (Nat.le_of_ble_eq_true rfl) dL_routes_296 (by show _ + 3 ≤ 2100 ∧ _ + 18 ≤ 12600; omega) ?_
                                intro z296_37 g296_36 H locs hp9 hP hD hS
                                have q296 := hp9.2
                                try rw [hr.2.1] at q296
                                have hr := RDO_trans hr hp9.1
                                clear hp9
                                have q296 := wNeed_uq q296 w195
                                refine lv_iload hx hb dL_routes_299 (lv_at hl 0 rfl) ?_
                                refine zz_icmp_ne (tgt := 347) hx hb dL_routes_301 (by decide) (by omega) (by omega) (fun c_301 => ?_) (fun c_301 => ?_)
                                · exfalso
                                  omega
                                · refine lv_iload_n hx hb dL_routes_304 rfl (lv_at hl 7 rfl) ?_
                                  refine zz_bipush hx hb dL_routes_305 (by decide) ?_
                                  refine zz_icmp_gt (tgt := 349) hx hb dL_routes_307 (by decide) (by omega) (by decide) (fun c_307 => ?_) (fun c_307 => ?_)
                                  · refine zz_iinc (lv' := [(5, .int (iI (j_ + 1))), (8, .int (iI z195_35)), (4, .int (iI f2_)), (7, .int (iI lit_)), (6, .int (iI way_)), (3, .int (iI i_)), (2, .int (iI c_)), (1, .int (iI z1_1)), (0, .ref (ad 0))]) hx hb dL_routes_349 hl (k := 4) rfl (by decide) rfl (fun ls hl => ?_)
                                    refine lv_goto (tgt := 20) hx hb dL_routes_352 (by decide) ?_
                                    exact ih20 (j_ + 1) f2_ g296_36 _ _ _ _ _ (by exact hr) (by omega) (by exact hf2) (by omega) (by omega) hP hD hS (lv_sub hl [0, 2, 5, 6, 7, 8] rfl)
                                  · refine lv_iload hx hb dL_routes_310 (lv_at hl 0 rfl) ?_
                                    refine zz_if_le (tgt := 349) hx hb dL_routes_312 (by decide) (by omega) (fun c_312 => ?_) (fun c_312 => ?_)
                                    · refine zz_iinc (lv' := [(5, .int (iI (j_ + 1))), (8, .int (iI z195_35)), (4, .int (iI f2_)), (7, .int (iI lit_)), (6, .int (iI way_)), (3, .int (iI i_)), (2, .int (iI c_)), (1, .int (iI z1_1)), (0, .ref (ad 0))]) hx hb dL_routes_349 hl (k := 4) rfl (by decide) rfl (fun ls hl => ?_)
                                      refine lv_goto (tgt := 20) hx hb dL_routes_352 (by decide) ?_
                                      exact ih20 (j_ + 1) f2_ g296_36 _ _ _ _ _ (by exact hr) (by omega) (by exact hf2) (by omega) (by omega) hP hD hS (lv_sub hl [0, 2, 5, 6, 7, 8] rfl)
                                    · refine lv_aload_n hx hb dL_routes_315 rfl (lv_at hl 8 rfl) ?_
                                      refine lv_iload_n hx hb dL_routes_316 rfl (lv_at hl 5 rfl) ?_
                                      refine lv_iload hx hb dL_routes_317 (lv_at hl 4 rfl) ?_
                                      refine lv_iload hx hb dL_routes_319 (lv_at hl 0 rfl) ?_
                                      refine zz_iconst hx hb dL_routes_321 ?_
                                      refine zt_callSi (As := [.ref (ad 0), .int (iI i_), .int (iI j_), .int (iI z195_35), .int (iI 0)]) (rest := []) (L := [zW tA K ad g296_36]) (Lc := [zW tA K ad g296_36]) (Lr := []) (Lc' := fun (u : GL) => [zW tA K ad u]) (Lf := fun (u : GL) => [zW tA K ad u]) (is := [0]) (isF := [0]) ⟨hx, hb, hml, hown, hts⟩ (q_L_shortest hst hB 64 (ad := ad) (sz := H.size) (g := g296_36) hr.1 (by rw [hr.2.1]; omega) i_ j_ z195_35 0 (by rw [hr.2.1]; exact hin9) (by omega) (by decide) (bitP_0 _) (by decide)) (va_cwS 5 hts (gx_ww gL_routes_L_shortest) rfl rfl rfl (by decide +kernel) ⟨Nat.le_of_ble_eq_true rfl, Nat.le_of_ble_eq_true rfl⟩) hK hP hD hS hA hZ (zCut_1 _) (zBack_1 _) rfl rfl hl.1 (Nat.le_of_ble_eq_true rfl) dL_routes_322 (by show _ + 0 ≤ 2100 ∧ _ + 0 ≤ 12600; omega) ?_
                                      intro z322_39 g322_38 H locs hp9 hP hD hS
                                      have q322 := hp9.2
                                      rw [hr.2.1] at q322
                                      have hr := RDO_trans hr hp9.1
                                      clear hp9
                                      have b322 := q322.1
                                      have q322 := wDist_sh hin9 hch hu q322
                                      refine zz_ldc hx hb hown (hts (.constant RL 239 (99999)) (by decide +kernel)) (n := 99999) (by decide +kernel) dL_routes_325 ?_
                                      refine zz_icmp_eq (tgt := 347) hx hb dL_routes_327 (by decide) (by omega) (by decide) (fun c_327 => ?_) (fun c_327 => ?_)
                                      · exfalso
                                        rcases q322 with h | h
                                        · exact h.2.1 (by
                                          rcases q195 with y | y | y
                                          · exact absurd y.2 (by omega)
                                          · exact absurd y.2.2 (by omega)
                                          · exact y.2.2.2.2.2.1)
                                        · exact h.1 c_327
                                      · refine lv_aload_n hx hb dL_routes_330 rfl (lv_at hl 8 rfl) ?_
                                        refine lv_iload_n hx hb dL_routes_331 rfl (lv_at hl 5 rfl) ?_
                                        refine lv_iload hx hb dL_routes_332 (lv_at hl 4 rfl) ?_
                                        refine lv_iload hx hb dL_routes_334 (lv_at hl 0 rfl) ?_
                                        refine zz_iconst hx hb dL_routes_336 ?_
                                        refine zz_isub hx hb dL_routes_337 ?_
                                        refine zz_iconst hx hb dL_routes_338 ?_
                                        refine zt_callSi (As := [.ref (ad 0), .int (iI i_), .int (iI j_), .int (iI (z195_35 - 1)), .int (iI 0)]) (rest := []) (L := [zW tA K ad g322_38]) (Lc := [zW tA K ad g322_38]) (Lr := []) (Lc' := fun (u : GL) => [zW tA K ad u]) (Lf := fun (u : GL) => [zW tA K ad u]) (is := [0]) (isF := [0]) ⟨hx, hb, hml, hown, hts⟩ (q_L_shortest hst hB 64 (ad := ad) (sz := H.size) (g := g322_38) hr.1 (by rw [hr.2.1]; omega) i_ j_ (z195_35 - 1) 0 (by rw [hr.2.1]; exact hin9) (by omega) (by decide) (bitP_0 _) (by decide)) (va_cwS 5 hts (gx_ww gL_routes_L_shortest) rfl rfl rfl (by decide +kernel) ⟨Nat.le_of_ble_eq_true rfl, Nat.le_of_ble_eq_true rfl⟩) hK hP hD hS hA hZ (zCut_1 _) (zBack_1 _) rfl rfl hl.1 (Nat.le_of_ble_eq_true rfl) dL_routes_339 (by show _ + 0 ≤ 2100 ∧ _ + 0 ≤ 12600; omega) ?_
                                        intro z339_41 g339_40 H locs hp9 hP hD hS
                                        have q339 := hp9.2
                                        rw [hr.2.1] at q339
                                        have hr := RDO_trans hr hp9.1
                                        clear hp9
                                        have b339 := q339.1
                                        have q339 := wDist_sh hin9 hch hu q339
                                        refine zz_ldc hx hb hown (hts (.constant RL 239 (99999)) (by decide +kernel)) (n := 99999) (by decide +kernel) dL_routes_342 ?_
                                        refine zz_icmp_eq (tgt := 349) hx hb dL_routes_344 (by decide) (by omega) (by decide) (fun c_344 => ?_) (fun c_344 => ?_)
                                        · refine zz_iinc (lv' := [(5, .int (iI (j_ + 1))), (8, .int (iI z195_35)), (4, .int (iI f2_)), (7, .int (iI lit_)), (6, .int (iI way_)), (3, .int (iI i_)), (2, .int (iI c_)), (1, .int (iI z1_1)), (0, .ref (ad 0))]) hx hb dL_routes_349 hl (k := 4) rfl (by decide) rfl (fun ls hl => ?_)
                                          refine lv_goto (tgt := 20) hx hb dL_routes_352 (by decide) ?_
                                          exact ih20 (j_ + 1) f2_ g339_40 _ _ _ _ _ (by exact hr) (by omega) (by exact hf2) (by omega) (by omega) hP hD hS (lv_sub hl [0, 2, 5, 6, 7, 8] rfl)
                                        · exfalso
                                          rcases q339 with h | h
                                          · exact c_344 h.1
                                          · exact absurd h.2.1 (by
                                            rcases q195 with y | y | y
                                            · exact absurd y.2 (by omega)
                                            · exact absurd y.2.2 (by omega)
                                            · exact y.2.2.2.2.2.2)
                              refine lv_iload_n hx hb dL_routes_200 rfl (lv_at hl 5 rfl) ?_
                              rcases q195 with y | y | y
                              · refine lv_iload hx hb dL_routes_201 (lv_at hl 4 rfl) ?_
                                refine zz_icmp_ne (tgt := 221) hx hb dL_routes_203 (by decide) (by omega) (by omega) (fun c_203 => ?_) (fun c_203 => ?_)
                                · exfalso
                                  omega
                                · refine lv_iload hx hb dL_routes_206 (lv_at hl 0 rfl) ?_
                                  refine zz_bipush hx hb dL_routes_208 (by decide) ?_
                                  refine zz_icmp_ne (tgt := 217) hx hb dL_routes_210 (by decide) (by omega) (by decide) (fun c_210 => ?_) (fun c_210 => ?_)
                                  · exfalso
                                    omega
                                  · refine zz_iconst hx hb dL_routes_213 ?_
                                    refine lv_goto (tgt := 285) hx hb dL_routes_214 (by decide) ?_
                                    refine lv_istore (lv' := [(9, .int (iI 1)), (8, .int (iI z195_35)), (4, .int (iI f2_)), (7, .int (iI lit_)), (6, .int (iI way_)), (5, .int (iI j_)), (3, .int (iI i_)), (2, .int (iI c_)), (1, .int (iI z1_1)), (0, .ref (ad 0))]) hx hb dL_routes_285 hl (by decide) rfl (fun ls hl => ?_)
                                    refine lv_iload hx hb dL_routes_287 (lv_at hl 0 rfl) ?_
                                    refine zz_if_eq (tgt := 347) hx hb dL_routes_289 (by decide) (by decide) (fun c_289 => ?_) (fun c_289 => ?_)
                                    · exact absurd c_289 (by decide)
                                    · exact J292 g195_34 _ _ _ _ _ (by exact hr) (by omega) hP hD hS (lv_sub hl [1, 2, 3, 4, 5, 6, 7, 8, 9] rfl)
                              · refine lv_iload hx hb dL_routes_201 (lv_at hl 4 rfl) ?_
                                refine zz_icmp_ne (tgt := 221) hx hb dL_routes_203 (by decide) (by omega) (by omega) (fun c_203 => ?_) (fun c_203 => ?_)
                                · refine lv_iload hx hb dL_routes_221 (lv_at hl 3 rfl) ?_
                                  refine zz_if_ge (tgt := 241) hx hb dL_routes_223 (by decide) (by omega) (fun c_223 => ?_) (fun c_223 => ?_)
                                  · exfalso
                                    omega
                                  · refine lv_iload hx hb dL_routes_226 (lv_at hl 0 rfl) ?_
                                    refine zz_bipush hx hb dL_routes_228 (by decide) ?_
                                    refine zz_icmp_ne (tgt := 237) hx hb dL_routes_230 (by decide) (by omega) (by decide) (fun c_230 => ?_) (fun c_230 => ?_)
                                    · exfalso
                                      omega
                                    · refine zz_iconst hx hb dL_routes_233 ?_
                                      refine lv_goto (tgt := 285) hx hb dL_routes_234 (by decide) ?_
                                      refine lv_istore (lv' := [(9, .int (iI 1)), (8, .int (iI z195_35)), (4, .int (iI f2_)), (7, .int (iI lit_)), (6, .int (iI way_)), (5, .int (iI j_)), (3, .int (iI i_)), (2, .int (iI c_)), (1, .int (iI z1_1)), (0, .ref (ad 0))]) hx hb dL_routes_285 hl (by decide) rfl (fun ls hl => ?_)
                                      refine lv_iload hx hb dL_routes_287 (lv_at hl 0 rfl) ?_
                                      refine zz_if_eq (tgt := 347) hx hb dL_routes_289 (by decide) (by decide) (fun c_289 => ?_) (fun c_289 => ?_)
                                      · exact absurd c_289 (by decide)
                                      · exact J292 g195_34 _ _ _ _ _ (by exact hr) (by omega) hP hD hS (lv_sub hl [1, 2, 3, 4, 5, 6, 7, 8, 9] rfl)
                                · exfalso
                                  omega
                              · refine lv_iload hx hb dL_routes_201 (lv_at hl 4 rfl) ?_
                                refine zz_icmp_ne (tgt := 221) hx hb dL_routes_203 (by decide) (by omega) (by omega) (fun c_203 => ?_) (fun c_203 => ?_)
                                · refine lv_iload hx hb dL_routes_221 (lv_at hl 3 rfl) ?_
                                  refine zz_if_ge (tgt := 241) hx hb dL_routes_223 (by decide) (by omega) (fun c_223 => ?_) (fun c_223 => ?_)
                                  · refine lv_iload hx hb dL_routes_241 (lv_at hl 0 rfl) ?_
                                    refine zz_if_le (tgt := 284) hx hb dL_routes_243 (by decide) (by omega) (fun c_243 => ?_) (fun c_243 => ?_)
                                    · exfalso
                                      omega
                                    · refine lv_iload hx hb dL_routes_246 (lv_at hl 0 rfl) ?_
                                      refine zz_bipush hx hb dL_routes_248 (by decide) ?_
                                      refine zz_icmp_gt (tgt := 284) hx hb dL_routes_250 (by decide) (by omega) (by decide) (fun c_250 => ?_) (fun c_250 => ?_)
                                      · exfalso
                                        omega
                                      · refine lv_iload hx hb dL_routes_253 (lv_at hl 2 rfl) ?_
                                        refine zz_if_lt (tgt := 262) hx hb dL_routes_255 (by decide) (by omega) (fun c_255 => ?_) (fun c_255 => ?_)
                                        · refine zz_iconst hx hb dL_routes_262 ?_
                                          refine lv_iload hx hb dL_routes_263 (lv_at hl 0 rfl) ?_
                                          refine lv_aload_n hx hb dL_routes_265 rfl (lv_at hl 8 rfl) ?_
                                          refine zt_callVi (As := []) (rest := [.int (iI z195_35), .int (iI 0)]) (L := [zW tA K ad g195_34]) (Lc := [zW tA K ad g195_34]) (Lr := []) (Lc' := fun (u : GL) => [zW tA K ad u]) (Lf := fun (u : GL) => [zW tA K ad u]) (is := [0]) (isF := [0]) ⟨hx, hb, hml, hown, hts⟩ (q_X10_range hst hB hr.1  ) (cwV 0 hts (goodIn_wid gL_routes_X10_range) rfl rfl rfl (by decide +kernel) ⟨Nat.le_of_ble_eq_true rfl, Nat.le_of_ble_eq_true rfl⟩) hK hP hD hS hA hZ (zCut_1 _) (zBack_1 _) (ci := 12) (q0 := 0) rfl rfl (zW_0 tA K ad g195_34) rfl rfl hl.1 (Nat.le_of_ble_eq_true rfl) dL_routes_266 (by show _ + 0 ≤ 2100 ∧ _ + 0 ≤ 12600; omega) ?_
                                          intro z266_43 g266_42 H locs hp9 hP hD hS
                                          have q266 := hp9.2
                                          try rw [hr.2.1] at q266
                                          have hr := RDO_trans hr hp9.1
                                          clear hp9
                                          refine zz_icmp_gt (tgt := 276) hx hb dL_routes_269 (by decide) (by omega) (by omega) (fun c_269 => ?_) (fun c_269 => ?_)
                                          · refine zz_iconst hx hb dL_routes_276 ?_
                                            refine zz_icmp_ne (tgt := 284) hx hb dL_routes_277 (by decide) (by decide) (by decide) (fun c_277 => ?_) (fun c_277 => ?_)
                                            · exact absurd c_277 (by decide)
                                            · refine zz_iconst hx hb dL_routes_280 ?_
                                              refine lv_goto (tgt := 285) hx hb dL_routes_281 (by decide) ?_
                                              refine lv_istore (lv' := [(9, .int (iI 1)), (8, .int (iI z195_35)), (4, .int (iI f2_)), (7, .int (iI lit_)), (6, .int (iI way_)), (5, .int (iI j_)), (3, .int (iI i_)), (2, .int (iI c_)), (1, .int (iI z1_1)), (0, .ref (ad 0))]) hx hb dL_routes_285 hl (by decide) rfl (fun ls hl => ?_)
                                              refine lv_iload hx hb dL_routes_287 (lv_at hl 0 rfl) ?_
                                              refine zz_if_eq (tgt := 347) hx hb dL_routes_289 (by decide) (by decide) (fun c_289 => ?_) (fun c_289 => ?_)
                                              · exact absurd c_289 (by decide)
                                              · exact J292 g266_42 _ _ _ _ _ (by exact hr) (by omega) hP hD hS (lv_sub hl [1, 2, 3, 4, 5, 6, 7, 8, 9] rfl)
                                          · refine zz_iconst hx hb dL_routes_272 ?_
                                            refine lv_goto (tgt := 277) hx hb dL_routes_273 (by decide) ?_
                                            refine zz_icmp_ne (tgt := 284) hx hb dL_routes_277 (by decide) (by decide) (by decide) (fun c_277 => ?_) (fun c_277 => ?_)
                                            · exfalso
                                              omega
                                            · exact absurd c_277 (by decide)
                                        · refine zz_iconst hx hb dL_routes_258 ?_
                                          refine lv_goto (tgt := 263) hx hb dL_routes_259 (by decide) ?_
                                          refine lv_iload hx hb dL_routes_263 (lv_at hl 0 rfl) ?_
                                          refine lv_aload_n hx hb dL_routes_265 rfl (lv_at hl 8 rfl) ?_
                                          refine zt_callVi (As := []) (rest := [.int (iI z195_35), .int (iI 1)]) (L := [zW tA K ad g195_34]) (Lc := [zW tA K ad g195_34]) (Lr := []) (Lc' := fun (u : GL) => [zW tA K ad u]) (Lf := fun (u : GL) => [zW tA K ad u]) (is := [0]) (isF := [0]) ⟨hx, hb, hml, hown, hts⟩ (q_X10_range hst hB hr.1  ) (cwV 0 hts (goodIn_wid gL_routes_X10_range) rfl rfl rfl (by decide +kernel) ⟨Nat.le_of_ble_eq_true rfl, Nat.le_of_ble_eq_true rfl⟩) hK hP hD hS hA hZ (zCut_1 _) (zBack_1 _) (ci := 12) (q0 := 0) rfl rfl (zW_0 tA K ad g195_34) rfl rfl hl.1 (Nat.le_of_ble_eq_true rfl) dL_routes_266 (by show _ + 0 ≤ 2100 ∧ _ + 0 ≤ 12600; omega) ?_
                                          intro z266_45 g266_44 H locs hp9 hP hD hS
                                          have q266 := hp9.2
                                          try rw [hr.2.1] at q266
                                          have hr := RDO_trans hr hp9.1
                                          clear hp9
                                          refine zz_icmp_gt (tgt := 276) hx hb dL_routes_269 (by decide) (by omega) (by omega) (fun c_269 => ?_) (fun c_269 => ?_)
                                          · refine zz_iconst hx hb dL_routes_276 ?_
                                            refine zz_icmp_ne (tgt := 284) hx hb dL_routes_277 (by decide) (by decide) (by decide) (fun c_277 => ?_) (fun c_277 => ?_)
                                            · exfalso
                                              omega
                                            · exact absurd c_277 (by decide)
                                          · refine zz_iconst hx hb dL_routes_272 ?_
                                            refine lv_goto (tgt := 277) hx hb dL_routes_273 (by decide) ?_
                                            refine zz_icmp_ne (tgt := 284) hx hb dL_routes_277 (by decide) (by decide) (by decide) (fun c_277 => ?_) (fun c_277 => ?_)
                                            · exact absurd c_277 (by decide)
                                            · refine zz_iconst hx hb dL_routes_280 ?_
                                              refine lv_goto (tgt := 285) hx hb dL_routes_281 (by decide) ?_
                                              refine lv_istore (lv' := [(9, .int (iI 1)), (8, .int (iI z195_35)), (4, .int (iI f2_)), (7, .int (iI lit_)), (6, .int (iI way_)), (5, .int (iI j_)), (3, .int (iI i_)), (2, .int (iI c_)), (1, .int (iI z1_1)), (0, .ref (ad 0))]) hx hb dL_routes_285 hl (by decide) rfl (fun ls hl => ?_)
                                              refine lv_iload hx hb dL_routes_287 (lv_at hl 0 rfl) ?_
                                              refine zz_if_eq (tgt := 347) hx hb dL_routes_289 (by decide) (by decide) (fun c_289 => ?_) (fun c_289 => ?_)
                                              · exact absurd c_289 (by decide)
                                              · exact J292 g266_44 _ _ _ _ _ (by exact hr) (by omega) hP hD hS (lv_sub hl [1, 2, 3, 4, 5, 6, 7, 8, 9] rfl)
                                  · exfalso
                                    omega
                                · exfalso
                                  omega
                            · exfalso
                              rcases hl8 with h | h
                              · omega
                              · have hd20 : ∃ d9, distP (sE (GL_v g) 20) i_ j_ d9 ∧ (d9 = way_ ∨ (d9 = -1 ∧ way_ = -13)) := by
                                  rcases hw with y | ⟨-, y | y⟩
                                  · exact absurd hin9 y.1
                                  · exact ⟨-1, y.2, Or.inr ⟨rfl, y.1⟩⟩
                                  · exact ⟨way_, y.2, Or.inl rfl⟩
                                obtain ⟨d9, h8, h7⟩ := hd20
                                have h6 := way_le hrg.2 h.2.2.2 h.1 h8
                                omega
                  refine lv_iload hx hb dL_routes_116 (lv_at hl 3 rfl) ?_
                  refine zz_if_eq (tgt := 138) hx hb dL_routes_118 (by decide) (by omega) (fun c_118 => ?_) (fun c_118 => ?_)
                  · refine zz_iconst hx hb dL_routes_138 ?_
                    refine lv_istore (lv' := [(4, .int (iI 0)), (7, .int (iI lit_)), (6, .int (iI way_)), (5, .int (iI j_)), (3, .int (iI i_)), (2, .int (iI c_)), (1, .int (iI z1_1)), (0, .ref (ad 0))]) hx hb dL_routes_139 hl (by decide) rfl (fun ls hl => ?_)
                    exact J141 0 g116 _ _ _ _ _ (by exact hr) (by first | exact fsP_s (by omega) hf (Or.inr ⟨rfl, Or.inl (by omega)⟩) | exact fsP_s (by omega) hf (Or.inl ⟨rfl, by omega, Or.inl (by omega)⟩) | exact fsP_s (by omega) hf (Or.inl ⟨rfl, by omega, Or.inr (hl9.elim (fun h => h.2) (fun h => absurd h.1 (by omega)))⟩) | exact fsP_s (by omega) hf (Or.inr ⟨rfl, Or.inr ⟨by omega, hl9.elim (fun h => absurd h.1 (by omega)) (fun h => h.2)⟩⟩)) (by omega) hP hD hS (lv_sub hl [0, 1, 2, 3, 4, 5, 6, 7] rfl)
                  · refine lv_iload hx hb dL_routes_121 (lv_at hl 2 rfl) ?_
                    refine lv_iload_n hx hb dL_routes_123 rfl (lv_at hl 4 rfl) ?_
                    refine zz_icmp_ge (tgt := 134) hx hb dL_routes_124 (by decide) (by omega) (by omega) (fun c_124 => ?_) (fun c_124 => ?_)
                    · refine zz_iconst hx hb dL_routes_134 ?_
                      refine lv_goto (tgt := 139) hx hb dL_routes_135 (by decide) ?_
                      refine lv_istore (lv' := [(4, .int (iI 1)), (7, .int (iI lit_)), (6, .int (iI way_)), (5, .int (iI j_)), (3, .int (iI i_)), (2, .int (iI c_)), (1, .int (iI z1_1)), (0, .ref (ad 0))]) hx hb dL_routes_139 hl (by decide) rfl (fun ls hl => ?_)
                      exact J141 1 g116 _ _ _ _ _ (by exact hr) (by first | exact fsP_s (by omega) hf (Or.inr ⟨rfl, Or.inl (by omega)⟩) | exact fsP_s (by omega) hf (Or.inl ⟨rfl, by omega, Or.inl (by omega)⟩) | exact fsP_s (by omega) hf (Or.inl ⟨rfl, by omega, Or.inr (hl9.elim (fun h => h.2) (fun h => absurd h.1 (by omega)))⟩) | exact fsP_s (by omega) hf (Or.inr ⟨rfl, Or.inr ⟨by omega, hl9.elim (fun h => absurd h.1 (by omega)) (fun h => h.2)⟩⟩)) (by omega) hP hD hS (lv_sub hl [0, 1, 2, 3, 4, 5, 6, 7] rfl)
                    · refine lv_iload hx hb dL_routes_127 (lv_at hl 0 rfl) ?_
                      refine zz_bipush hx hb dL_routes_129 (by decide) ?_
                      refine zz_icmp_ne (tgt := 138) hx hb dL_routes_131 (by decide) (by omega) (by decide) (fun c_131 => ?_) (fun c_131 => ?_)
                      · refine zz_iconst hx hb dL_routes_138 ?_
                        refine lv_istore (lv' := [(4, .int (iI 0)), (7, .int (iI lit_)), (6, .int (iI way_)), (5, .int (iI j_)), (3, .int (iI i_)), (2, .int (iI c_)), (1, .int (iI z1_1)), (0, .ref (ad 0))]) hx hb dL_routes_139 hl (by decide) rfl (fun ls hl => ?_)
                        exact J141 0 g116 _ _ _ _ _ (by exact hr) (by first | exact fsP_s (by omega) hf (Or.inr ⟨rfl, Or.inl (by omega)⟩) | exact fsP_s (by omega) hf (Or.inl ⟨rfl, by omega, Or.inl (by omega)⟩) | exact fsP_s (by omega) hf (Or.inl ⟨rfl, by omega, Or.inr (hl9.elim (fun h => h.2) (fun h => absurd h.1 (by omega)))⟩) | exact fsP_s (by omega) hf (Or.inr ⟨rfl, Or.inr ⟨by omega, hl9.elim (fun h => absurd h.1 (by omega)) (fun h => h.2)⟩⟩)) (by omega) hP hD hS (lv_sub hl [0, 1, 2, 3, 4, 5, 6, 7] rfl)
                      · refine zz_iconst hx hb dL_routes_134 ?_
                        refine lv_goto (tgt := 139) hx hb dL_routes_135 (by decide) ?_
                        refine lv_istore (lv' := [(4, .int (iI 1)), (7, .int (iI lit_)), (6, .int (iI way_)), (5, .int (iI j_)), (3, .int (iI i_)), (2, .int (iI c_)), (1, .int (iI z1_1)), (0, .ref (ad 0))]) hx hb dL_routes_139 hl (by decide) rfl (fun ls hl => ?_)
                        exact J141 1 g116 _ _ _ _ _ (by exact hr) (by first | exact fsP_s (by omega) hf (Or.inr ⟨rfl, Or.inl (by omega)⟩) | exact fsP_s (by omega) hf (Or.inl ⟨rfl, by omega, Or.inl (by omega)⟩) | exact fsP_s (by omega) hf (Or.inl ⟨rfl, by omega, Or.inr (hl9.elim (fun h => h.2) (fun h => absurd h.1 (by omega)))⟩) | exact fsP_s (by omega) hf (Or.inr ⟨rfl, Or.inr ⟨by omega, hl9.elim (fun h => absurd h.1 (by omega)) (fun h => h.2)⟩⟩)) (by omega) hP hD hS (lv_sub hl [0, 1, 2, 3, 4, 5, 6, 7] rfl)
                refine lv_iload_n hx hb dL_routes_70 rfl (lv_at hl 5 rfl) ?_
                refine zz_bipush hx hb dL_routes_71 (by decide) ?_
                refine zz_icmp_le (tgt := 86) hx hb dL_routes_73 (by decide) (by omega) (by decide) (fun c_73 => ?_) (fun c_73 => ?_)
                · refine lv_aload_n hx hb dL_routes_86 rfl (lv_at hl 6 rfl) ?_
                  refine lv_iload_n hx hb dL_routes_87 rfl (lv_at hl 3 rfl) ?_
                  refine lv_iload hx hb dL_routes_88 (lv_at hl 1 rfl) ?_
                  refine lv_aload_n hx hb dL_routes_90 rfl (lv_at hl 6 rfl) ?_
                  refine zt_callVi (As := []) (rest := [.int (iI j_), .int (iI i_), .ref (ad 0)]) (L := [zW tA K ad g70]) (Lc := [zW tA K ad g70]) (Lr := []) (Lc' := fun (u : GL) => [zW tA K ad u]) (Lf := fun (u : GL) => [zW tA K ad u]) (is := [0]) (isF := [0]) ⟨hx, hb, hml, hown, hts⟩ (q_X10_range hst hB hr.1  ) (cwV 0 hts (goodIn_wid gL_routes_X10_range) rfl rfl rfl (by decide +kernel) ⟨Nat.le_of_ble_eq_true rfl, Nat.le_of_ble_eq_true rfl⟩) hK hP hD hS hA hZ (zCut_1 _) (zBack_1 _) (ci := 12) (q0 := 0) rfl rfl (zW_0 tA K ad g70) rfl rfl hl.1 (Nat.le_of_ble_eq_true rfl) dL_routes_91 (by show _ + 0 ≤ 2100 ∧ _ + 0 ≤ 12600; omega) ?_
                  intro z91_47 g91_46 H locs hp9 hP hD hS
                  have q91 := hp9.2
                  try rw [hr.2.1] at q91
                  have hr := RDO_trans hr hp9.1
                  clear hp9
                  refine zz_iconst hx hb dL_routes_94 ?_
                  refine zt_callSi (As := [.ref (ad 0), .int (iI i_), .int (iI j_), .int (iI z91_47), .int (iI 0)]) (rest := []) (L := [zW tA K ad g91_46]) (Lc := [zW tA K ad g91_46]) (Lr := []) (Lc' := fun (u : GL) => [zW tA K ad u]) (Lf := fun (u : GL) => [zW tA K ad u]) (is := [0]) (isF := [0]) ⟨hx, hb, hml, hown, hts⟩ (q_L_shortest hst hB 64 (ad := ad) (sz := H.size) (g := g91_46) hr.1 (by rw [hr.2.1]; omega) i_ j_ z91_47 0 (by rw [hr.2.1]; exact hin9) (by omega) (by decide) (bitP_0 _) (by decide)) (va_cwS 5 hts (gx_ww gL_routes_L_shortest) rfl rfl rfl (by decide +kernel) ⟨Nat.le_of_ble_eq_true rfl, Nat.le_of_ble_eq_true rfl⟩) hK hP hD hS hA hZ (zCut_1 _) (zBack_1 _) rfl rfl hl.1 (Nat.le_of_ble_eq_true rfl) dL_routes_95 (by show _ + 0 ≤ 2100 ∧ _ + 0 ≤ 12600; omega) ?_
                  intro z95_49 g95_48 H locs hp9 hP hD hS
                  have q95 := hp9.2
                  rw [hr.2.1] at q95
                  have hr := RDO_trans hr hp9.1
                  clear hp9
                  have b95 := q95.1
                  have q95 := wDist_sh hin9 hch hu q95
                  rw [q91] at q95
                  refine lv_istore (lv' := [(7, .int (iI z95_49)), (6, .int (iI way_)), (5, .int (iI j_)), (4, .int (iI f_)), (3, .int (iI i_)), (2, .int (iI c_)), (1, .int (iI z1_1)), (0, .ref (ad 0))]) hx hb dL_routes_98 hl (by decide) rfl (fun ls hl => ?_)
                  refine lv_iload hx hb dL_routes_100 (lv_at hl 0 rfl) ?_
                  refine zz_ldc hx hb hown (hts (.constant RL 239 (99999)) (by decide +kernel)) (n := 99999) (by decide +kernel) dL_routes_102 ?_
                  refine zz_icmp_ne (tgt := 112) hx hb dL_routes_104 (by decide) (by omega) (by decide) (fun c_104 => ?_) (fun c_104 => ?_)
                  · refine lv_iload hx hb dL_routes_112 (lv_at hl 0 rfl) ?_
                    refine lv_istore (lv' := [(7, .int (iI z95_49)), (6, .int (iI way_)), (5, .int (iI j_)), (4, .int (iI f_)), (3, .int (iI i_)), (2, .int (iI c_)), (1, .int (iI z1_1)), (0, .ref (ad 0))]) hx hb dL_routes_114 hl (by decide) rfl (fun ls hl => ?_)
                    exact J116 z95_49 g95_48 _ _ _ _ _ (by exact hr) (by first | exact q80 | exact (q95.elim (fun h => h.2.2) (fun h => absurd c_104 h.1)) | exact (q95.elim (fun h => absurd h.1 c_104) (fun h => h.2.2)) | (exfalso; rcases u80 with h | h <;> omega)) (by omega) hP hD hS (lv_sub hl [0, 1, 2, 3, 4, 5, 6, 7] rfl)
                  · refine zz_bipush hx hb dL_routes_107 (by decide) ?_
                    refine lv_goto (tgt := 114) hx hb dL_routes_109 (by decide) ?_
                    refine lv_istore (lv' := [(7, .int (iI (-13))), (6, .int (iI way_)), (5, .int (iI j_)), (4, .int (iI f_)), (3, .int (iI i_)), (2, .int (iI c_)), (1, .int (iI z1_1)), (0, .ref (ad 0))]) hx hb dL_routes_114 hl (by decide) rfl (fun ls hl => ?_)
                    exact J116 (-13) g95_48 _ _ _ _ _ (by exact hr) (by first | exact q80 | exact (q95.elim (fun h => h.2.2) (fun h => absurd c_104 h.1)) | exact (q95.elim (fun h => absurd h.1 c_104) (fun h => h.2.2)) | (exfalso; rcases u80 with h | h <;> omega)) (by omega) hP hD hS (lv_sub hl [0, 1, 2, 3, 4, 5, 6, 7] rfl)
                · refine lv_aload_n hx hb dL_routes_76 rfl (lv_at hl 6 rfl) ?_
                  refine lv_iload_n hx hb dL_routes_77 rfl (lv_at hl 3 rfl) ?_
                  refine lv_iload hx hb dL_routes_78 (lv_at hl 1 rfl) ?_
                  refine zh_callSi_ch (As := [.ref (ad 0), .int (iI i_), .int (iI j_)]) (rest := []) (L := [zW tA K ad g70]) (Lc := [zW tA K ad g70]) (Lr := []) (Lc' := fun (u : GL) => [zW tA K ad u]) (Lf := fun (u : GL) => [zW tA K ad u]) (is := [0]) (isF := [0]) ⟨hx, hb, hml, hown, hts⟩ (q_L_litDistance hst hB hr.1 i_ j_ (by omega) (by omega)) (vx_cwSW 3 hts (gx_ww gL_routes_L_litDistance) rfl rfl rfl (by decide +kernel) ⟨Nat.le_of_ble_eq_true rfl, Nat.le_of_ble_eq_true rfl⟩) hK hP hD hS hA hZ (zCut_1 _) (zBack_1 _) rfl rfl hl.1 (Nat.le_of_ble_eq_true rfl) dL_routes_80 (by show _ + 2 ≤ 2100 ∧ _ + 12 ≤ 12600; omega) ?_
                  intro z80_51 g80_50 H locs hp9 hP hD hS
                  have q80 := hp9.2
                  try rw [hr.2.1] at q80
                  have hr := RDO_trans hr hp9.1
                  clear hp9
                  have u80 := wDist_cn hin9 (hch.egOk _) hpp.2 q80
                  refine lv_goto (tgt := 98) hx hb dL_routes_83 (by decide) ?_
                  refine lv_istore (lv' := [(7, .int (iI z80_51)), (6, .int (iI way_)), (5, .int (iI j_)), (4, .int (iI f_)), (3, .int (iI i_)), (2, .int (iI c_)), (1, .int (iI z1_1)), (0, .ref (ad 0))]) hx hb dL_routes_98 hl (by decide) rfl (fun ls hl => ?_)
                  refine lv_iload hx hb dL_routes_100 (lv_at hl 0 rfl) ?_
                  refine zz_ldc hx hb hown (hts (.constant RL 239 (99999)) (by decide +kernel)) (n := 99999) (by decide +kernel) dL_routes_102 ?_
                  refine zz_icmp_ne (tgt := 112) hx hb dL_routes_104 (by decide) (by omega) (by decide) (fun c_104 => ?_) (fun c_104 => ?_)
                  · refine lv_iload hx hb dL_routes_112 (lv_at hl 0 rfl) ?_
                    refine lv_istore (lv' := [(7, .int (iI z80_51)), (6, .int (iI way_)), (5, .int (iI j_)), (4, .int (iI f_)), (3, .int (iI i_)), (2, .int (iI c_)), (1, .int (iI z1_1)), (0, .ref (ad 0))]) hx hb dL_routes_114 hl (by decide) rfl (fun ls hl => ?_)
                    exact J116 z80_51 g80_50 _ _ _ _ _ (by exact hr) (by first | exact q80 | exact (q95.elim (fun h => h.2.2) (fun h => absurd c_104 h.1)) | exact (q95.elim (fun h => absurd h.1 c_104) (fun h => h.2.2)) | (exfalso; rcases u80 with h | h <;> omega)) (by omega) hP hD hS (lv_sub hl [0, 1, 2, 3, 4, 5, 6, 7] rfl)
                  · refine zz_bipush hx hb dL_routes_107 (by decide) ?_
                    refine lv_goto (tgt := 114) hx hb dL_routes_109 (by decide) ?_
                    refine lv_istore (lv' := [(7, .int (iI (-13))), (6, .int (iI way_)), (5, .int (iI j_)), (4, .int (iI f_)), (3, .int (iI i_)), (2, .int (iI c_)), (1, .int (iI z1_1)), (0, .ref (ad 0))]) hx hb dL_routes_114 hl (by decide) rfl (fun ls hl => ?_)
                    exact J116 (-13) g80_50 _ _ _ _ _ (by exact hr) (by first | exact q80 | exact (q95.elim (fun h => h.2.2) (fun h => absurd c_104 h.1)) | exact (q95.elim (fun h => absurd h.1 c_104) (fun h => h.2.2)) | (exfalso; rcases u80 with h | h <;> omega)) (by omega) hP hD hS (lv_sub hl [0, 1, 2, 3, 4, 5, 6, 7] rfl)
              refine lv_iload_n hx hb dL_routes_26 rfl (lv_at hl 4 rfl) ?_
              refine zz_bipush hx hb dL_routes_27 (by decide) ?_
              refine zz_icmp_le (tgt := 42) hx hb dL_routes_29 (by decide) (by omega) (by decide) (fun c_29 => ?_) (fun c_29 => ?_)
              · refine lv_aload_n hx hb dL_routes_42 rfl (lv_at hl 5 rfl) ?_
                refine lv_iload_n hx hb dL_routes_43 rfl (lv_at hl 2 rfl) ?_
                refine lv_iload hx hb dL_routes_44 (lv_at hl 0 rfl) ?_
                refine zz_bipush hx hb dL_routes_46 (by decide) ?_
                refine zz_iconst hx hb dL_routes_48 ?_
                refine zt_callSi (As := [.ref (ad 0), .int (iI i_), .int (iI j_), .int (iI 20), .int (iI 0)]) (rest := []) (L := [zW tA K ad g20]) (Lc := [zW tA K ad g20]) (Lr := []) (Lc' := fun (u : GL) => [zW tA K ad u]) (Lf := fun (u : GL) => [zW tA K ad u]) (is := [0]) (isF := [0]) ⟨hx, hb, hml, hown, hts⟩ (q_L_shortest hst hB 64 (ad := ad) (sz := H.size) (g := g20) hr.1 (by rw [hr.2.1]; omega) i_ j_ 20 0 (by rw [hr.2.1]; exact hin9) (by decide) (by decide) (bitP_0 _) (by decide)) (va_cwS 5 hts (gx_ww gL_routes_L_shortest) rfl rfl rfl (by decide +kernel) ⟨Nat.le_of_ble_eq_true rfl, Nat.le_of_ble_eq_true rfl⟩) hK hP hD hS hA hZ (zCut_1 _) (zBack_1 _) rfl rfl hl.1 (Nat.le_of_ble_eq_true rfl) dL_routes_49 (by show _ + 0 ≤ 2100 ∧ _ + 0 ≤ 12600; omega) ?_
                intro z49_53 g49_52 H locs hp9 hP hD hS
                have q49 := hp9.2
                rw [hr.2.1] at q49
                have hr := RDO_trans hr hp9.1
                clear hp9
                have b49 := q49.1
                have q49 := wDist_sh hin9 hch hu q49
                refine lv_istore (lv' := [(6, .int (iI z49_53)), (5, .int (iI j_)), (4, .int (iI f_)), (3, .int (iI i_)), (2, .int (iI c_)), (1, .int (iI z1_1)), (0, .ref (ad 0))]) hx hb dL_routes_52 hl (by decide) rfl (fun ls hl => ?_)
                refine lv_iload hx hb dL_routes_54 (lv_at hl 0 rfl) ?_
                refine zz_ldc hx hb hown (hts (.constant RL 239 (99999)) (by decide +kernel)) (n := 99999) (by decide +kernel) dL_routes_56 ?_
                refine zz_icmp_ne (tgt := 66) hx hb dL_routes_58 (by decide) (by omega) (by decide) (fun c_58 => ?_) (fun c_58 => ?_)
                · refine lv_iload hx hb dL_routes_66 (lv_at hl 0 rfl) ?_
                  refine lv_istore (lv' := [(6, .int (iI z49_53)), (5, .int (iI j_)), (4, .int (iI f_)), (3, .int (iI i_)), (2, .int (iI c_)), (1, .int (iI z1_1)), (0, .ref (ad 0))]) hx hb dL_routes_68 hl (by decide) rfl (fun ls hl => ?_)
                  exact J70 z49_53 g49_52 _ _ _ _ _ (by exact hr) (by first | exact q36 | exact (q49.elim (fun h => h.2.2) (fun h => absurd c_58 h.1)) | exact (q49.elim (fun h => absurd h.1 c_58) (fun h => h.2.2)) | (exfalso; rcases u36 with h | h <;> omega)) (by omega) hP hD hS (lv_sub hl [0, 1, 2, 3, 4, 5, 6] rfl)
                · refine zz_bipush hx hb dL_routes_61 (by decide) ?_
                  refine lv_goto (tgt := 68) hx hb dL_routes_63 (by decide) ?_
                  refine lv_istore (lv' := [(6, .int (iI (-13))), (5, .int (iI j_)), (4, .int (iI f_)), (3, .int (iI i_)), (2, .int (iI c_)), (1, .int (iI z1_1)), (0, .ref (ad 0))]) hx hb dL_routes_68 hl (by decide) rfl (fun ls hl => ?_)
                  exact J70 (-13) g49_52 _ _ _ _ _ (by exact hr) (by first | exact q36 | exact (q49.elim (fun h => h.2.2) (fun h => absurd c_58 h.1)) | exact (q49.elim (fun h => absurd h.1 c_58) (fun h => h.2.2)) | (exfalso; rcases u36 with h | h <;> omega)) (by omega) hP hD hS (lv_sub hl [0, 1, 2, 3, 4, 5, 6] rfl)
              · refine lv_aload_n hx hb dL_routes_32 rfl (lv_at hl 5 rfl) ?_
                refine lv_iload_n hx hb dL_routes_33 rfl (lv_at hl 2 rfl) ?_
                refine lv_iload hx hb dL_routes_34 (lv_at hl 0 rfl) ?_
                refine zh_callSi_ch (As := [.ref (ad 0), .int (iI i_), .int (iI j_)]) (rest := []) (L := [zW tA K ad g20]) (Lc := [zW tA K ad g20]) (Lr := []) (Lc' := fun (u : GL) => [zW tA K ad u]) (Lf := fun (u : GL) => [zW tA K ad u]) (is := [0]) (isF := [0]) ⟨hx, hb, hml, hown, hts⟩ (q_L_distance hst hB hr.1 i_ j_ (by omega) (by omega)) (vx_cwSW 3 hts (gx_ww gL_routes_L_distance) rfl rfl rfl (by decide +kernel) ⟨Nat.le_of_ble_eq_true rfl, Nat.le_of_ble_eq_true rfl⟩) hK hP hD hS hA hZ (zCut_1 _) (zBack_1 _) rfl rfl hl.1 (Nat.le_of_ble_eq_true rfl) dL_routes_36 (by show _ + 2 ≤ 2100 ∧ _ + 12 ≤ 12600; omega) ?_
                intro z36_55 g36_54 H locs hp9 hP hD hS
                have q36 := hp9.2
                try rw [hr.2.1] at q36
                have hr := RDO_trans hr hp9.1
                clear hp9
                have u36 := wDist_cn hin9 (hch.egOk 20) hpp.2 q36
                refine lv_goto (tgt := 52) hx hb dL_routes_39 (by decide) ?_
                refine lv_istore (lv' := [(6, .int (iI z36_55)), (5, .int (iI j_)), (4, .int (iI f_)), (3, .int (iI i_)), (2, .int (iI c_)), (1, .int (iI z1_1)), (0, .ref (ad 0))]) hx hb dL_routes_52 hl (by decide) rfl (fun ls hl => ?_)
                refine lv_iload hx hb dL_routes_54 (lv_at hl 0 rfl) ?_
                refine zz_ldc hx hb hown (hts (.constant RL 239 (99999)) (by decide +kernel)) (n := 99999) (by decide +kernel) dL_routes_56 ?_
                refine zz_icmp_ne (tgt := 66) hx hb dL_routes_58 (by decide) (by omega) (by decide) (fun c_58 => ?_) (fun c_58 => ?_)
                · refine lv_iload hx hb dL_routes_66 (lv_at hl 0 rfl) ?_
                  refine lv_istore (lv' := [(6, .int (iI z36_55)), (5, .int (iI j_)), (4, .int (iI f_)), (3, .int (iI i_)), (2, .int (iI c_)), (1, .int (iI z1_1)), (0, .ref (ad 0))]) hx hb dL_routes_68 hl (by decide) rfl (fun ls hl => ?_)
                  exact J70 z36_55 g36_54 _ _ _ _ _ (by exact hr) (by first | exact q36 | exact (q49.elim (fun h => h.2.2) (fun h => absurd c_58 h.1)) | exact (q49.elim (fun h => absurd h.1 c_58) (fun h => h.2.2)) | (exfalso; rcases u36 with h | h <;> omega)) (by omega) hP hD hS (lv_sub hl [0, 1, 2, 3, 4, 5, 6] rfl)
                · refine zz_bipush hx hb dL_routes_61 (by decide) ?_
                  refine lv_goto (tgt := 68) hx hb dL_routes_63 (by decide) ?_
                  refine lv_istore (lv' := [(6, .int (iI (-13))), (5, .int (iI j_)), (4, .int (iI f_)), (3, .int (iI i_)), (2, .int (iI c_)), (1, .int (iI z1_1)), (0, .ref (ad 0))]) hx hb dL_routes_68 hl (by decide) rfl (fun ls hl => ?_)
                  exact J70 (-13) g36_54 _ _ _ _ _ (by exact hr) (by first | exact q36 | exact (q49.elim (fun h => h.2.2) (fun h => absurd c_58 h.1)) | exact (q49.elim (fun h => absurd h.1 c_58) (fun h => h.2.2)) | (exfalso; rcases u36 with h | h <;> omega)) (by omega) hP hD hS (lv_sub hl [0, 1, 2, 3, 4, 5, 6] rfl)
        exact L20 _ 0 1 g9 _ _ _ _ _ (by exact hr) (by omega) (by exact fsP_0) (by omega) (Nat.lt_succ_self _) hP hD hS (lv_sub hl [0, 1, 2, 3, 4, 5] rfl)
  exact L9 _ 0 0 g1_0 _ _ _ _ _ (by exact hr) (by omega) (by omega) (by exact grC_0) (by omega) (Nat.lt_succ_self _) hP hD hS (lv_sub hl [0, 1, 2, 3] rfl)
