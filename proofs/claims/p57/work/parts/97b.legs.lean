/-! ===== p57: the law's legs ===== -/
set_option maxHeartbeats 4000000 in
set_option maxRecDepth 20000 in
theorem q_L_legs {l : Launch} (hst : l.stackTraces = false) {K : Nat → Nat} {D : va_G} {tA : Nat → ClassId} {ad : Nat → Nat} {sz : Nat} {B N : Int} {g : GL} (hB : (0 ≤ B ∧ B ≤ 100000000) ∧ (0 ≤ N ∧ N ≤ 100000)) (hok : OKG B N g)  : zHi l yL_legs (wsL_legs ++ xL) ({ frames := 10, cells := 2700, slots := 16200, locals := 179 }) K D tA [.ref (ad 0)] (zW tA K ad g) sz (fun (z : Int) (g' : GL) => RDO B N g g' ∧ z = 1) (fun g' => zW tA K ad g') 2700 16200 := by
  refine zHi_ofC (cc := cL_legs) (maxL := 9) (by decide) rfl (fun z u h => zbool z (by have := h.2; omega)) (Nat.le_of_ble_eq_true rfl) ?_
  intro p e s m args below meth c A Q ls hx hb hml hts hown hK hP hD hA hZ hret hl
  obtain ⟨H, hHe⟩ : ∃ H : Heap, H = s.heap := ⟨_, rfl⟩
  have hS : va_S A s.heap H [] := by rw [hHe]; exact va_S.rf
  rw [← hHe] at hP ⊢
  have hP := zP_i hP
  have hD := zD_i hD
  have hr : RDO B N g g := RDO_refl hok
  have hl : lv_has ls 9 [(0, .ref (ad 0))] := hl
  obtain ⟨hokv, hhn, hhc, hln, htx, hva, hcm, hlc, hlb⟩ := id hok
  obtain ⟨hsv, hnv⟩ := id hokv
  obtain ⟨hch, hu, hcc, hsp, hmo, hfg, hrg, hni, hfd, hmt, hld, hbr⟩ := SVk_out (show SVk B N (eSv (GL_v g)) from hsv)
  have hpp : 0 ≤ GL_v g 0 0 ∧ GL_v g 0 0 ≤ 10 := ⟨hch.1, hch.2.1⟩
  have hlg : 0 ≤ GL_v g 1 0 ∧ GL_v g 1 0 ≤ 20 := ⟨hch.2.2.1, hch.2.2.2.1⟩
  refine lv_aload_n hx hb dL_legs_0 rfl (lv_at hl 0 rfl) ?_
  refine zt_callVi (As := []) (rest := []) (L := [zW tA K ad g]) (Lc := [zW tA K ad g]) (Lr := []) (Lc' := fun (u : GL) => [zW tA K ad u]) (Lf := fun (u : GL) => [zW tA K ad u]) (is := [0]) (isF := [0]) ⟨hx, hb, hml, hown, hts⟩ (q_X10_portCount hst hB hr.1  ) (cwV 0 hts (goodIn_wid gL_legs_X10_portCount) rfl rfl rfl (by decide +kernel) ⟨Nat.le_of_ble_eq_true rfl, Nat.le_of_ble_eq_true rfl⟩) hK hP hD hS hA hZ (zCut_1 _) (zBack_1 _) (ci := 12) (q0 := 0) rfl rfl (zW_0 tA K ad g) rfl rfl hl.1 (Nat.le_of_ble_eq_true rfl) dL_legs_1 (by show _ + 0 ≤ 2700 ∧ _ + 0 ≤ 16200; omega) ?_
  intro z1_1 g1_0 H locs hp9 hP hD hS
  have q1 := hp9.2
  try rw [hr.2.1] at q1
  have hr := RDO_trans hr hp9.1
  clear hp9
  refine lv_istore_n (lv' := [(1, .int (iI z1_1)), (0, .ref (ad 0))]) hx hb dL_legs_4 rfl hl (by decide) rfl (fun ls hl => ?_)
  refine zz_iconst hx hb dL_legs_5 ?_
  refine lv_istore_n (lv' := [(2, .int (iI 0)), (1, .int (iI z1_1)), (0, .ref (ad 0))]) hx hb dL_legs_6 rfl hl (by decide) rfl (fun ls hl => ?_)
  refine zz_iconst hx hb dL_legs_7 ?_
  refine lv_istore_n (lv' := [(3, .int (iI 0)), (2, .int (iI 0)), (1, .int (iI z1_1)), (0, .ref (ad 0))]) hx hb dL_legs_8 rfl hl (by decide) rfl (fun ls hl => ?_)
  have L9 : ∀ (f9 : Nat) (i_ : Int) (c_ : Int) (g9 : GL) (k9 : Nat) (n9 : Nat) (H : Heap) (locs : List Loc) (ls : Array Slot), (RDO B N g g9) → (0 ≤ i_ ∧ i_ ≤ GL_v g 0 0) → (c_ = legC (GL_v g) (GL_v g 0 0) i_) → (((k9 : Nat) : Int) ≤ 200 * i_ ∧ ((n9 : Nat) : Int) ≤ 6 * (200 * i_)) → (GL_v g 0 0 - i_).toNat < f9 → va_P D vwCl [zW tA K ad g9].flatten H → va_D A [zW tA K ad g9].flatten → va_S A s.heap H locs → lv_has ls 9 [(3, .int (iI i_)), (2, .int (iI c_)), (1, .int (iI z1_1)), (0, .ref (ad 0))] → W p l e (headSpec (wsL_legs ++ xL) ({ frames := 10, cells := 2700, slots := 16200, locals := 179 })).room s m args below meth c H locs k9 n9 Q (F0 m 9 ls []) := by
    intro f9
    induction f9 with
    | zero => intro i_ c_ g9 k9 n9 H locs ls hr hi hc hk9 hmz; exact absurd hmz (Nat.not_lt_zero _)
    | succ f9 ih9 =>
      intro i_ c_ g9 k9 n9 H locs ls hr hi hc hk9 hmz hP hD hS hl
      refine lv_iload_n hx hb dL_legs_9 rfl (lv_at hl 0 rfl) ?_
      refine lv_iload_n hx hb dL_legs_10 rfl (lv_at hl 2 rfl) ?_
      refine zz_icmp_ge (tgt := 209) hx hb dL_legs_11 (by decide) (by omega) (by omega) (fun c_11 => ?_) (fun c_11 => ?_)
      · have hcl : c_ = GL_v g 1 0 := by
          have hi9 : i_ = GL_v g 0 0 := by omega
          rw [hc, hi9]
          exact legC_all hokv
        refine zz_iconst hx hb dL_legs_209 ?_
        refine lv_istore_n (lv' := [(3, .int (iI 0)), (2, .int (iI c_)), (1, .int (iI z1_1)), (0, .ref (ad 0))]) hx hb dL_legs_210 rfl hl (by decide) rfl (fun ls hl => ?_)
        have L211 : ∀ (f9 : Nat) (k_ : Int) (g211 : GL) (k9 : Nat) (n9 : Nat) (H : Heap) (locs : List Loc) (ls : Array Slot), (RDO B N g g211) → (0 ≤ k_ ∧ k_ ≤ GL_v g 1 0) → (((k9 : Nat) : Int) ≤ 2000 + 30 * k_ ∧ ((n9 : Nat) : Int) ≤ 6 * (2000 + 30 * k_)) → (GL_v g 1 0 - k_).toNat < f9 → va_P D vwCl [zW tA K ad g211].flatten H → va_D A [zW tA K ad g211].flatten → va_S A s.heap H locs → lv_has ls 9 [(3, .int (iI k_)), (2, .int (iI c_)), (1, .int (iI z1_1)), (0, .ref (ad 0))] → W p l e (headSpec (wsL_legs ++ xL) ({ frames := 10, cells := 2700, slots := 16200, locals := 179 })).room s m args below meth c H locs k9 n9 Q (F0 m 211 ls []) := by
          intro f9
          induction f9 with
          | zero => intro k_ g211 k9 n9 H locs ls hr hk hk9 hmz; exact absurd hmz (Nat.not_lt_zero _)
          | succ f9 ih211 =>
            intro k_ g211 k9 n9 H locs ls hr hk hk9 hmz hP hD hS hl
            refine lv_iload_n hx hb dL_legs_211 rfl (lv_at hl 0 rfl) ?_
            refine lv_aload_n hx hb dL_legs_212 rfl (lv_at hl 3 rfl) ?_
            refine zt_callVi (As := []) (rest := [.int (iI k_)]) (L := [zW tA K ad g211]) (Lc := [zW tA K ad g211]) (Lr := []) (Lc' := fun (u : GL) => [zW tA K ad u]) (Lf := fun (u : GL) => [zW tA K ad u]) (is := [0]) (isF := [0]) ⟨hx, hb, hml, hown, hts⟩ (q_X10_legCount hst hB hr.1  ) (cwV 0 hts (goodIn_wid gL_legs_X10_legCount) rfl rfl rfl (by decide +kernel) ⟨Nat.le_of_ble_eq_true rfl, Nat.le_of_ble_eq_true rfl⟩) hK hP hD hS hA hZ (zCut_1 _) (zBack_1 _) (ci := 12) (q0 := 0) rfl rfl (zW_0 tA K ad g211) rfl rfl hl.1 (Nat.le_of_ble_eq_true rfl) dL_legs_213 (by show _ + 0 ≤ 2700 ∧ _ + 0 ≤ 16200; omega) ?_
            intro z213_3 g213_2 H locs hp9 hP hD hS
            have q213 := hp9.2
            try rw [hr.2.1] at q213
            have hr := RDO_trans hr hp9.1
            clear hp9
            refine zz_icmp_ge (tgt := 368) hx hb dL_legs_216 (by decide) (by omega) (by omega) (fun c_216 => ?_) (fun c_216 => ?_)
            · refine lv_aload_n hx hb dL_legs_368 rfl (lv_at hl 3 rfl) ?_
              refine zt_callVi (As := []) (rest := []) (L := [zW tA K ad g213_2]) (Lc := [zW tA K ad g213_2]) (Lr := []) (Lc' := fun (u : GL) => [zW tA K ad u]) (Lf := fun (u : GL) => [zW tA K ad u]) (is := [0]) (isF := [0]) ⟨hx, hb, hml, hown, hts⟩ (q_X10_legCount hst hB hr.1  ) (cwV 0 hts (goodIn_wid gL_legs_X10_legCount) rfl rfl rfl (by decide +kernel) ⟨Nat.le_of_ble_eq_true rfl, Nat.le_of_ble_eq_true rfl⟩) hK hP hD hS hA hZ (zCut_1 _) (zBack_1 _) (ci := 12) (q0 := 0) rfl rfl (zW_0 tA K ad g213_2) rfl rfl hl.1 (Nat.le_of_ble_eq_true rfl) dL_legs_369 (by show _ + 0 ≤ 2700 ∧ _ + 0 ≤ 16200; omega) ?_
              intro z369_5 g369_4 H locs hp9 hP hD hS
              have q369 := hp9.2
              try rw [hr.2.1] at q369
              have hr := RDO_trans hr hp9.1
              clear hp9
              refine lv_iload_n hx hb dL_legs_372 rfl (lv_at hl 1 rfl) ?_
              refine zz_icmp_ne (tgt := 455) hx hb dL_legs_373 (by decide) (by omega) (by omega) (fun c_373 => ?_) (fun c_373 => ?_)
              · exfalso
                omega
              · refine lv_aload_n hx hb dL_legs_376 rfl (lv_at hl 3 rfl) ?_
                refine lv_iload_n hx hb dL_legs_377 rfl (lv_at hl 1 rfl) ?_
                refine zh_callSi_ch (As := [.ref (ad 0), .int (iI c_)]) (rest := []) (L := [zW tA K ad g369_4]) (Lc := [zW tA K ad g369_4]) (Lr := []) (Lc' := fun (u : GL) => [zW tA K ad u]) (Lf := fun (u : GL) => [zW tA K ad u]) (is := [0]) (isF := [0]) ⟨hx, hb, hml, hown, hts⟩ (q_L_lower hst hB hr.1 c_ (by omega)) (vx_cwSW 2 hts (gx_ww gL_legs_L_lower) rfl rfl rfl (by decide +kernel) ⟨Nat.le_of_ble_eq_true rfl, Nat.le_of_ble_eq_true rfl⟩) hK hP hD hS hA hZ (zCut_1 _) (zBack_1 _) rfl rfl hl.1 (Nat.le_of_ble_eq_true rfl) dL_legs_378 (by show _ + 1 ≤ 2700 ∧ _ + 6 ≤ 16200; omega) ?_
                intro z378_7 g378_6 H locs hp9 hP hD hS
                have q378 := hp9.2
                try rw [hr.2.1] at q378
                have hr := RDO_trans hr hp9.1
                clear hp9
                have q378 := wPos_o q378 (by omega)
                refine zz_bipush hx hb dL_legs_381 (by decide) ?_
                refine zz_icmp_ne (tgt := 455) hx hb dL_legs_383 (by decide) (by omega) (by decide) (fun c_383 => ?_) (fun c_383 => ?_)
                · exfalso
                  omega
                · refine lv_aload_n hx hb dL_legs_386 rfl (lv_at hl 3 rfl) ?_
                  refine zz_iconst hx hb dL_legs_387 ?_
                  refine zh_callSi_ch (As := [.ref (ad 0), .int (iI (-1))]) (rest := []) (L := [zW tA K ad g378_6]) (Lc := [zW tA K ad g378_6]) (Lr := []) (Lc' := fun (u : GL) => [zW tA K ad u]) (Lf := fun (u : GL) => [zW tA K ad u]) (is := [0]) (isF := [0]) ⟨hx, hb, hml, hown, hts⟩ (q_L_upper hst hB hr.1 (-1) (by decide)) (vx_cwSW 2 hts (gx_ww gL_legs_L_upper) rfl rfl rfl (by decide +kernel) ⟨Nat.le_of_ble_eq_true rfl, Nat.le_of_ble_eq_true rfl⟩) hK hP hD hS hA hZ (zCut_1 _) (zBack_1 _) rfl rfl hl.1 (Nat.le_of_ble_eq_true rfl) dL_legs_388 (by show _ + 1 ≤ 2700 ∧ _ + 6 ≤ 16200; omega) ?_
                  intro z388_9 g388_8 H locs hp9 hP hD hS
                  have q388 := hp9.2
                  try rw [hr.2.1] at q388
                  have hr := RDO_trans hr hp9.1
                  clear hp9
                  have q388 := wPos_o q388 (by omega)
                  refine zz_bipush hx hb dL_legs_391 (by decide) ?_
                  refine zz_icmp_ne (tgt := 455) hx hb dL_legs_393 (by decide) (by omega) (by decide) (fun c_393 => ?_) (fun c_393 => ?_)
                  · exfalso
                    omega
                  · refine lv_aload_n hx hb dL_legs_396 rfl (lv_at hl 3 rfl) ?_
                    refine lv_iload_n hx hb dL_legs_397 rfl (lv_at hl 2 rfl) ?_
                    refine zz_iconst hx hb dL_legs_398 ?_
                    refine zh_callSi_ch (As := [.ref (ad 0), .int (iI z1_1), .int (iI 0)]) (rest := []) (L := [zW tA K ad g388_8]) (Lc := [zW tA K ad g388_8]) (Lr := []) (Lc' := fun (u : GL) => [zW tA K ad u]) (Lf := fun (u : GL) => [zW tA K ad u]) (is := [0]) (isF := [0]) ⟨hx, hb, hml, hown, hts⟩ (q_L_hasLeg hst hB hr.1 z1_1 0 (by omega) (by decide)) (vx_cwSW 3 hts (gx_ww gL_legs_L_hasLeg) rfl rfl rfl (by decide +kernel) ⟨Nat.le_of_ble_eq_true rfl, Nat.le_of_ble_eq_true rfl⟩) hK hP hD hS hA hZ (zCut_1 _) (zBack_1 _) rfl rfl hl.1 (Nat.le_of_ble_eq_true rfl) dL_legs_399 (by show _ + 1 ≤ 2700 ∧ _ + 6 ≤ 16200; omega) ?_
                    intro z399_11 g399_10 H locs hp9 hP hD hS
                    have q399 := hp9.2
                    try rw [hr.2.1] at q399
                    have hr := RDO_trans hr hp9.1
                    clear hp9
                    have q399 := wHas_o q399 (fun h => by unfold inP at h; omega)
                    refine zz_bipush hx hb dL_legs_402 (by decide) ?_
                    refine zz_icmp_ne (tgt := 455) hx hb dL_legs_404 (by decide) (by omega) (by decide) (fun c_404 => ?_) (fun c_404 => ?_)
                    · exfalso
                      omega
                    · refine lv_aload_n hx hb dL_legs_407 rfl (lv_at hl 3 rfl) ?_
                      refine zz_iconst hx hb dL_legs_408 ?_
                      refine lv_iload_n hx hb dL_legs_409 rfl (lv_at hl 2 rfl) ?_
                      refine zh_callSi_ch (As := [.ref (ad 0), .int (iI 0), .int (iI z1_1)]) (rest := []) (L := [zW tA K ad g399_10]) (Lc := [zW tA K ad g399_10]) (Lr := []) (Lc' := fun (u : GL) => [zW tA K ad u]) (Lf := fun (u : GL) => [zW tA K ad u]) (is := [0]) (isF := [0]) ⟨hx, hb, hml, hown, hts⟩ (q_L_lengthOf hst hB hr.1 0 z1_1 (by decide) (by omega)) (vx_cwSW 3 hts (gx_ww gL_legs_L_lengthOf) rfl rfl rfl (by decide +kernel) ⟨Nat.le_of_ble_eq_true rfl, Nat.le_of_ble_eq_true rfl⟩) hK hP hD hS hA hZ (zCut_1 _) (zBack_1 _) rfl rfl hl.1 (Nat.le_of_ble_eq_true rfl) dL_legs_410 (by show _ + 2 ≤ 2700 ∧ _ + 12 ≤ 16200; omega) ?_
                      intro z410_13 g410_12 H locs hp9 hP hD hS
                      have q410 := hp9.2
                      try rw [hr.2.1] at q410
                      have hr := RDO_trans hr hp9.1
                      clear hp9
                      have q410 := wLeg_o q410 (fun h => by unfold inP at h; omega)
                      refine zz_bipush hx hb dL_legs_413 (by decide) ?_
                      refine zz_icmp_ne (tgt := 455) hx hb dL_legs_415 (by decide) (by omega) (by decide) (fun c_415 => ?_) (fun c_415 => ?_)
                      · exfalso
                        omega
                      · refine lv_aload_n hx hb dL_legs_418 rfl (lv_at hl 3 rfl) ?_
                        refine zz_iconst hx hb dL_legs_419 ?_
                        refine zz_iconst hx hb dL_legs_420 ?_
                        refine zh_callSi_ch (As := [.ref (ad 0), .int (iI (-1)), .int (iI 0)]) (rest := []) (L := [zW tA K ad g410_12]) (Lc := [zW tA K ad g410_12]) (Lr := []) (Lc' := fun (u : GL) => [zW tA K ad u]) (Lf := fun (u : GL) => [zW tA K ad u]) (is := [0]) (isF := [0]) ⟨hx, hb, hml, hown, hts⟩ (q_L_reachOf hst hB hr.1 (-1) 0 (by decide) (by decide)) (vx_cwSW 3 hts (gx_ww gL_legs_L_reachOf) rfl rfl rfl (by decide +kernel) ⟨Nat.le_of_ble_eq_true rfl, Nat.le_of_ble_eq_true rfl⟩) hK hP hD hS hA hZ (zCut_1 _) (zBack_1 _) rfl rfl hl.1 (Nat.le_of_ble_eq_true rfl) dL_legs_421 (by show _ + 2 ≤ 2700 ∧ _ + 12 ≤ 16200; omega) ?_
                        intro z421_15 g421_14 H locs hp9 hP hD hS
                        have q421 := hp9.2
                        try rw [hr.2.1] at q421
                        have hr := RDO_trans hr hp9.1
                        clear hp9
                        have q421 := wLeg_o q421 (fun h => by unfold inP at h; omega)
                        refine zz_bipush hx hb dL_legs_424 (by decide) ?_
                        refine zz_icmp_ne (tgt := 455) hx hb dL_legs_426 (by decide) (by omega) (by decide) (fun c_426 => ?_) (fun c_426 => ?_)
                        · exfalso
                          omega
                        · refine lv_aload_n hx hb dL_legs_429 rfl (lv_at hl 3 rfl) ?_
                          refine lv_iload_n hx hb dL_legs_430 rfl (lv_at hl 2 rfl) ?_
                          refine zz_iconst hx hb dL_legs_431 ?_
                          refine zh_callSi_ch (As := [.ref (ad 0), .int (iI z1_1), .int (iI 0)]) (rest := []) (L := [zW tA K ad g421_14]) (Lc := [zW tA K ad g421_14]) (Lr := []) (Lc' := fun (u : GL) => [zW tA K ad u]) (Lf := fun (u : GL) => [zW tA K ad u]) (is := [0]) (isF := [0]) ⟨hx, hb, hml, hown, hts⟩ (q_L_meterOf hst hB hr.1 z1_1 0 (by omega) (by decide)) (vx_cwSW 3 hts (gx_ww gL_legs_L_meterOf) rfl rfl rfl (by decide +kernel) ⟨Nat.le_of_ble_eq_true rfl, Nat.le_of_ble_eq_true rfl⟩) hK hP hD hS hA hZ (zCut_1 _) (zBack_1 _) rfl rfl hl.1 (Nat.le_of_ble_eq_true rfl) dL_legs_432 (by show _ + 2 ≤ 2700 ∧ _ + 12 ≤ 16200; omega) ?_
                          intro z432_17 g432_16 H locs hp9 hP hD hS
                          have q432 := hp9.2
                          try rw [hr.2.1] at q432
                          have hr := RDO_trans hr hp9.1
                          clear hp9
                          have q432 := wLeg_o q432 (fun h => by unfold inP at h; omega)
                          refine zz_bipush hx hb dL_legs_435 (by decide) ?_
                          refine zz_icmp_ne (tgt := 455) hx hb dL_legs_437 (by decide) (by omega) (by decide) (fun c_437 => ?_) (fun c_437 => ?_)
                          · exfalso
                            omega
                          · refine lv_aload_n hx hb dL_legs_440 rfl (lv_at hl 3 rfl) ?_
                            refine zz_iconst hx hb dL_legs_441 ?_
                            refine lv_iload_n hx hb dL_legs_442 rfl (lv_at hl 2 rfl) ?_
                            refine zh_callSi_ch (As := [.ref (ad 0), .int (iI 0), .int (iI z1_1)]) (rest := []) (L := [zW tA K ad g432_16]) (Lc := [zW tA K ad g432_16]) (Lr := []) (Lc' := fun (u : GL) => [zW tA K ad u]) (Lf := fun (u : GL) => [zW tA K ad u]) (is := [0]) (isF := [0]) ⟨hx, hb, hml, hown, hts⟩ (q_L_isLit hst hB hr.1 0 z1_1 (by decide) (by omega)) (vx_cwSW 3 hts (gx_ww gL_legs_L_isLit) rfl rfl rfl (by decide +kernel) ⟨Nat.le_of_ble_eq_true rfl, Nat.le_of_ble_eq_true rfl⟩) hK hP hD hS hA hZ (zCut_1 _) (zBack_1 _) rfl rfl hl.1 (Nat.le_of_ble_eq_true rfl) dL_legs_443 (by show _ + 2 ≤ 2700 ∧ _ + 12 ≤ 16200; omega) ?_
                            intro z443_19 g443_18 H locs hp9 hP hD hS
                            have q443 := hp9.2
                            try rw [hr.2.1] at q443
                            have hr := RDO_trans hr hp9.1
                            clear hp9
                            have q443 := wLit_o q443 (fun h => by unfold inP at h; omega)
                            refine zz_bipush hx hb dL_legs_446 (by decide) ?_
                            refine zz_icmp_ne (tgt := 455) hx hb dL_legs_448 (by decide) (by omega) (by decide) (fun c_448 => ?_) (fun c_448 => ?_)
                            · exfalso
                              omega
                            · refine zz_iconst hx hb dL_legs_451 ?_
                              refine lv_goto (tgt := 456) hx hb dL_legs_452 (by decide) ?_
                              have hfin : (fun (z : Int) (g' : GL) => RDO B N g g' ∧ z = 1) (1 : Int) g443_18 := by
                                exact ⟨hr, rfl⟩
                              exact hret (1) g443_18 H locs _ _ _ _ (by omega) (by omega) dL_legs_456 hfin (zP_o hP) (zD_o hD) hS
            · refine lv_aload_n hx hb dL_legs_219 rfl (lv_at hl 3 rfl) ?_
              refine lv_iload_n hx hb dL_legs_220 rfl (lv_at hl 0 rfl) ?_
              refine zh_callSi_ch (As := [.ref (ad 0), .int (iI k_)]) (rest := []) (L := [zW tA K ad g213_2]) (Lc := [zW tA K ad g213_2]) (Lr := []) (Lc' := fun (u : GL) => [zW tA K ad u]) (Lf := fun (u : GL) => [zW tA K ad u]) (is := [0]) (isF := [0]) ⟨hx, hb, hml, hown, hts⟩ (q_L_lower hst hB hr.1 k_ (by omega)) (vx_cwSW 2 hts (gx_ww gL_legs_L_lower) rfl rfl rfl (by decide +kernel) ⟨Nat.le_of_ble_eq_true rfl, Nat.le_of_ble_eq_true rfl⟩) hK hP hD hS hA hZ (zCut_1 _) (zBack_1 _) rfl rfl hl.1 (Nat.le_of_ble_eq_true rfl) dL_legs_221 (by show _ + 1 ≤ 2700 ∧ _ + 6 ≤ 16200; omega) ?_
              intro z221_21 g221_20 H locs hp9 hP hD hS
              have q221 := hp9.2
              try rw [hr.2.1] at q221
              have hr := RDO_trans hr hp9.1
              clear hp9
              have q221 := wPos_v q221 ⟨by omega, by omega⟩
              refine lv_istore (lv' := [(4, .int (iI z221_21)), (3, .int (iI k_)), (2, .int (iI c_)), (1, .int (iI z1_1)), (0, .ref (ad 0))]) hx hb dL_legs_224 hl (by decide) rfl (fun ls hl => ?_)
              refine lv_aload_n hx hb dL_legs_226 rfl (lv_at hl 4 rfl) ?_
              refine lv_iload_n hx hb dL_legs_227 rfl (lv_at hl 1 rfl) ?_
              refine zh_callSi_ch (As := [.ref (ad 0), .int (iI k_)]) (rest := []) (L := [zW tA K ad g221_20]) (Lc := [zW tA K ad g221_20]) (Lr := []) (Lc' := fun (u : GL) => [zW tA K ad u]) (Lf := fun (u : GL) => [zW tA K ad u]) (is := [0]) (isF := [0]) ⟨hx, hb, hml, hown, hts⟩ (q_L_upper hst hB hr.1 k_ (by omega)) (vx_cwSW 2 hts (gx_ww gL_legs_L_upper) rfl rfl rfl (by decide +kernel) ⟨Nat.le_of_ble_eq_true rfl, Nat.le_of_ble_eq_true rfl⟩) hK hP hD hS hA hZ (zCut_1 _) (zBack_1 _) rfl rfl hl.1 (Nat.le_of_ble_eq_true rfl) dL_legs_228 (by show _ + 1 ≤ 2700 ∧ _ + 6 ≤ 16200; omega) ?_
              intro z228_23 g228_22 H locs hp9 hP hD hS
              have q228 := hp9.2
              try rw [hr.2.1] at q228
              have hr := RDO_trans hr hp9.1
              clear hp9
              have q228 := wPos_v q228 ⟨by omega, by omega⟩
              obtain ⟨e1, e2, e3, e4, e5, e6⟩ := lg_k hokv (k := k_) (by omega) (by omega)
              refine lv_istore (lv' := [(5, .int (iI z228_23)), (4, .int (iI z221_21)), (3, .int (iI k_)), (2, .int (iI c_)), (1, .int (iI z1_1)), (0, .ref (ad 0))]) hx hb dL_legs_231 hl (by decide) rfl (fun ls hl => ?_)
              refine lv_iload hx hb dL_legs_233 (lv_at hl 1 rfl) ?_
              refine zz_if_lt (tgt := 257) hx hb dL_legs_235 (by decide) (by omega) (fun c_235 => ?_) (fun c_235 => ?_)
              · exfalso
                omega
              · refine lv_iload hx hb dL_legs_238 (lv_at hl 0 rfl) ?_
                refine lv_iload hx hb dL_legs_240 (lv_at hl 1 rfl) ?_
                refine zz_icmp_le (tgt := 257) hx hb dL_legs_242 (by decide) (by omega) (by omega) (fun c_242 => ?_) (fun c_242 => ?_)
                · exfalso
                  omega
                · refine lv_aload_n hx hb dL_legs_245 rfl (lv_at hl 5 rfl) ?_
                  refine lv_iload hx hb dL_legs_246 (lv_at hl 1 rfl) ?_
                  refine lv_iload hx hb dL_legs_248 (lv_at hl 0 rfl) ?_
                  refine zh_callSi_ch (As := [.ref (ad 0), .int (iI z221_21), .int (iI z228_23)]) (rest := []) (L := [zW tA K ad g228_22]) (Lc := [zW tA K ad g228_22]) (Lr := []) (Lc' := fun (u : GL) => [zW tA K ad u]) (Lf := fun (u : GL) => [zW tA K ad u]) (is := [0]) (isF := [0]) ⟨hx, hb, hml, hown, hts⟩ (q_L_hasLeg hst hB hr.1 z221_21 z228_23 (by omega) (by omega)) (vx_cwSW 3 hts (gx_ww gL_legs_L_hasLeg) rfl rfl rfl (by decide +kernel) ⟨Nat.le_of_ble_eq_true rfl, Nat.le_of_ble_eq_true rfl⟩) hK hP hD hS hA hZ (zCut_1 _) (zBack_1 _) rfl rfl hl.1 (Nat.le_of_ble_eq_true rfl) dL_legs_250 (by show _ + 1 ≤ 2700 ∧ _ + 6 ≤ 16200; omega) ?_
                  intro z250_25 g250_24 H locs hp9 hP hD hS
                  have q250 := hp9.2
                  try rw [hr.2.1] at q250
                  have hr := RDO_trans hr hp9.1
                  clear hp9
                  have q250 := wHas_v q250 ⟨by omega, by omega, by omega, by omega⟩
                  rw [q221, q228] at q250
                  refine zz_iconst hx hb dL_legs_253 ?_
                  refine zz_icmp_eq (tgt := 259) hx hb dL_legs_254 (by decide) (by omega) (by decide) (fun c_254 => ?_) (fun c_254 => ?_)
                  · refine lv_iload_n hx hb dL_legs_259 rfl (lv_at hl 2 rfl) ?_
                    refine zz_if_le (tgt := 362) hx hb dL_legs_260 (by decide) (by omega) (fun c_260 => ?_) (fun c_260 => ?_)
                    · refine zz_iinc (lv' := [(3, .int (iI (k_ + 1))), (5, .int (iI z228_23)), (4, .int (iI z221_21)), (2, .int (iI c_)), (1, .int (iI z1_1)), (0, .ref (ad 0))]) hx hb dL_legs_362 hl (k := 2) rfl (by decide) rfl (fun ls hl => ?_)
                      refine lv_goto (tgt := 211) hx hb dL_legs_365 (by decide) ?_
                      exact ih211 (k_ + 1) g250_24 _ _ _ _ _ (by exact hr) (by omega) (by omega) (by omega) hP hD hS (lv_sub hl [0, 3, 4, 5] rfl)
                    · refine lv_aload_n hx hb dL_legs_263 rfl (lv_at hl 5 rfl) ?_
                      refine lv_iload_n hx hb dL_legs_264 rfl (lv_at hl 2 rfl) ?_
                      refine zz_iconst hx hb dL_legs_265 ?_
                      refine zz_isub hx hb dL_legs_266 ?_
                      refine zh_callSi_ch (As := [.ref (ad 0), .int (iI (k_ - 1))]) (rest := []) (L := [zW tA K ad g250_24]) (Lc := [zW tA K ad g250_24]) (Lr := []) (Lc' := fun (u : GL) => [zW tA K ad u]) (Lf := fun (u : GL) => [zW tA K ad u]) (is := [0]) (isF := [0]) ⟨hx, hb, hml, hown, hts⟩ (q_L_lower hst hB hr.1 (k_ - 1) (by omega)) (vx_cwSW 2 hts (gx_ww gL_legs_L_lower) rfl rfl rfl (by decide +kernel) ⟨Nat.le_of_ble_eq_true rfl, Nat.le_of_ble_eq_true rfl⟩) hK hP hD hS hA hZ (zCut_1 _) (zBack_1 _) rfl rfl hl.1 (Nat.le_of_ble_eq_true rfl) dL_legs_267 (by show _ + 1 ≤ 2700 ∧ _ + 6 ≤ 16200; omega) ?_
                      intro z267_27 g267_26 H locs hp9 hP hD hS
                      have q267 := hp9.2
                      try rw [hr.2.1] at q267
                      have hr := RDO_trans hr hp9.1
                      clear hp9
                      have q267 := wPos_v q267 ⟨by omega, by omega⟩
                      refine lv_istore (lv' := [(6, .int (iI z267_27)), (5, .int (iI z228_23)), (4, .int (iI z221_21)), (3, .int (iI k_)), (2, .int (iI c_)), (1, .int (iI z1_1)), (0, .ref (ad 0))]) hx hb dL_legs_270 hl (by decide) rfl (fun ls hl => ?_)
                      refine lv_aload_n hx hb dL_legs_272 rfl (lv_at hl 6 rfl) ?_
                      refine lv_iload_n hx hb dL_legs_273 rfl (lv_at hl 3 rfl) ?_
                      refine zz_iconst hx hb dL_legs_274 ?_
                      refine zz_isub hx hb dL_legs_275 ?_
                      refine zh_callSi_ch (As := [.ref (ad 0), .int (iI (k_ - 1))]) (rest := []) (L := [zW tA K ad g267_26]) (Lc := [zW tA K ad g267_26]) (Lr := []) (Lc' := fun (u : GL) => [zW tA K ad u]) (Lf := fun (u : GL) => [zW tA K ad u]) (is := [0]) (isF := [0]) ⟨hx, hb, hml, hown, hts⟩ (q_L_upper hst hB hr.1 (k_ - 1) (by omega)) (vx_cwSW 2 hts (gx_ww gL_legs_L_upper) rfl rfl rfl (by decide +kernel) ⟨Nat.le_of_ble_eq_true rfl, Nat.le_of_ble_eq_true rfl⟩) hK hP hD hS hA hZ (zCut_1 _) (zBack_1 _) rfl rfl hl.1 (Nat.le_of_ble_eq_true rfl) dL_legs_276 (by show _ + 1 ≤ 2700 ∧ _ + 6 ≤ 16200; omega) ?_
                      intro z276_29 g276_28 H locs hp9 hP hD hS
                      have q276 := hp9.2
                      try rw [hr.2.1] at q276
                      have hr := RDO_trans hr hp9.1
                      clear hp9
                      have q276 := wPos_v q276 ⟨by omega, by omega⟩
                      obtain ⟨d1, d2, d3, d4, d5, d6⟩ := lg_k hokv (k := k_ - 1) (by omega) (by omega)
                      have hnx := leg_next hokv (k := k_) (by omega) (by omega)
                      refine lv_istore (lv' := [(7, .int (iI z276_29)), (6, .int (iI z267_27)), (5, .int (iI z228_23)), (4, .int (iI z221_21)), (3, .int (iI k_)), (2, .int (iI c_)), (1, .int (iI z1_1)), (0, .ref (ad 0))]) hx hb dL_legs_279 hl (by decide) rfl (fun ls hl => ?_)
                      refine lv_aload_n hx hb dL_legs_281 rfl (lv_at hl 7 rfl) ?_
                      refine lv_iload hx hb dL_legs_282 (lv_at hl 3 rfl) ?_
                      refine lv_iload hx hb dL_legs_284 (lv_at hl 2 rfl) ?_
                      refine zh_callSi_ch (As := [.ref (ad 0), .int (iI z221_21), .int (iI z228_23)]) (rest := []) (L := [zW tA K ad g276_28]) (Lc := [zW tA K ad g276_28]) (Lr := []) (Lc' := fun (u : GL) => [zW tA K ad u]) (Lf := fun (u : GL) => [zW tA K ad u]) (is := [0]) (isF := [0]) ⟨hx, hb, hml, hown, hts⟩ (q_L_reachOf hst hB hr.1 z221_21 z228_23 (by omega) (by omega)) (vx_cwSW 3 hts (gx_ww gL_legs_L_reachOf) rfl rfl rfl (by decide +kernel) ⟨Nat.le_of_ble_eq_true rfl, Nat.le_of_ble_eq_true rfl⟩) hK hP hD hS hA hZ (zCut_1 _) (zBack_1 _) rfl rfl hl.1 (Nat.le_of_ble_eq_true rfl) dL_legs_286 (by show _ + 2 ≤ 2700 ∧ _ + 12 ≤ 16200; omega) ?_
                      intro z286_31 g286_30 H locs hp9 hP hD hS
                      have q286 := hp9.2
                      try rw [hr.2.1] at q286
                      have hr := RDO_trans hr hp9.1
                      clear hp9
                      have q286 := wLeg_v hu q286 ⟨by omega, by omega, by omega, by omega⟩
                      rw [q221, q228] at q286
                      refine lv_aload_n hx hb dL_legs_289 rfl (lv_at hl 7 rfl) ?_
                      refine lv_iload hx hb dL_legs_290 (lv_at hl 1 rfl) ?_
                      refine lv_iload hx hb dL_legs_292 (lv_at hl 0 rfl) ?_
                      refine zh_callSi_ch (As := [.ref (ad 0), .int (iI z267_27), .int (iI z276_29)]) (rest := [.int (iI z286_31)]) (L := [zW tA K ad g286_30]) (Lc := [zW tA K ad g286_30]) (Lr := []) (Lc' := fun (u : GL) => [zW tA K ad u]) (Lf := fun (u : GL) => [zW tA K ad u]) (is := [0]) (isF := [0]) ⟨hx, hb, hml, hown, hts⟩ (q_L_reachOf hst hB hr.1 z267_27 z276_29 (by omega) (by omega)) (vx_cwSW 3 hts (gx_ww gL_legs_L_reachOf) rfl rfl rfl (by decide +kernel) ⟨Nat.le_of_ble_eq_true rfl, Nat.le_of_ble_eq_true rfl⟩) hK hP hD hS hA hZ (zCut_1 _) (zBack_1 _) rfl rfl hl.1 (Nat.le_of_ble_eq_true rfl) dL_legs_294 (by show _ + 2 ≤ 2700 ∧ _ + 12 ≤ 16200; omega) ?_
                      intro z294_33 g294_32 H locs hp9 hP hD hS
                      have q294 := hp9.2
                      try rw [hr.2.1] at q294
                      have hr := RDO_trans hr hp9.1
                      clear hp9
                      have q294 := wLeg_v hu q294 ⟨by omega, by omega, by omega, by omega⟩
                      rw [q267, q276] at q294
                      refine zz_isub hx hb dL_legs_297 ?_
                      refine lv_istore (lv' := [(8, .int (iI (z286_31 - z294_33))), (7, .int (iI z276_29)), (6, .int (iI z267_27)), (5, .int (iI z228_23)), (4, .int (iI z221_21)), (3, .int (iI k_)), (2, .int (iI c_)), (1, .int (iI z1_1)), (0, .ref (ad 0))]) hx hb dL_legs_298 hl (by decide) rfl (fun ls hl => ?_)
                      refine lv_iload hx hb dL_legs_300 (lv_at hl 0 rfl) ?_
                      refine zz_if_eq (tgt := 310) hx hb dL_legs_302 (by decide) (by omega) (fun c_302 => ?_) (fun c_302 => ?_)
                      · refine lv_aload_n hx hb dL_legs_310 rfl (lv_at hl 8 rfl) ?_
                        refine lv_iload hx hb dL_legs_311 (lv_at hl 4 rfl) ?_
                        refine lv_iload hx hb dL_legs_313 (lv_at hl 3 rfl) ?_
                        refine zh_callSi_ch (As := [.ref (ad 0), .int (iI z221_21), .int (iI z228_23)]) (rest := []) (L := [zW tA K ad g294_32]) (Lc := [zW tA K ad g294_32]) (Lr := []) (Lc' := fun (u : GL) => [zW tA K ad u]) (Lf := fun (u : GL) => [zW tA K ad u]) (is := [0]) (isF := [0]) ⟨hx, hb, hml, hown, hts⟩ (q_L_lengthOf hst hB hr.1 z221_21 z228_23 (by omega) (by omega)) (vx_cwSW 3 hts (gx_ww gL_legs_L_lengthOf) rfl rfl rfl (by decide +kernel) ⟨Nat.le_of_ble_eq_true rfl, Nat.le_of_ble_eq_true rfl⟩) hK hP hD hS hA hZ (zCut_1 _) (zBack_1 _) rfl rfl hl.1 (Nat.le_of_ble_eq_true rfl) dL_legs_315 (by show _ + 2 ≤ 2700 ∧ _ + 12 ≤ 16200; omega) ?_
                        intro z315_35 g315_34 H locs hp9 hP hD hS
                        have q315 := hp9.2
                        try rw [hr.2.1] at q315
                        have hr := RDO_trans hr hp9.1
                        clear hp9
                        have q315 := wLeg_v hu q315 ⟨by omega, by omega, by omega, by omega⟩
                        rw [q221, q228] at q315
                        refine lv_aload_n hx hb dL_legs_318 rfl (lv_at hl 8 rfl) ?_
                        refine lv_iload hx hb dL_legs_319 (lv_at hl 2 rfl) ?_
                        refine lv_iload hx hb dL_legs_321 (lv_at hl 1 rfl) ?_
                        refine zh_callSi_ch (As := [.ref (ad 0), .int (iI z267_27), .int (iI z276_29)]) (rest := [.int (iI z315_35)]) (L := [zW tA K ad g315_34]) (Lc := [zW tA K ad g315_34]) (Lr := []) (Lc' := fun (u : GL) => [zW tA K ad u]) (Lf := fun (u : GL) => [zW tA K ad u]) (is := [0]) (isF := [0]) ⟨hx, hb, hml, hown, hts⟩ (q_L_lengthOf hst hB hr.1 z267_27 z276_29 (by omega) (by omega)) (vx_cwSW 3 hts (gx_ww gL_legs_L_lengthOf) rfl rfl rfl (by decide +kernel) ⟨Nat.le_of_ble_eq_true rfl, Nat.le_of_ble_eq_true rfl⟩) hK hP hD hS hA hZ (zCut_1 _) (zBack_1 _) rfl rfl hl.1 (Nat.le_of_ble_eq_true rfl) dL_legs_323 (by show _ + 2 ≤ 2700 ∧ _ + 12 ≤ 16200; omega) ?_
                        intro z323_37 g323_36 H locs hp9 hP hD hS
                        have q323 := hp9.2
                        try rw [hr.2.1] at q323
                        have hr := RDO_trans hr hp9.1
                        clear hp9
                        have q323 := wLeg_v hu q323 ⟨by omega, by omega, by omega, by omega⟩
                        rw [q267, q276] at q323
                        refine zz_isub hx hb dL_legs_326 ?_
                        refine lv_istore (lv' := [(8, .int (iI (z315_35 - z323_37))), (7, .int (iI z276_29)), (6, .int (iI z267_27)), (5, .int (iI z228_23)), (4, .int (iI z221_21)), (3, .int (iI k_)), (2, .int (iI c_)), (1, .int (iI z1_1)), (0, .ref (ad 0))]) hx hb dL_legs_327 hl (by decide) rfl (fun ls hl => ?_)
                        refine lv_iload hx hb dL_legs_329 (lv_at hl 0 rfl) ?_
                        refine zz_if_eq (tgt := 339) hx hb dL_legs_331 (by decide) (by omega) (fun c_331 => ?_) (fun c_331 => ?_)
                        · refine zz_bipush hx hb dL_legs_339 (by decide) ?_
                          refine lv_iload hx hb dL_legs_341 (lv_at hl 4 rfl) ?_
                          refine lv_iload hx hb dL_legs_343 (lv_at hl 2 rfl) ?_
                          refine zz_isub hx hb dL_legs_345 ?_
                          refine zz_imul hx hb dL_legs_346 ?_
                          refine lv_iload hx hb dL_legs_347 (lv_at hl 3 rfl) ?_
                          refine zz_iadd hx hb dL_legs_349 ?_
                          refine lv_iload hx hb dL_legs_350 (lv_at hl 1 rfl) ?_
                          refine zz_isub hx hb dL_legs_352 ?_
                          refine lv_istore (lv' := [(8, .int (iI (((10 * (z221_21 - z267_27)) + z228_23) - z276_29))), (7, .int (iI z276_29)), (6, .int (iI z267_27)), (5, .int (iI z228_23)), (4, .int (iI z221_21)), (3, .int (iI k_)), (2, .int (iI c_)), (1, .int (iI z1_1)), (0, .ref (ad 0))]) hx hb dL_legs_353 hl (by decide) rfl (fun ls hl => ?_)
                          refine lv_iload hx hb dL_legs_355 (lv_at hl 0 rfl) ?_
                          refine zz_if_gt (tgt := 362) hx hb dL_legs_357 (by decide) (by omega) (fun c_357 => ?_) (fun c_357 => ?_)
                          · refine zz_iinc (lv' := [(3, .int (iI (k_ + 1))), (8, .int (iI (((10 * (z221_21 - z267_27)) + z228_23) - z276_29))), (7, .int (iI z276_29)), (6, .int (iI z267_27)), (5, .int (iI z228_23)), (4, .int (iI z221_21)), (2, .int (iI c_)), (1, .int (iI z1_1)), (0, .ref (ad 0))]) hx hb dL_legs_362 hl (k := 5) rfl (by decide) rfl (fun ls hl => ?_)
                            refine lv_goto (tgt := 211) hx hb dL_legs_365 (by decide) ?_
                            exact ih211 (k_ + 1) g323_36 _ _ _ _ _ (by exact hr) (by omega) (by omega) (by omega) hP hD hS (lv_sub hl [0, 6, 7, 8] rfl)
                          · exfalso
                            omega
                        · refine lv_iload hx hb dL_legs_334 (lv_at hl 0 rfl) ?_
                          refine lv_goto (tgt := 353) hx hb dL_legs_336 (by decide) ?_
                          refine lv_istore (lv' := [(8, .int (iI (z315_35 - z323_37))), (7, .int (iI z276_29)), (6, .int (iI z267_27)), (5, .int (iI z228_23)), (4, .int (iI z221_21)), (3, .int (iI k_)), (2, .int (iI c_)), (1, .int (iI z1_1)), (0, .ref (ad 0))]) hx hb dL_legs_353 hl (by decide) rfl (fun ls hl => ?_)
                          refine lv_iload hx hb dL_legs_355 (lv_at hl 0 rfl) ?_
                          refine zz_if_gt (tgt := 362) hx hb dL_legs_357 (by decide) (by omega) (fun c_357 => ?_) (fun c_357 => ?_)
                          · refine zz_iinc (lv' := [(3, .int (iI (k_ + 1))), (8, .int (iI (z315_35 - z323_37))), (7, .int (iI z276_29)), (6, .int (iI z267_27)), (5, .int (iI z228_23)), (4, .int (iI z221_21)), (2, .int (iI c_)), (1, .int (iI z1_1)), (0, .ref (ad 0))]) hx hb dL_legs_362 hl (k := 5) rfl (by decide) rfl (fun ls hl => ?_)
                            refine lv_goto (tgt := 211) hx hb dL_legs_365 (by decide) ?_
                            exact ih211 (k_ + 1) g323_36 _ _ _ _ _ (by exact hr) (by omega) (by omega) (by omega) hP hD hS (lv_sub hl [0, 6, 7, 8] rfl)
                          · exfalso
                            omega
                      · refine lv_iload hx hb dL_legs_305 (lv_at hl 0 rfl) ?_
                        refine lv_goto (tgt := 327) hx hb dL_legs_307 (by decide) ?_
                        refine lv_istore (lv' := [(8, .int (iI (z286_31 - z294_33))), (7, .int (iI z276_29)), (6, .int (iI z267_27)), (5, .int (iI z228_23)), (4, .int (iI z221_21)), (3, .int (iI k_)), (2, .int (iI c_)), (1, .int (iI z1_1)), (0, .ref (ad 0))]) hx hb dL_legs_327 hl (by decide) rfl (fun ls hl => ?_)
                        refine lv_iload hx hb dL_legs_329 (lv_at hl 0 rfl) ?_
                        refine zz_if_eq (tgt := 339) hx hb dL_legs_331 (by decide) (by omega) (fun c_331 => ?_) (fun c_331 => ?_)
                        · refine zz_bipush hx hb dL_legs_339 (by decide) ?_
                          refine lv_iload hx hb dL_legs_341 (lv_at hl 4 rfl) ?_
                          refine lv_iload hx hb dL_legs_343 (lv_at hl 2 rfl) ?_
                          refine zz_isub hx hb dL_legs_345 ?_
                          refine zz_imul hx hb dL_legs_346 ?_
                          refine lv_iload hx hb dL_legs_347 (lv_at hl 3 rfl) ?_
                          refine zz_iadd hx hb dL_legs_349 ?_
                          refine lv_iload hx hb dL_legs_350 (lv_at hl 1 rfl) ?_
                          refine zz_isub hx hb dL_legs_352 ?_
                          refine lv_istore (lv' := [(8, .int (iI (((10 * (z221_21 - z267_27)) + z228_23) - z276_29))), (7, .int (iI z276_29)), (6, .int (iI z267_27)), (5, .int (iI z228_23)), (4, .int (iI z221_21)), (3, .int (iI k_)), (2, .int (iI c_)), (1, .int (iI z1_1)), (0, .ref (ad 0))]) hx hb dL_legs_353 hl (by decide) rfl (fun ls hl => ?_)
                          refine lv_iload hx hb dL_legs_355 (lv_at hl 0 rfl) ?_
                          refine zz_if_gt (tgt := 362) hx hb dL_legs_357 (by decide) (by omega) (fun c_357 => ?_) (fun c_357 => ?_)
                          · refine zz_iinc (lv' := [(3, .int (iI (k_ + 1))), (8, .int (iI (((10 * (z221_21 - z267_27)) + z228_23) - z276_29))), (7, .int (iI z276_29)), (6, .int (iI z267_27)), (5, .int (iI z228_23)), (4, .int (iI z221_21)), (2, .int (iI c_)), (1, .int (iI z1_1)), (0, .ref (ad 0))]) hx hb dL_legs_362 hl (k := 5) rfl (by decide) rfl (fun ls hl => ?_)
                            refine lv_goto (tgt := 211) hx hb dL_legs_365 (by decide) ?_
                            exact ih211 (k_ + 1) g294_32 _ _ _ _ _ (by exact hr) (by omega) (by omega) (by omega) hP hD hS (lv_sub hl [0, 6, 7, 8] rfl)
                          · exfalso
                            omega
                        · refine lv_iload hx hb dL_legs_334 (lv_at hl 0 rfl) ?_
                          refine lv_goto (tgt := 353) hx hb dL_legs_336 (by decide) ?_
                          refine lv_istore (lv' := [(8, .int (iI (z286_31 - z294_33))), (7, .int (iI z276_29)), (6, .int (iI z267_27)), (5, .int (iI z228_23)), (4, .int (iI z221_21)), (3, .int (iI k_)), (2, .int (iI c_)), (1, .int (iI z1_1)), (0, .ref (ad 0))]) hx hb dL_legs_353 hl (by decide) rfl (fun ls hl => ?_)
                          refine lv_iload hx hb dL_legs_355 (lv_at hl 0 rfl) ?_
                          refine zz_if_gt (tgt := 362) hx hb dL_legs_357 (by decide) (by omega) (fun c_357 => ?_) (fun c_357 => ?_)
                          · refine zz_iinc (lv' := [(3, .int (iI (k_ + 1))), (8, .int (iI (z286_31 - z294_33))), (7, .int (iI z276_29)), (6, .int (iI z267_27)), (5, .int (iI z228_23)), (4, .int (iI z221_21)), (2, .int (iI c_)), (1, .int (iI z1_1)), (0, .ref (ad 0))]) hx hb dL_legs_362 hl (k := 5) rfl (by decide) rfl (fun ls hl => ?_)
                            refine lv_goto (tgt := 211) hx hb dL_legs_365 (by decide) ?_
                            exact ih211 (k_ + 1) g294_32 _ _ _ _ _ (by exact hr) (by omega) (by omega) (by omega) hP hD hS (lv_sub hl [0, 6, 7, 8] rfl)
                          · exfalso
                            omega
                  · exfalso
                    omega
        exact L211 _ 0 g9 _ _ _ _ _ (by exact hr) (by omega) (by omega) (Nat.lt_succ_self _) hP hD hS (lv_sub hl [0, 1, 2, 3] rfl)
      · refine zz_iconst hx hb dL_legs_14 ?_
        refine lv_istore (lv' := [(4, .int (iI 0)), (3, .int (iI i_)), (2, .int (iI c_)), (1, .int (iI z1_1)), (0, .ref (ad 0))]) hx hb dL_legs_15 hl (by decide) rfl (fun ls hl => ?_)
        have L17 : ∀ (f9 : Nat) (j_ : Int) (c2_ : Int) (g17 : GL) (k9 : Nat) (n9 : Nat) (H : Heap) (locs : List Loc) (ls : Array Slot), (RDO B N g g17) → (0 ≤ j_ ∧ j_ ≤ GL_v g 0 0) → (c2_ = legC (GL_v g) (GL_v g 0 0) i_ + legD (GL_v g) i_ j_) → (((k9 : Nat) : Int) ≤ 200 * i_ + 20 * j_ ∧ ((n9 : Nat) : Int) ≤ 6 * (200 * i_ + 20 * j_)) → (GL_v g 0 0 - j_).toNat < f9 → va_P D vwCl [zW tA K ad g17].flatten H → va_D A [zW tA K ad g17].flatten → va_S A s.heap H locs → lv_has ls 9 [(4, .int (iI j_)), (3, .int (iI i_)), (2, .int (iI c2_)), (1, .int (iI z1_1)), (0, .ref (ad 0))] → W p l e (headSpec (wsL_legs ++ xL) ({ frames := 10, cells := 2700, slots := 16200, locals := 179 })).room s m args below meth c H locs k9 n9 Q (F0 m 17 ls []) := by
          intro f9
          induction f9 with
          | zero => intro j_ c2_ g17 k9 n9 H locs ls hr hj hc2 hk9 hmz; exact absurd hmz (Nat.not_lt_zero _)
          | succ f9 ih17 =>
            intro j_ c2_ g17 k9 n9 H locs ls hr hj hc2 hk9 hmz hP hD hS hl
            refine lv_iload hx hb dL_legs_17 (lv_at hl 0 rfl) ?_
            refine lv_iload_n hx hb dL_legs_19 rfl (lv_at hl 3 rfl) ?_
            refine zz_icmp_ge (tgt := 203) hx hb dL_legs_20 (by decide) (by omega) (by omega) (fun c_20 => ?_) (fun c_20 => ?_)
            · refine zz_iinc (lv' := [(3, .int (iI (i_ + 1))), (4, .int (iI j_)), (2, .int (iI c2_)), (1, .int (iI z1_1)), (0, .ref (ad 0))]) hx hb dL_legs_203 hl (k := 1) rfl (by decide) rfl (fun ls hl => ?_)
              refine lv_goto (tgt := 9) hx hb dL_legs_206 (by decide) ?_
              exact ih9 (i_ + 1) c2_ g17 _ _ _ _ _ (by exact hr) (by omega) (by have hj9 : j_ = GL_v g 0 0 := (by omega); rw [legC_s (by omega), hc2, hj9]) (by omega) (by omega) hP hD hS (lv_sub hl [0, 2, 3, 4] rfl)
            · rcases lg_f hokv i_ j_ with ⟨f1, f2, f3, f4, f5⟩ | ⟨f1, f6, f2, f3, f4, f5⟩
              · refine lv_aload_n hx hb dL_legs_23 rfl (lv_at hl 4 rfl) ?_
                refine lv_iload_n hx hb dL_legs_24 rfl (lv_at hl 1 rfl) ?_
                refine lv_iload hx hb dL_legs_25 (lv_at hl 0 rfl) ?_
                refine zh_callSi_ch (As := [.ref (ad 0), .int (iI i_), .int (iI j_)]) (rest := []) (L := [zW tA K ad g17]) (Lc := [zW tA K ad g17]) (Lr := []) (Lc' := fun (u : GL) => [zW tA K ad u]) (Lf := fun (u : GL) => [zW tA K ad u]) (is := [0]) (isF := [0]) ⟨hx, hb, hml, hown, hts⟩ (q_L_hasLeg hst hB hr.1 i_ j_ (by omega) (by omega)) (vx_cwSW 3 hts (gx_ww gL_legs_L_hasLeg) rfl rfl rfl (by decide +kernel) ⟨Nat.le_of_ble_eq_true rfl, Nat.le_of_ble_eq_true rfl⟩) hK hP hD hS hA hZ (zCut_1 _) (zBack_1 _) rfl rfl hl.1 (Nat.le_of_ble_eq_true rfl) dL_legs_27 (by show _ + 1 ≤ 2700 ∧ _ + 6 ≤ 16200; omega) ?_
                intro z27_39 g27_38 H locs hp9 hP hD hS
                have q27 := hp9.2
                try rw [hr.2.1] at q27
                have hr := RDO_trans hr hp9.1
                clear hp9
                have q27 := wHas_v q27 ⟨by omega, by omega, by omega, by omega⟩
                refine zz_iconst hx hb dL_legs_30 ?_
                refine zz_icmp_ne (tgt := 38) hx hb dL_legs_31 (by decide) (by omega) (by decide) (fun c_31 => ?_) (fun c_31 => ?_)
                · refine zz_iconst hx hb dL_legs_38 ?_
                  refine lv_istore (lv' := [(5, .int (iI 0)), (4, .int (iI j_)), (3, .int (iI i_)), (2, .int (iI c2_)), (1, .int (iI z1_1)), (0, .ref (ad 0))]) hx hb dL_legs_39 hl (by decide) rfl (fun ls hl => ?_)
                  refine lv_iload_n hx hb dL_legs_41 rfl (lv_at hl 3 rfl) ?_
                  refine lv_iload hx hb dL_legs_42 (lv_at hl 0 rfl) ?_
                  refine zz_if_eq (tgt := 57) hx hb dL_legs_44 (by decide) (by decide) (fun c_44 => ?_) (fun c_44 => ?_)
                  · refine zz_iconst hx hb dL_legs_57 ?_
                    refine zz_iadd hx hb dL_legs_58 ?_
                    refine lv_istore_n (lv' := [(2, .int (iI (c2_ + 0))), (5, .int (iI 0)), (4, .int (iI j_)), (3, .int (iI i_)), (1, .int (iI z1_1)), (0, .ref (ad 0))]) hx hb dL_legs_59 rfl hl (by decide) rfl (fun ls hl => ?_)
                    refine lv_iload hx hb dL_legs_60 (lv_at hl 1 rfl) ?_
                    refine zz_if_eq (tgt := 83) hx hb dL_legs_62 (by decide) (by decide) (fun c_62 => ?_) (fun c_62 => ?_)
                    · refine zz_iconst hx hb dL_legs_83 ?_
                      refine lv_istore (lv' := [(6, .int (iI 0)), (2, .int (iI (c2_ + 0))), (5, .int (iI 0)), (4, .int (iI j_)), (3, .int (iI i_)), (1, .int (iI z1_1)), (0, .ref (ad 0))]) hx hb dL_legs_84 hl (by decide) rfl (fun ls hl => ?_)
                      refine lv_iload hx hb dL_legs_86 (lv_at hl 2 rfl) ?_
                      refine lv_aload_n hx hb dL_legs_88 rfl (lv_at hl 6 rfl) ?_
                      refine lv_iload_n hx hb dL_legs_89 rfl (lv_at hl 4 rfl) ?_
                      refine lv_iload hx hb dL_legs_90 (lv_at hl 3 rfl) ?_
                      refine zh_callSi_ch (As := [.ref (ad 0), .int (iI i_), .int (iI j_)]) (rest := [.int (iI 0)]) (L := [zW tA K ad g27_38]) (Lc := [zW tA K ad g27_38]) (Lr := []) (Lc' := fun (u : GL) => [zW tA K ad u]) (Lf := fun (u : GL) => [zW tA K ad u]) (is := [0]) (isF := [0]) ⟨hx, hb, hml, hown, hts⟩ (q_L_lengthOf hst hB hr.1 i_ j_ (by omega) (by omega)) (vx_cwSW 3 hts (gx_ww gL_legs_L_lengthOf) rfl rfl rfl (by decide +kernel) ⟨Nat.le_of_ble_eq_true rfl, Nat.le_of_ble_eq_true rfl⟩) hK hP hD hS hA hZ (zCut_1 _) (zBack_1 _) rfl rfl hl.1 (Nat.le_of_ble_eq_true rfl) dL_legs_92 (by show _ + 2 ≤ 2700 ∧ _ + 12 ≤ 16200; omega) ?_
                      intro z92_41 g92_40 H locs hp9 hP hD hS
                      have q92 := hp9.2
                      try rw [hr.2.1] at q92
                      have hr := RDO_trans hr hp9.1
                      clear hp9
                      have q92 := wLeg_v hu q92 ⟨by omega, by omega, by omega, by omega⟩
                      refine zz_if_le (tgt := 102) hx hb dL_legs_95 (by decide) (by omega) (fun c_95 => ?_) (fun c_95 => ?_)
                      · refine zz_iconst hx hb dL_legs_102 ?_
                        refine zz_icmp_ne (tgt := 195) hx hb dL_legs_103 (by decide) (by decide) (by decide) (fun c_103 => ?_) (fun c_103 => ?_)
                        · exact absurd c_103 (by decide)
                        · refine lv_aload_n hx hb dL_legs_106 rfl (lv_at hl 6 rfl) ?_
                          refine lv_iload_n hx hb dL_legs_107 rfl (lv_at hl 4 rfl) ?_
                          refine lv_iload hx hb dL_legs_108 (lv_at hl 3 rfl) ?_
                          refine zh_callSi_ch (As := [.ref (ad 0), .int (iI i_), .int (iI j_)]) (rest := []) (L := [zW tA K ad g92_40]) (Lc := [zW tA K ad g92_40]) (Lr := []) (Lc' := fun (u : GL) => [zW tA K ad u]) (Lf := fun (u : GL) => [zW tA K ad u]) (is := [0]) (isF := [0]) ⟨hx, hb, hml, hown, hts⟩ (q_L_lengthOf hst hB hr.1 i_ j_ (by omega) (by omega)) (vx_cwSW 3 hts (gx_ww gL_legs_L_lengthOf) rfl rfl rfl (by decide +kernel) ⟨Nat.le_of_ble_eq_true rfl, Nat.le_of_ble_eq_true rfl⟩) hK hP hD hS hA hZ (zCut_1 _) (zBack_1 _) rfl rfl hl.1 (Nat.le_of_ble_eq_true rfl) dL_legs_110 (by show _ + 2 ≤ 2700 ∧ _ + 12 ≤ 16200; omega) ?_
                          intro z110_43 g110_42 H locs hp9 hP hD hS
                          have q110 := hp9.2
                          try rw [hr.2.1] at q110
                          have hr := RDO_trans hr hp9.1
                          clear hp9
                          have q110 := wLeg_v hu q110 ⟨by omega, by omega, by omega, by omega⟩
                          refine lv_aload_n hx hb dL_legs_113 rfl (lv_at hl 6 rfl) ?_
                          refine lv_iload hx hb dL_legs_114 (lv_at hl 3 rfl) ?_
                          refine lv_iload_n hx hb dL_legs_116 rfl (lv_at hl 4 rfl) ?_
                          refine zh_callSi_ch (As := [.ref (ad 0), .int (iI j_), .int (iI i_)]) (rest := [.int (iI z110_43)]) (L := [zW tA K ad g110_42]) (Lc := [zW tA K ad g110_42]) (Lr := []) (Lc' := fun (u : GL) => [zW tA K ad u]) (Lf := fun (u : GL) => [zW tA K ad u]) (is := [0]) (isF := [0]) ⟨hx, hb, hml, hown, hts⟩ (q_L_lengthOf hst hB hr.1 j_ i_ (by omega) (by omega)) (vx_cwSW 3 hts (gx_ww gL_legs_L_lengthOf) rfl rfl rfl (by decide +kernel) ⟨Nat.le_of_ble_eq_true rfl, Nat.le_of_ble_eq_true rfl⟩) hK hP hD hS hA hZ (zCut_1 _) (zBack_1 _) rfl rfl hl.1 (Nat.le_of_ble_eq_true rfl) dL_legs_117 (by show _ + 2 ≤ 2700 ∧ _ + 12 ≤ 16200; omega) ?_
                          intro z117_45 g117_44 H locs hp9 hP hD hS
                          have q117 := hp9.2
                          try rw [hr.2.1] at q117
                          have hr := RDO_trans hr hp9.1
                          clear hp9
                          have q117 := wLeg_v hu q117 ⟨by omega, by omega, by omega, by omega⟩
                          rw [lgZ_sym] at q117
                          refine zz_icmp_ne (tgt := 195) hx hb dL_legs_120 (by decide) (by omega) (by omega) (fun c_120 => ?_) (fun c_120 => ?_)
                          · exfalso
                            omega
                          · refine lv_aload_n hx hb dL_legs_123 rfl (lv_at hl 6 rfl) ?_
                            refine lv_iload_n hx hb dL_legs_124 rfl (lv_at hl 4 rfl) ?_
                            refine lv_iload hx hb dL_legs_125 (lv_at hl 3 rfl) ?_
                            refine zh_callSi_ch (As := [.ref (ad 0), .int (iI i_), .int (iI j_)]) (rest := []) (L := [zW tA K ad g117_44]) (Lc := [zW tA K ad g117_44]) (Lr := []) (Lc' := fun (u : GL) => [zW tA K ad u]) (Lf := fun (u : GL) => [zW tA K ad u]) (is := [0]) (isF := [0]) ⟨hx, hb, hml, hown, hts⟩ (q_L_isLit hst hB hr.1 i_ j_ (by omega) (by omega)) (vx_cwSW 3 hts (gx_ww gL_legs_L_isLit) rfl rfl rfl (by decide +kernel) ⟨Nat.le_of_ble_eq_true rfl, Nat.le_of_ble_eq_true rfl⟩) hK hP hD hS hA hZ (zCut_1 _) (zBack_1 _) rfl rfl hl.1 (Nat.le_of_ble_eq_true rfl) dL_legs_127 (by show _ + 2 ≤ 2700 ∧ _ + 12 ≤ 16200; omega) ?_
                            intro z127_47 g127_46 H locs hp9 hP hD hS
                            have q127 := hp9.2
                            try rw [hr.2.1] at q127
                            have hr := RDO_trans hr hp9.1
                            clear hp9
                            have q127 := wLit_v hu q127 ⟨by omega, by omega, by omega, by omega⟩
                            refine lv_iload hx hb dL_legs_130 (lv_at hl 2 rfl) ?_
                            refine zz_if_ne (tgt := 140) hx hb dL_legs_132 (by decide) (by decide) (fun c_132 => ?_) (fun c_132 => ?_)
                            · exact absurd c_132 (by decide)
                            · refine zz_bipush hx hb dL_legs_135 (by decide) ?_
                              refine lv_goto (tgt := 150) hx hb dL_legs_137 (by decide) ?_
                              refine zz_icmp_ne (tgt := 195) hx hb dL_legs_150 (by decide) (by omega) (by decide) (fun c_150 => ?_) (fun c_150 => ?_)
                              · exfalso
                                omega
                              · refine lv_iload_n hx hb dL_legs_153 rfl (lv_at hl 4 rfl) ?_
                                refine lv_iload hx hb dL_legs_154 (lv_at hl 3 rfl) ?_
                                refine zz_icmp_ne (tgt := 164) hx hb dL_legs_156 (by decide) (by omega) (by omega) (fun c_156 => ?_) (fun c_156 => ?_)
                                · refine lv_aload_n hx hb dL_legs_164 rfl (lv_at hl 6 rfl) ?_
                                  refine lv_iload_n hx hb dL_legs_165 rfl (lv_at hl 4 rfl) ?_
                                  refine lv_iload hx hb dL_legs_166 (lv_at hl 3 rfl) ?_
                                  refine zh_callSi_ch (As := [.ref (ad 0), .int (iI i_), .int (iI j_)]) (rest := []) (L := [zW tA K ad g127_46]) (Lc := [zW tA K ad g127_46]) (Lr := []) (Lc' := fun (u : GL) => [zW tA K ad u]) (Lf := fun (u : GL) => [zW tA K ad u]) (is := [0]) (isF := [0]) ⟨hx, hb, hml, hown, hts⟩ (q_L_meterOf hst hB hr.1 i_ j_ (by omega) (by omega)) (vx_cwSW 3 hts (gx_ww gL_legs_L_meterOf) rfl rfl rfl (by decide +kernel) ⟨Nat.le_of_ble_eq_true rfl, Nat.le_of_ble_eq_true rfl⟩) hK hP hD hS hA hZ (zCut_1 _) (zBack_1 _) rfl rfl hl.1 (Nat.le_of_ble_eq_true rfl) dL_legs_168 (by show _ + 2 ≤ 2700 ∧ _ + 12 ≤ 16200; omega) ?_
                                  intro z168_49 g168_48 H locs hp9 hP hD hS
                                  have q168 := hp9.2
                                  try rw [hr.2.1] at q168
                                  have hr := RDO_trans hr hp9.1
                                  clear hp9
                                  have q168 := wLeg_v hu q168 ⟨by omega, by omega, by omega, by omega⟩
                                  refine lv_aload_n hx hb dL_legs_171 rfl (lv_at hl 6 rfl) ?_
                                  refine zt_callVi (As := []) (rest := [.int (iI z168_49)]) (L := [zW tA K ad g168_48]) (Lc := [zW tA K ad g168_48]) (Lr := []) (Lc' := fun (u : GL) => [zW tA K ad u]) (Lf := fun (u : GL) => [zW tA K ad u]) (is := [0]) (isF := [0]) ⟨hx, hb, hml, hown, hts⟩ (q_X10_nightCount hst hB hr.1  ) (cwV 0 hts (goodIn_wid gL_legs_X10_nightCount) rfl rfl rfl (by decide +kernel) ⟨Nat.le_of_ble_eq_true rfl, Nat.le_of_ble_eq_true rfl⟩) hK hP hD hS hA hZ (zCut_1 _) (zBack_1 _) (ci := 12) (q0 := 0) rfl rfl (zW_0 tA K ad g168_48) rfl rfl hl.1 (Nat.le_of_ble_eq_true rfl) dL_legs_172 (by show _ + 0 ≤ 2700 ∧ _ + 0 ≤ 16200; omega) ?_
                                  intro z172_51 g172_50 H locs hp9 hP hD hS
                                  have q172 := hp9.2
                                  try rw [hr.2.1] at q172
                                  have hr := RDO_trans hr hp9.1
                                  clear hp9
                                  refine zz_icmp_gt (tgt := 195) hx hb dL_legs_175 (by decide) (by omega) (by omega) (fun c_175 => ?_) (fun c_175 => ?_)
                                  · exfalso
                                    omega
                                  · refine lv_aload_n hx hb dL_legs_178 rfl (lv_at hl 6 rfl) ?_
                                    refine lv_iload_n hx hb dL_legs_179 rfl (lv_at hl 4 rfl) ?_
                                    refine lv_iload hx hb dL_legs_180 (lv_at hl 3 rfl) ?_
                                    refine zh_callSi_ch (As := [.ref (ad 0), .int (iI i_), .int (iI j_)]) (rest := []) (L := [zW tA K ad g172_50]) (Lc := [zW tA K ad g172_50]) (Lr := []) (Lc' := fun (u : GL) => [zW tA K ad u]) (Lf := fun (u : GL) => [zW tA K ad u]) (is := [0]) (isF := [0]) ⟨hx, hb, hml, hown, hts⟩ (q_L_reachOf hst hB hr.1 i_ j_ (by omega) (by omega)) (vx_cwSW 3 hts (gx_ww gL_legs_L_reachOf) rfl rfl rfl (by decide +kernel) ⟨Nat.le_of_ble_eq_true rfl, Nat.le_of_ble_eq_true rfl⟩) hK hP hD hS hA hZ (zCut_1 _) (zBack_1 _) rfl rfl hl.1 (Nat.le_of_ble_eq_true rfl) dL_legs_182 (by show _ + 2 ≤ 2700 ∧ _ + 12 ≤ 16200; omega) ?_
                                    intro z182_53 g182_52 H locs hp9 hP hD hS
                                    have q182 := hp9.2
                                    try rw [hr.2.1] at q182
                                    have hr := RDO_trans hr hp9.1
                                    clear hp9
                                    have q182 := wLeg_v hu q182 ⟨by omega, by omega, by omega, by omega⟩
                                    refine lv_aload_n hx hb dL_legs_185 rfl (lv_at hl 6 rfl) ?_
                                    refine lv_iload hx hb dL_legs_186 (lv_at hl 3 rfl) ?_
                                    refine lv_iload_n hx hb dL_legs_188 rfl (lv_at hl 4 rfl) ?_
                                    refine zh_callSi_ch (As := [.ref (ad 0), .int (iI j_), .int (iI i_)]) (rest := [.int (iI z182_53)]) (L := [zW tA K ad g182_52]) (Lc := [zW tA K ad g182_52]) (Lr := []) (Lc' := fun (u : GL) => [zW tA K ad u]) (Lf := fun (u : GL) => [zW tA K ad u]) (is := [0]) (isF := [0]) ⟨hx, hb, hml, hown, hts⟩ (q_L_reachOf hst hB hr.1 j_ i_ (by omega) (by omega)) (vx_cwSW 3 hts (gx_ww gL_legs_L_reachOf) rfl rfl rfl (by decide +kernel) ⟨Nat.le_of_ble_eq_true rfl, Nat.le_of_ble_eq_true rfl⟩) hK hP hD hS hA hZ (zCut_1 _) (zBack_1 _) rfl rfl hl.1 (Nat.le_of_ble_eq_true rfl) dL_legs_189 (by show _ + 2 ≤ 2700 ∧ _ + 12 ≤ 16200; omega) ?_
                                    intro z189_55 g189_54 H locs hp9 hP hD hS
                                    have q189 := hp9.2
                                    try rw [hr.2.1] at q189
                                    have hr := RDO_trans hr hp9.1
                                    clear hp9
                                    have q189 := wLeg_v hu q189 ⟨by omega, by omega, by omega, by omega⟩
                                    rw [lgZ_sym] at q189
                                    refine zz_icmp_eq (tgt := 197) hx hb dL_legs_192 (by decide) (by omega) (by omega) (fun c_192 => ?_) (fun c_192 => ?_)
                                    · refine zz_iinc (lv' := [(4, .int (iI (j_ + 1))), (6, .int (iI 0)), (2, .int (iI (c2_ + 0))), (5, .int (iI 0)), (3, .int (iI i_)), (1, .int (iI z1_1)), (0, .ref (ad 0))]) hx hb dL_legs_197 hl (k := 3) rfl (by decide) rfl (fun ls hl => ?_)
                                      refine lv_goto (tgt := 17) hx hb dL_legs_200 (by decide) ?_
                                      exact ih17 (j_ + 1) (c2_ + 0) g189_54 _ _ _ _ _ (by exact hr) (by omega) (by have h9 := legD_s hokv (i := i_) (j := j_) (by omega); rw [h9, hc2]; split <;> omega) (by omega) (by omega) hP hD hS (lv_sub hl [0, 4, 2, 5, 6] rfl)
                                    · exfalso
                                      omega
                                · refine lv_iload hx hb dL_legs_159 (lv_at hl 2 rfl) ?_
                                  refine zz_if_ne (tgt := 195) hx hb dL_legs_161 (by decide) (by decide) (fun c_161 => ?_) (fun c_161 => ?_)
                                  · exact absurd c_161 (by decide)
                                  · refine lv_aload_n hx hb dL_legs_164 rfl (lv_at hl 6 rfl) ?_
                                    refine lv_iload_n hx hb dL_legs_165 rfl (lv_at hl 4 rfl) ?_
                                    refine lv_iload hx hb dL_legs_166 (lv_at hl 3 rfl) ?_
                                    refine zh_callSi_ch (As := [.ref (ad 0), .int (iI i_), .int (iI j_)]) (rest := []) (L := [zW tA K ad g127_46]) (Lc := [zW tA K ad g127_46]) (Lr := []) (Lc' := fun (u : GL) => [zW tA K ad u]) (Lf := fun (u : GL) => [zW tA K ad u]) (is := [0]) (isF := [0]) ⟨hx, hb, hml, hown, hts⟩ (q_L_meterOf hst hB hr.1 i_ j_ (by omega) (by omega)) (vx_cwSW 3 hts (gx_ww gL_legs_L_meterOf) rfl rfl rfl (by decide +kernel) ⟨Nat.le_of_ble_eq_true rfl, Nat.le_of_ble_eq_true rfl⟩) hK hP hD hS hA hZ (zCut_1 _) (zBack_1 _) rfl rfl hl.1 (Nat.le_of_ble_eq_true rfl) dL_legs_168 (by show _ + 2 ≤ 2700 ∧ _ + 12 ≤ 16200; omega) ?_
                                    intro z168_57 g168_56 H locs hp9 hP hD hS
                                    have q168 := hp9.2
                                    try rw [hr.2.1] at q168
                                    have hr := RDO_trans hr hp9.1
                                    clear hp9
                                    have q168 := wLeg_v hu q168 ⟨by omega, by omega, by omega, by omega⟩
                                    refine lv_aload_n hx hb dL_legs_171 rfl (lv_at hl 6 rfl) ?_
                                    refine zt_callVi (As := []) (rest := [.int (iI z168_57)]) (L := [zW tA K ad g168_56]) (Lc := [zW tA K ad g168_56]) (Lr := []) (Lc' := fun (u : GL) => [zW tA K ad u]) (Lf := fun (u : GL) => [zW tA K ad u]) (is := [0]) (isF := [0]) ⟨hx, hb, hml, hown, hts⟩ (q_X10_nightCount hst hB hr.1  ) (cwV 0 hts (goodIn_wid gL_legs_X10_nightCount) rfl rfl rfl (by decide +kernel) ⟨Nat.le_of_ble_eq_true rfl, Nat.le_of_ble_eq_true rfl⟩) hK hP hD hS hA hZ (zCut_1 _) (zBack_1 _) (ci := 12) (q0 := 0) rfl rfl (zW_0 tA K ad g168_56) rfl rfl hl.1 (Nat.le_of_ble_eq_true rfl) dL_legs_172 (by show _ + 0 ≤ 2700 ∧ _ + 0 ≤ 16200; omega) ?_
                                    intro z172_59 g172_58 H locs hp9 hP hD hS
                                    have q172 := hp9.2
                                    try rw [hr.2.1] at q172
                                    have hr := RDO_trans hr hp9.1
                                    clear hp9
                                    refine zz_icmp_gt (tgt := 195) hx hb dL_legs_175 (by decide) (by omega) (by omega) (fun c_175 => ?_) (fun c_175 => ?_)
                                    · exfalso
                                      omega
                                    · refine lv_aload_n hx hb dL_legs_178 rfl (lv_at hl 6 rfl) ?_
                                      refine lv_iload_n hx hb dL_legs_179 rfl (lv_at hl 4 rfl) ?_
                                      refine lv_iload hx hb dL_legs_180 (lv_at hl 3 rfl) ?_
                                      refine zh_callSi_ch (As := [.ref (ad 0), .int (iI i_), .int (iI j_)]) (rest := []) (L := [zW tA K ad g172_58]) (Lc := [zW tA K ad g172_58]) (Lr := []) (Lc' := fun (u : GL) => [zW tA K ad u]) (Lf := fun (u : GL) => [zW tA K ad u]) (is := [0]) (isF := [0]) ⟨hx, hb, hml, hown, hts⟩ (q_L_reachOf hst hB hr.1 i_ j_ (by omega) (by omega)) (vx_cwSW 3 hts (gx_ww gL_legs_L_reachOf) rfl rfl rfl (by decide +kernel) ⟨Nat.le_of_ble_eq_true rfl, Nat.le_of_ble_eq_true rfl⟩) hK hP hD hS hA hZ (zCut_1 _) (zBack_1 _) rfl rfl hl.1 (Nat.le_of_ble_eq_true rfl) dL_legs_182 (by show _ + 2 ≤ 2700 ∧ _ + 12 ≤ 16200; omega) ?_
                                      intro z182_61 g182_60 H locs hp9 hP hD hS
                                      have q182 := hp9.2
                                      try rw [hr.2.1] at q182
                                      have hr := RDO_trans hr hp9.1
                                      clear hp9
                                      have q182 := wLeg_v hu q182 ⟨by omega, by omega, by omega, by omega⟩
                                      refine lv_aload_n hx hb dL_legs_185 rfl (lv_at hl 6 rfl) ?_
                                      refine lv_iload hx hb dL_legs_186 (lv_at hl 3 rfl) ?_
                                      refine lv_iload_n hx hb dL_legs_188 rfl (lv_at hl 4 rfl) ?_
                                      refine zh_callSi_ch (As := [.ref (ad 0), .int (iI j_), .int (iI i_)]) (rest := [.int (iI z182_61)]) (L := [zW tA K ad g182_60]) (Lc := [zW tA K ad g182_60]) (Lr := []) (Lc' := fun (u : GL) => [zW tA K ad u]) (Lf := fun (u : GL) => [zW tA K ad u]) (is := [0]) (isF := [0]) ⟨hx, hb, hml, hown, hts⟩ (q_L_reachOf hst hB hr.1 j_ i_ (by omega) (by omega)) (vx_cwSW 3 hts (gx_ww gL_legs_L_reachOf) rfl rfl rfl (by decide +kernel) ⟨Nat.le_of_ble_eq_true rfl, Nat.le_of_ble_eq_true rfl⟩) hK hP hD hS hA hZ (zCut_1 _) (zBack_1 _) rfl rfl hl.1 (Nat.le_of_ble_eq_true rfl) dL_legs_189 (by show _ + 2 ≤ 2700 ∧ _ + 12 ≤ 16200; omega) ?_
                                      intro z189_63 g189_62 H locs hp9 hP hD hS
                                      have q189 := hp9.2
                                      try rw [hr.2.1] at q189
                                      have hr := RDO_trans hr hp9.1
                                      clear hp9
                                      have q189 := wLeg_v hu q189 ⟨by omega, by omega, by omega, by omega⟩
                                      rw [lgZ_sym] at q189
                                      refine zz_icmp_eq (tgt := 197) hx hb dL_legs_192 (by decide) (by omega) (by omega) (fun c_192 => ?_) (fun c_192 => ?_)
                                      · refine zz_iinc (lv' := [(4, .int (iI (j_ + 1))), (6, .int (iI 0)), (2, .int (iI (c2_ + 0))), (5, .int (iI 0)), (3, .int (iI i_)), (1, .int (iI z1_1)), (0, .ref (ad 0))]) hx hb dL_legs_197 hl (k := 3) rfl (by decide) rfl (fun ls hl => ?_)
                                        refine lv_goto (tgt := 17) hx hb dL_legs_200 (by decide) ?_
                                        exact ih17 (j_ + 1) (c2_ + 0) g189_62 _ _ _ _ _ (by exact hr) (by omega) (by have h9 := legD_s hokv (i := i_) (j := j_) (by omega); rw [h9, hc2]; split <;> omega) (by omega) (by omega) hP hD hS (lv_sub hl [0, 4, 2, 5, 6] rfl)
                                      · exfalso
                                        omega
                      · exfalso
                        omega
                    · exact absurd c_62 (by decide)
                  · exact absurd c_44 (by decide)
                · exfalso
                  omega
              · refine lv_aload_n hx hb dL_legs_23 rfl (lv_at hl 4 rfl) ?_
                refine lv_iload_n hx hb dL_legs_24 rfl (lv_at hl 1 rfl) ?_
                refine lv_iload hx hb dL_legs_25 (lv_at hl 0 rfl) ?_
                refine zh_callSi_ch (As := [.ref (ad 0), .int (iI i_), .int (iI j_)]) (rest := []) (L := [zW tA K ad g17]) (Lc := [zW tA K ad g17]) (Lr := []) (Lc' := fun (u : GL) => [zW tA K ad u]) (Lf := fun (u : GL) => [zW tA K ad u]) (is := [0]) (isF := [0]) ⟨hx, hb, hml, hown, hts⟩ (q_L_hasLeg hst hB hr.1 i_ j_ (by omega) (by omega)) (vx_cwSW 3 hts (gx_ww gL_legs_L_hasLeg) rfl rfl rfl (by decide +kernel) ⟨Nat.le_of_ble_eq_true rfl, Nat.le_of_ble_eq_true rfl⟩) hK hP hD hS hA hZ (zCut_1 _) (zBack_1 _) rfl rfl hl.1 (Nat.le_of_ble_eq_true rfl) dL_legs_27 (by show _ + 1 ≤ 2700 ∧ _ + 6 ≤ 16200; omega) ?_
                intro z27_65 g27_64 H locs hp9 hP hD hS
                have q27 := hp9.2
                try rw [hr.2.1] at q27
                have hr := RDO_trans hr hp9.1
                clear hp9
                have q27 := wHas_v q27 ⟨by omega, by omega, by omega, by omega⟩
                refine zz_iconst hx hb dL_legs_30 ?_
                refine zz_icmp_ne (tgt := 38) hx hb dL_legs_31 (by decide) (by omega) (by decide) (fun c_31 => ?_) (fun c_31 => ?_)
                · exfalso
                  omega
                · refine zz_iconst hx hb dL_legs_34 ?_
                  refine lv_goto (tgt := 39) hx hb dL_legs_35 (by decide) ?_
                  refine lv_istore (lv' := [(5, .int (iI 1)), (4, .int (iI j_)), (3, .int (iI i_)), (2, .int (iI c2_)), (1, .int (iI z1_1)), (0, .ref (ad 0))]) hx hb dL_legs_39 hl (by decide) rfl (fun ls hl => ?_)
                  refine lv_iload_n hx hb dL_legs_41 rfl (lv_at hl 3 rfl) ?_
                  refine lv_iload hx hb dL_legs_42 (lv_at hl 0 rfl) ?_
                  refine zz_if_eq (tgt := 57) hx hb dL_legs_44 (by decide) (by decide) (fun c_44 => ?_) (fun c_44 => ?_)
                  · exact absurd c_44 (by decide)
                  · refine lv_iload_n hx hb dL_legs_47 rfl (lv_at hl 2 rfl) ?_
                    refine lv_iload hx hb dL_legs_48 (lv_at hl 1 rfl) ?_
                    refine zz_icmp_ge (tgt := 57) hx hb dL_legs_50 (by decide) (by omega) (by omega) (fun c_50 => ?_) (fun c_50 => ?_)
                    · refine zz_iconst hx hb dL_legs_57 ?_
                      refine zz_iadd hx hb dL_legs_58 ?_
                      refine lv_istore_n (lv' := [(2, .int (iI (c2_ + 0))), (5, .int (iI 1)), (4, .int (iI j_)), (3, .int (iI i_)), (1, .int (iI z1_1)), (0, .ref (ad 0))]) hx hb dL_legs_59 rfl hl (by decide) rfl (fun ls hl => ?_)
                      refine lv_iload hx hb dL_legs_60 (lv_at hl 1 rfl) ?_
                      refine zz_if_eq (tgt := 83) hx hb dL_legs_62 (by decide) (by decide) (fun c_62 => ?_) (fun c_62 => ?_)
                      · exact absurd c_62 (by decide)
                      · refine lv_aload_n hx hb dL_legs_65 rfl (lv_at hl 5 rfl) ?_
                        refine lv_iload_n hx hb dL_legs_66 rfl (lv_at hl 3 rfl) ?_
                        refine lv_iload hx hb dL_legs_67 (lv_at hl 2 rfl) ?_
                        refine zh_callSi_ch (As := [.ref (ad 0), .int (iI i_), .int (iI j_)]) (rest := []) (L := [zW tA K ad g27_64]) (Lc := [zW tA K ad g27_64]) (Lr := []) (Lc' := fun (u : GL) => [zW tA K ad u]) (Lf := fun (u : GL) => [zW tA K ad u]) (is := [0]) (isF := [0]) ⟨hx, hb, hml, hown, hts⟩ (q_L_reachOf hst hB hr.1 i_ j_ (by omega) (by omega)) (vx_cwSW 3 hts (gx_ww gL_legs_L_reachOf) rfl rfl rfl (by decide +kernel) ⟨Nat.le_of_ble_eq_true rfl, Nat.le_of_ble_eq_true rfl⟩) hK hP hD hS hA hZ (zCut_1 _) (zBack_1 _) rfl rfl hl.1 (Nat.le_of_ble_eq_true rfl) dL_legs_69 (by show _ + 2 ≤ 2700 ∧ _ + 12 ≤ 16200; omega) ?_
                        intro z69_67 g69_66 H locs hp9 hP hD hS
                        have q69 := hp9.2
                        try rw [hr.2.1] at q69
                        have hr := RDO_trans hr hp9.1
                        clear hp9
                        have q69 := wLeg_v hu q69 ⟨by omega, by omega, by omega, by omega⟩
                        refine lv_aload_n hx hb dL_legs_72 rfl (lv_at hl 5 rfl) ?_
                        refine zt_callVi (As := []) (rest := [.int (iI z69_67)]) (L := [zW tA K ad g69_66]) (Lc := [zW tA K ad g69_66]) (Lr := []) (Lc' := fun (u : GL) => [zW tA K ad u]) (Lf := fun (u : GL) => [zW tA K ad u]) (is := [0]) (isF := [0]) ⟨hx, hb, hml, hown, hts⟩ (q_X10_range hst hB hr.1  ) (cwV 0 hts (goodIn_wid gL_legs_X10_range) rfl rfl rfl (by decide +kernel) ⟨Nat.le_of_ble_eq_true rfl, Nat.le_of_ble_eq_true rfl⟩) hK hP hD hS hA hZ (zCut_1 _) (zBack_1 _) (ci := 12) (q0 := 0) rfl rfl (zW_0 tA K ad g69_66) rfl rfl hl.1 (Nat.le_of_ble_eq_true rfl) dL_legs_73 (by show _ + 0 ≤ 2700 ∧ _ + 0 ≤ 16200; omega) ?_
                        intro z73_69 g73_68 H locs hp9 hP hD hS
                        have q73 := hp9.2
                        try rw [hr.2.1] at q73
                        have hr := RDO_trans hr hp9.1
                        clear hp9
                        refine zz_icmp_gt (tgt := 83) hx hb dL_legs_76 (by decide) (by omega) (by omega) (fun c_76 => ?_) (fun c_76 => ?_)
                        · refine zz_iconst hx hb dL_legs_83 ?_
                          refine lv_istore (lv' := [(6, .int (iI 0)), (2, .int (iI (c2_ + 0))), (5, .int (iI 1)), (4, .int (iI j_)), (3, .int (iI i_)), (1, .int (iI z1_1)), (0, .ref (ad 0))]) hx hb dL_legs_84 hl (by decide) rfl (fun ls hl => ?_)
                          refine lv_iload hx hb dL_legs_86 (lv_at hl 2 rfl) ?_
                          refine lv_aload_n hx hb dL_legs_88 rfl (lv_at hl 6 rfl) ?_
                          refine lv_iload_n hx hb dL_legs_89 rfl (lv_at hl 4 rfl) ?_
                          refine lv_iload hx hb dL_legs_90 (lv_at hl 3 rfl) ?_
                          refine zh_callSi_ch (As := [.ref (ad 0), .int (iI i_), .int (iI j_)]) (rest := [.int (iI 1)]) (L := [zW tA K ad g73_68]) (Lc := [zW tA K ad g73_68]) (Lr := []) (Lc' := fun (u : GL) => [zW tA K ad u]) (Lf := fun (u : GL) => [zW tA K ad u]) (is := [0]) (isF := [0]) ⟨hx, hb, hml, hown, hts⟩ (q_L_lengthOf hst hB hr.1 i_ j_ (by omega) (by omega)) (vx_cwSW 3 hts (gx_ww gL_legs_L_lengthOf) rfl rfl rfl (by decide +kernel) ⟨Nat.le_of_ble_eq_true rfl, Nat.le_of_ble_eq_true rfl⟩) hK hP hD hS hA hZ (zCut_1 _) (zBack_1 _) rfl rfl hl.1 (Nat.le_of_ble_eq_true rfl) dL_legs_92 (by show _ + 2 ≤ 2700 ∧ _ + 12 ≤ 16200; omega) ?_
                          intro z92_71 g92_70 H locs hp9 hP hD hS
                          have q92 := hp9.2
                          try rw [hr.2.1] at q92
                          have hr := RDO_trans hr hp9.1
                          clear hp9
                          have q92 := wLeg_v hu q92 ⟨by omega, by omega, by omega, by omega⟩
                          refine zz_if_le (tgt := 102) hx hb dL_legs_95 (by decide) (by omega) (fun c_95 => ?_) (fun c_95 => ?_)
                          · exfalso
                            omega
                          · refine zz_iconst hx hb dL_legs_98 ?_
                            refine lv_goto (tgt := 103) hx hb dL_legs_99 (by decide) ?_
                            refine zz_icmp_ne (tgt := 195) hx hb dL_legs_103 (by decide) (by decide) (by decide) (fun c_103 => ?_) (fun c_103 => ?_)
                            · exact absurd c_103 (by decide)
                            · refine lv_aload_n hx hb dL_legs_106 rfl (lv_at hl 6 rfl) ?_
                              refine lv_iload_n hx hb dL_legs_107 rfl (lv_at hl 4 rfl) ?_
                              refine lv_iload hx hb dL_legs_108 (lv_at hl 3 rfl) ?_
                              refine zh_callSi_ch (As := [.ref (ad 0), .int (iI i_), .int (iI j_)]) (rest := []) (L := [zW tA K ad g92_70]) (Lc := [zW tA K ad g92_70]) (Lr := []) (Lc' := fun (u : GL) => [zW tA K ad u]) (Lf := fun (u : GL) => [zW tA K ad u]) (is := [0]) (isF := [0]) ⟨hx, hb, hml, hown, hts⟩ (q_L_lengthOf hst hB hr.1 i_ j_ (by omega) (by omega)) (vx_cwSW 3 hts (gx_ww gL_legs_L_lengthOf) rfl rfl rfl (by decide +kernel) ⟨Nat.le_of_ble_eq_true rfl, Nat.le_of_ble_eq_true rfl⟩) hK hP hD hS hA hZ (zCut_1 _) (zBack_1 _) rfl rfl hl.1 (Nat.le_of_ble_eq_true rfl) dL_legs_110 (by show _ + 2 ≤ 2700 ∧ _ + 12 ≤ 16200; omega) ?_
                              intro z110_73 g110_72 H locs hp9 hP hD hS
                              have q110 := hp9.2
                              try rw [hr.2.1] at q110
                              have hr := RDO_trans hr hp9.1
                              clear hp9
                              have q110 := wLeg_v hu q110 ⟨by omega, by omega, by omega, by omega⟩
                              refine lv_aload_n hx hb dL_legs_113 rfl (lv_at hl 6 rfl) ?_
                              refine lv_iload hx hb dL_legs_114 (lv_at hl 3 rfl) ?_
                              refine lv_iload_n hx hb dL_legs_116 rfl (lv_at hl 4 rfl) ?_
                              refine zh_callSi_ch (As := [.ref (ad 0), .int (iI j_), .int (iI i_)]) (rest := [.int (iI z110_73)]) (L := [zW tA K ad g110_72]) (Lc := [zW tA K ad g110_72]) (Lr := []) (Lc' := fun (u : GL) => [zW tA K ad u]) (Lf := fun (u : GL) => [zW tA K ad u]) (is := [0]) (isF := [0]) ⟨hx, hb, hml, hown, hts⟩ (q_L_lengthOf hst hB hr.1 j_ i_ (by omega) (by omega)) (vx_cwSW 3 hts (gx_ww gL_legs_L_lengthOf) rfl rfl rfl (by decide +kernel) ⟨Nat.le_of_ble_eq_true rfl, Nat.le_of_ble_eq_true rfl⟩) hK hP hD hS hA hZ (zCut_1 _) (zBack_1 _) rfl rfl hl.1 (Nat.le_of_ble_eq_true rfl) dL_legs_117 (by show _ + 2 ≤ 2700 ∧ _ + 12 ≤ 16200; omega) ?_
                              intro z117_75 g117_74 H locs hp9 hP hD hS
                              have q117 := hp9.2
                              try rw [hr.2.1] at q117
                              have hr := RDO_trans hr hp9.1
                              clear hp9
                              have q117 := wLeg_v hu q117 ⟨by omega, by omega, by omega, by omega⟩
                              rw [lgZ_sym] at q117
                              refine zz_icmp_ne (tgt := 195) hx hb dL_legs_120 (by decide) (by omega) (by omega) (fun c_120 => ?_) (fun c_120 => ?_)
                              · exfalso
                                omega
                              · refine lv_aload_n hx hb dL_legs_123 rfl (lv_at hl 6 rfl) ?_
                                refine lv_iload_n hx hb dL_legs_124 rfl (lv_at hl 4 rfl) ?_
                                refine lv_iload hx hb dL_legs_125 (lv_at hl 3 rfl) ?_
                                refine zh_callSi_ch (As := [.ref (ad 0), .int (iI i_), .int (iI j_)]) (rest := []) (L := [zW tA K ad g117_74]) (Lc := [zW tA K ad g117_74]) (Lr := []) (Lc' := fun (u : GL) => [zW tA K ad u]) (Lf := fun (u : GL) => [zW tA K ad u]) (is := [0]) (isF := [0]) ⟨hx, hb, hml, hown, hts⟩ (q_L_isLit hst hB hr.1 i_ j_ (by omega) (by omega)) (vx_cwSW 3 hts (gx_ww gL_legs_L_isLit) rfl rfl rfl (by decide +kernel) ⟨Nat.le_of_ble_eq_true rfl, Nat.le_of_ble_eq_true rfl⟩) hK hP hD hS hA hZ (zCut_1 _) (zBack_1 _) rfl rfl hl.1 (Nat.le_of_ble_eq_true rfl) dL_legs_127 (by show _ + 2 ≤ 2700 ∧ _ + 12 ≤ 16200; omega) ?_
                                intro z127_77 g127_76 H locs hp9 hP hD hS
                                have q127 := hp9.2
                                try rw [hr.2.1] at q127
                                have hr := RDO_trans hr hp9.1
                                clear hp9
                                have q127 := wLit_v hu q127 ⟨by omega, by omega, by omega, by omega⟩
                                refine lv_iload hx hb dL_legs_130 (lv_at hl 2 rfl) ?_
                                refine zz_if_ne (tgt := 140) hx hb dL_legs_132 (by decide) (by decide) (fun c_132 => ?_) (fun c_132 => ?_)
                                · refine lv_iload hx hb dL_legs_140 (lv_at hl 0 rfl) ?_
                                  refine zz_if_eq (tgt := 149) hx hb dL_legs_142 (by decide) (by decide) (fun c_142 => ?_) (fun c_142 => ?_)
                                  · refine zz_iconst hx hb dL_legs_149 ?_
                                    refine zz_icmp_ne (tgt := 195) hx hb dL_legs_150 (by decide) (by omega) (by decide) (fun c_150 => ?_) (fun c_150 => ?_)
                                    · exfalso
                                      omega
                                    · refine lv_iload_n hx hb dL_legs_153 rfl (lv_at hl 4 rfl) ?_
                                      refine lv_iload hx hb dL_legs_154 (lv_at hl 3 rfl) ?_
                                      refine zz_icmp_ne (tgt := 164) hx hb dL_legs_156 (by decide) (by omega) (by omega) (fun c_156 => ?_) (fun c_156 => ?_)
                                      · refine lv_aload_n hx hb dL_legs_164 rfl (lv_at hl 6 rfl) ?_
                                        refine lv_iload_n hx hb dL_legs_165 rfl (lv_at hl 4 rfl) ?_
                                        refine lv_iload hx hb dL_legs_166 (lv_at hl 3 rfl) ?_
                                        refine zh_callSi_ch (As := [.ref (ad 0), .int (iI i_), .int (iI j_)]) (rest := []) (L := [zW tA K ad g127_76]) (Lc := [zW tA K ad g127_76]) (Lr := []) (Lc' := fun (u : GL) => [zW tA K ad u]) (Lf := fun (u : GL) => [zW tA K ad u]) (is := [0]) (isF := [0]) ⟨hx, hb, hml, hown, hts⟩ (q_L_meterOf hst hB hr.1 i_ j_ (by omega) (by omega)) (vx_cwSW 3 hts (gx_ww gL_legs_L_meterOf) rfl rfl rfl (by decide +kernel) ⟨Nat.le_of_ble_eq_true rfl, Nat.le_of_ble_eq_true rfl⟩) hK hP hD hS hA hZ (zCut_1 _) (zBack_1 _) rfl rfl hl.1 (Nat.le_of_ble_eq_true rfl) dL_legs_168 (by show _ + 2 ≤ 2700 ∧ _ + 12 ≤ 16200; omega) ?_
                                        intro z168_79 g168_78 H locs hp9 hP hD hS
                                        have q168 := hp9.2
                                        try rw [hr.2.1] at q168
                                        have hr := RDO_trans hr hp9.1
                                        clear hp9
                                        have q168 := wLeg_v hu q168 ⟨by omega, by omega, by omega, by omega⟩
                                        refine lv_aload_n hx hb dL_legs_171 rfl (lv_at hl 6 rfl) ?_
                                        refine zt_callVi (As := []) (rest := [.int (iI z168_79)]) (L := [zW tA K ad g168_78]) (Lc := [zW tA K ad g168_78]) (Lr := []) (Lc' := fun (u : GL) => [zW tA K ad u]) (Lf := fun (u : GL) => [zW tA K ad u]) (is := [0]) (isF := [0]) ⟨hx, hb, hml, hown, hts⟩ (q_X10_nightCount hst hB hr.1  ) (cwV 0 hts (goodIn_wid gL_legs_X10_nightCount) rfl rfl rfl (by decide +kernel) ⟨Nat.le_of_ble_eq_true rfl, Nat.le_of_ble_eq_true rfl⟩) hK hP hD hS hA hZ (zCut_1 _) (zBack_1 _) (ci := 12) (q0 := 0) rfl rfl (zW_0 tA K ad g168_78) rfl rfl hl.1 (Nat.le_of_ble_eq_true rfl) dL_legs_172 (by show _ + 0 ≤ 2700 ∧ _ + 0 ≤ 16200; omega) ?_
                                        intro z172_81 g172_80 H locs hp9 hP hD hS
                                        have q172 := hp9.2
                                        try rw [hr.2.1] at q172
                                        have hr := RDO_trans hr hp9.1
                                        clear hp9
                                        refine zz_icmp_gt (tgt := 195) hx hb dL_legs_175 (by decide) (by omega) (by omega) (fun c_175 => ?_) (fun c_175 => ?_)
                                        · exfalso
                                          omega
                                        · refine lv_aload_n hx hb dL_legs_178 rfl (lv_at hl 6 rfl) ?_
                                          refine lv_iload_n hx hb dL_legs_179 rfl (lv_at hl 4 rfl) ?_
                                          refine lv_iload hx hb dL_legs_180 (lv_at hl 3 rfl) ?_
                                          refine zh_callSi_ch (As := [.ref (ad 0), .int (iI i_), .int (iI j_)]) (rest := []) (L := [zW tA K ad g172_80]) (Lc := [zW tA K ad g172_80]) (Lr := []) (Lc' := fun (u : GL) => [zW tA K ad u]) (Lf := fun (u : GL) => [zW tA K ad u]) (is := [0]) (isF := [0]) ⟨hx, hb, hml, hown, hts⟩ (q_L_reachOf hst hB hr.1 i_ j_ (by omega) (by omega)) (vx_cwSW 3 hts (gx_ww gL_legs_L_reachOf) rfl rfl rfl (by decide +kernel) ⟨Nat.le_of_ble_eq_true rfl, Nat.le_of_ble_eq_true rfl⟩) hK hP hD hS hA hZ (zCut_1 _) (zBack_1 _) rfl rfl hl.1 (Nat.le_of_ble_eq_true rfl) dL_legs_182 (by show _ + 2 ≤ 2700 ∧ _ + 12 ≤ 16200; omega) ?_
                                          intro z182_83 g182_82 H locs hp9 hP hD hS
                                          have q182 := hp9.2
                                          try rw [hr.2.1] at q182
                                          have hr := RDO_trans hr hp9.1
                                          clear hp9
                                          have q182 := wLeg_v hu q182 ⟨by omega, by omega, by omega, by omega⟩
                                          refine lv_aload_n hx hb dL_legs_185 rfl (lv_at hl 6 rfl) ?_
                                          refine lv_iload hx hb dL_legs_186 (lv_at hl 3 rfl) ?_
                                          refine lv_iload_n hx hb dL_legs_188 rfl (lv_at hl 4 rfl) ?_
                                          refine zh_callSi_ch (As := [.ref (ad 0), .int (iI j_), .int (iI i_)]) (rest := [.int (iI z182_83)]) (L := [zW tA K ad g182_82]) (Lc := [zW tA K ad g182_82]) (Lr := []) (Lc' := fun (u : GL) => [zW tA K ad u]) (Lf := fun (u : GL) => [zW tA K ad u]) (is := [0]) (isF := [0]) ⟨hx, hb, hml, hown, hts⟩ (q_L_reachOf hst hB hr.1 j_ i_ (by omega) (by omega)) (vx_cwSW 3 hts (gx_ww gL_legs_L_reachOf) rfl rfl rfl (by decide +kernel) ⟨Nat.le_of_ble_eq_true rfl, Nat.le_of_ble_eq_true rfl⟩) hK hP hD hS hA hZ (zCut_1 _) (zBack_1 _) rfl rfl hl.1 (Nat.le_of_ble_eq_true rfl) dL_legs_189 (by show _ + 2 ≤ 2700 ∧ _ + 12 ≤ 16200; omega) ?_
                                          intro z189_85 g189_84 H locs hp9 hP hD hS
                                          have q189 := hp9.2
                                          try rw [hr.2.1] at q189
                                          have hr := RDO_trans hr hp9.1
                                          clear hp9
                                          have q189 := wLeg_v hu q189 ⟨by omega, by omega, by omega, by omega⟩
                                          rw [lgZ_sym] at q189
                                          refine zz_icmp_eq (tgt := 197) hx hb dL_legs_192 (by decide) (by omega) (by omega) (fun c_192 => ?_) (fun c_192 => ?_)
                                          · refine zz_iinc (lv' := [(4, .int (iI (j_ + 1))), (6, .int (iI 0)), (2, .int (iI (c2_ + 0))), (5, .int (iI 1)), (3, .int (iI i_)), (1, .int (iI z1_1)), (0, .ref (ad 0))]) hx hb dL_legs_197 hl (k := 3) rfl (by decide) rfl (fun ls hl => ?_)
                                            refine lv_goto (tgt := 17) hx hb dL_legs_200 (by decide) ?_
                                            exact ih17 (j_ + 1) (c2_ + 0) g189_84 _ _ _ _ _ (by exact hr) (by omega) (by have h9 := legD_s hokv (i := i_) (j := j_) (by omega); rw [h9, hc2]; split <;> omega) (by omega) (by omega) hP hD hS (lv_sub hl [0, 4, 2, 5, 6] rfl)
                                          · exfalso
                                            omega
                                      · exfalso
                                        omega
                                  · exact absurd c_142 (by decide)
                                · exact absurd c_132 (by decide)
                        · refine zz_iconst hx hb dL_legs_79 ?_
                          refine lv_goto (tgt := 84) hx hb dL_legs_80 (by decide) ?_
                          refine lv_istore (lv' := [(6, .int (iI 1)), (2, .int (iI (c2_ + 0))), (5, .int (iI 1)), (4, .int (iI j_)), (3, .int (iI i_)), (1, .int (iI z1_1)), (0, .ref (ad 0))]) hx hb dL_legs_84 hl (by decide) rfl (fun ls hl => ?_)
                          refine lv_iload hx hb dL_legs_86 (lv_at hl 2 rfl) ?_
                          refine lv_aload_n hx hb dL_legs_88 rfl (lv_at hl 6 rfl) ?_
                          refine lv_iload_n hx hb dL_legs_89 rfl (lv_at hl 4 rfl) ?_
                          refine lv_iload hx hb dL_legs_90 (lv_at hl 3 rfl) ?_
                          refine zh_callSi_ch (As := [.ref (ad 0), .int (iI i_), .int (iI j_)]) (rest := [.int (iI 1)]) (L := [zW tA K ad g73_68]) (Lc := [zW tA K ad g73_68]) (Lr := []) (Lc' := fun (u : GL) => [zW tA K ad u]) (Lf := fun (u : GL) => [zW tA K ad u]) (is := [0]) (isF := [0]) ⟨hx, hb, hml, hown, hts⟩ (q_L_lengthOf hst hB hr.1 i_ j_ (by omega) (by omega)) (vx_cwSW 3 hts (gx_ww gL_legs_L_lengthOf) rfl rfl rfl (by decide +kernel) ⟨Nat.le_of_ble_eq_true rfl, Nat.le_of_ble_eq_true rfl⟩) hK hP hD hS hA hZ (zCut_1 _) (zBack_1 _) rfl rfl hl.1 (Nat.le_of_ble_eq_true rfl) dL_legs_92 (by show _ + 2 ≤ 2700 ∧ _ + 12 ≤ 16200; omega) ?_
                          intro z92_87 g92_86 H locs hp9 hP hD hS
                          have q92 := hp9.2
                          try rw [hr.2.1] at q92
                          have hr := RDO_trans hr hp9.1
                          clear hp9
                          have q92 := wLeg_v hu q92 ⟨by omega, by omega, by omega, by omega⟩
                          refine zz_if_le (tgt := 102) hx hb dL_legs_95 (by decide) (by omega) (fun c_95 => ?_) (fun c_95 => ?_)
                          · exfalso
                            omega
                          · refine zz_iconst hx hb dL_legs_98 ?_
                            refine lv_goto (tgt := 103) hx hb dL_legs_99 (by decide) ?_
                            refine zz_icmp_ne (tgt := 195) hx hb dL_legs_103 (by decide) (by decide) (by decide) (fun c_103 => ?_) (fun c_103 => ?_)
                            · exact absurd c_103 (by decide)
                            · refine lv_aload_n hx hb dL_legs_106 rfl (lv_at hl 6 rfl) ?_
                              refine lv_iload_n hx hb dL_legs_107 rfl (lv_at hl 4 rfl) ?_
                              refine lv_iload hx hb dL_legs_108 (lv_at hl 3 rfl) ?_
                              refine zh_callSi_ch (As := [.ref (ad 0), .int (iI i_), .int (iI j_)]) (rest := []) (L := [zW tA K ad g92_86]) (Lc := [zW tA K ad g92_86]) (Lr := []) (Lc' := fun (u : GL) => [zW tA K ad u]) (Lf := fun (u : GL) => [zW tA K ad u]) (is := [0]) (isF := [0]) ⟨hx, hb, hml, hown, hts⟩ (q_L_lengthOf hst hB hr.1 i_ j_ (by omega) (by omega)) (vx_cwSW 3 hts (gx_ww gL_legs_L_lengthOf) rfl rfl rfl (by decide +kernel) ⟨Nat.le_of_ble_eq_true rfl, Nat.le_of_ble_eq_true rfl⟩) hK hP hD hS hA hZ (zCut_1 _) (zBack_1 _) rfl rfl hl.1 (Nat.le_of_ble_eq_true rfl) dL_legs_110 (by show _ + 2 ≤ 2700 ∧ _ + 12 ≤ 16200; omega) ?_
                              intro z110_89 g110_88 H locs hp9 hP hD hS
                              have q110 := hp9.2
                              try rw [hr.2.1] at q110
                              have hr := RDO_trans hr hp9.1
                              clear hp9
                              have q110 := wLeg_v hu q110 ⟨by omega, by omega, by omega, by omega⟩
                              refine lv_aload_n hx hb dL_legs_113 rfl (lv_at hl 6 rfl) ?_
                              refine lv_iload hx hb dL_legs_114 (lv_at hl 3 rfl) ?_
                              refine lv_iload_n hx hb dL_legs_116 rfl (lv_at hl 4 rfl) ?_
                              refine zh_callSi_ch (As := [.ref (ad 0), .int (iI j_), .int (iI i_)]) (rest := [.int (iI z110_89)]) (L := [zW tA K ad g110_88]) (Lc := [zW tA K ad g110_88]) (Lr := []) (Lc' := fun (u : GL) => [zW tA K ad u]) (Lf := fun (u : GL) => [zW tA K ad u]) (is := [0]) (isF := [0]) ⟨hx, hb, hml, hown, hts⟩ (q_L_lengthOf hst hB hr.1 j_ i_ (by omega) (by omega)) (vx_cwSW 3 hts (gx_ww gL_legs_L_lengthOf) rfl rfl rfl (by decide +kernel) ⟨Nat.le_of_ble_eq_true rfl, Nat.le_of_ble_eq_true rfl⟩) hK hP hD hS hA hZ (zCut_1 _) (zBack_1 _) rfl rfl hl.1 (Nat.le_of_ble_eq_true rfl) dL_legs_117 (by show _ + 2 ≤ 2700 ∧ _ + 12 ≤ 16200; omega) ?_
                              intro z117_91 g117_90 H locs hp9 hP hD hS
                              have q117 := hp9.2
                              try rw [hr.2.1] at q117
                              have hr := RDO_trans hr hp9.1
                              clear hp9
                              have q117 := wLeg_v hu q117 ⟨by omega, by omega, by omega, by omega⟩
                              rw [lgZ_sym] at q117
                              refine zz_icmp_ne (tgt := 195) hx hb dL_legs_120 (by decide) (by omega) (by omega) (fun c_120 => ?_) (fun c_120 => ?_)
                              · exfalso
                                omega
                              · refine lv_aload_n hx hb dL_legs_123 rfl (lv_at hl 6 rfl) ?_
                                refine lv_iload_n hx hb dL_legs_124 rfl (lv_at hl 4 rfl) ?_
                                refine lv_iload hx hb dL_legs_125 (lv_at hl 3 rfl) ?_
                                refine zh_callSi_ch (As := [.ref (ad 0), .int (iI i_), .int (iI j_)]) (rest := []) (L := [zW tA K ad g117_90]) (Lc := [zW tA K ad g117_90]) (Lr := []) (Lc' := fun (u : GL) => [zW tA K ad u]) (Lf := fun (u : GL) => [zW tA K ad u]) (is := [0]) (isF := [0]) ⟨hx, hb, hml, hown, hts⟩ (q_L_isLit hst hB hr.1 i_ j_ (by omega) (by omega)) (vx_cwSW 3 hts (gx_ww gL_legs_L_isLit) rfl rfl rfl (by decide +kernel) ⟨Nat.le_of_ble_eq_true rfl, Nat.le_of_ble_eq_true rfl⟩) hK hP hD hS hA hZ (zCut_1 _) (zBack_1 _) rfl rfl hl.1 (Nat.le_of_ble_eq_true rfl) dL_legs_127 (by show _ + 2 ≤ 2700 ∧ _ + 12 ≤ 16200; omega) ?_
                                intro z127_93 g127_92 H locs hp9 hP hD hS
                                have q127 := hp9.2
                                try rw [hr.2.1] at q127
                                have hr := RDO_trans hr hp9.1
                                clear hp9
                                have q127 := wLit_v hu q127 ⟨by omega, by omega, by omega, by omega⟩
                                refine lv_iload hx hb dL_legs_130 (lv_at hl 2 rfl) ?_
                                refine zz_if_ne (tgt := 140) hx hb dL_legs_132 (by decide) (by decide) (fun c_132 => ?_) (fun c_132 => ?_)
                                · refine lv_iload hx hb dL_legs_140 (lv_at hl 0 rfl) ?_
                                  refine zz_if_eq (tgt := 149) hx hb dL_legs_142 (by decide) (by decide) (fun c_142 => ?_) (fun c_142 => ?_)
                                  · exact absurd c_142 (by decide)
                                  · refine zz_iconst hx hb dL_legs_145 ?_
                                    refine lv_goto (tgt := 150) hx hb dL_legs_146 (by decide) ?_
                                    refine zz_icmp_ne (tgt := 195) hx hb dL_legs_150 (by decide) (by omega) (by decide) (fun c_150 => ?_) (fun c_150 => ?_)
                                    · exfalso
                                      omega
                                    · refine lv_iload_n hx hb dL_legs_153 rfl (lv_at hl 4 rfl) ?_
                                      refine lv_iload hx hb dL_legs_154 (lv_at hl 3 rfl) ?_
                                      refine zz_icmp_ne (tgt := 164) hx hb dL_legs_156 (by decide) (by omega) (by omega) (fun c_156 => ?_) (fun c_156 => ?_)
                                      · refine lv_aload_n hx hb dL_legs_164 rfl (lv_at hl 6 rfl) ?_
                                        refine lv_iload_n hx hb dL_legs_165 rfl (lv_at hl 4 rfl) ?_
                                        refine lv_iload hx hb dL_legs_166 (lv_at hl 3 rfl) ?_
                                        refine zh_callSi_ch (As := [.ref (ad 0), .int (iI i_), .int (iI j_)]) (rest := []) (L := [zW tA K ad g127_92]) (Lc := [zW tA K ad g127_92]) (Lr := []) (Lc' := fun (u : GL) => [zW tA K ad u]) (Lf := fun (u : GL) => [zW tA K ad u]) (is := [0]) (isF := [0]) ⟨hx, hb, hml, hown, hts⟩ (q_L_meterOf hst hB hr.1 i_ j_ (by omega) (by omega)) (vx_cwSW 3 hts (gx_ww gL_legs_L_meterOf) rfl rfl rfl (by decide +kernel) ⟨Nat.le_of_ble_eq_true rfl, Nat.le_of_ble_eq_true rfl⟩) hK hP hD hS hA hZ (zCut_1 _) (zBack_1 _) rfl rfl hl.1 (Nat.le_of_ble_eq_true rfl) dL_legs_168 (by show _ + 2 ≤ 2700 ∧ _ + 12 ≤ 16200; omega) ?_
                                        intro z168_95 g168_94 H locs hp9 hP hD hS
                                        have q168 := hp9.2
                                        try rw [hr.2.1] at q168
                                        have hr := RDO_trans hr hp9.1
                                        clear hp9
                                        have q168 := wLeg_v hu q168 ⟨by omega, by omega, by omega, by omega⟩
                                        refine lv_aload_n hx hb dL_legs_171 rfl (lv_at hl 6 rfl) ?_
                                        refine zt_callVi (As := []) (rest := [.int (iI z168_95)]) (L := [zW tA K ad g168_94]) (Lc := [zW tA K ad g168_94]) (Lr := []) (Lc' := fun (u : GL) => [zW tA K ad u]) (Lf := fun (u : GL) => [zW tA K ad u]) (is := [0]) (isF := [0]) ⟨hx, hb, hml, hown, hts⟩ (q_X10_nightCount hst hB hr.1  ) (cwV 0 hts (goodIn_wid gL_legs_X10_nightCount) rfl rfl rfl (by decide +kernel) ⟨Nat.le_of_ble_eq_true rfl, Nat.le_of_ble_eq_true rfl⟩) hK hP hD hS hA hZ (zCut_1 _) (zBack_1 _) (ci := 12) (q0 := 0) rfl rfl (zW_0 tA K ad g168_94) rfl rfl hl.1 (Nat.le_of_ble_eq_true rfl) dL_legs_172 (by show _ + 0 ≤ 2700 ∧ _ + 0 ≤ 16200; omega) ?_
                                        intro z172_97 g172_96 H locs hp9 hP hD hS
                                        have q172 := hp9.2
                                        try rw [hr.2.1] at q172
                                        have hr := RDO_trans hr hp9.1
                                        clear hp9
                                        refine zz_icmp_gt (tgt := 195) hx hb dL_legs_175 (by decide) (by omega) (by omega) (fun c_175 => ?_) (fun c_175 => ?_)
                                        · exfalso
                                          omega
                                        · refine lv_aload_n hx hb dL_legs_178 rfl (lv_at hl 6 rfl) ?_
                                          refine lv_iload_n hx hb dL_legs_179 rfl (lv_at hl 4 rfl) ?_
                                          refine lv_iload hx hb dL_legs_180 (lv_at hl 3 rfl) ?_
                                          refine zh_callSi_ch (As := [.ref (ad 0), .int (iI i_), .int (iI j_)]) (rest := []) (L := [zW tA K ad g172_96]) (Lc := [zW tA K ad g172_96]) (Lr := []) (Lc' := fun (u : GL) => [zW tA K ad u]) (Lf := fun (u : GL) => [zW tA K ad u]) (is := [0]) (isF := [0]) ⟨hx, hb, hml, hown, hts⟩ (q_L_reachOf hst hB hr.1 i_ j_ (by omega) (by omega)) (vx_cwSW 3 hts (gx_ww gL_legs_L_reachOf) rfl rfl rfl (by decide +kernel) ⟨Nat.le_of_ble_eq_true rfl, Nat.le_of_ble_eq_true rfl⟩) hK hP hD hS hA hZ (zCut_1 _) (zBack_1 _) rfl rfl hl.1 (Nat.le_of_ble_eq_true rfl) dL_legs_182 (by show _ + 2 ≤ 2700 ∧ _ + 12 ≤ 16200; omega) ?_
                                          intro z182_99 g182_98 H locs hp9 hP hD hS
                                          have q182 := hp9.2
                                          try rw [hr.2.1] at q182
                                          have hr := RDO_trans hr hp9.1
                                          clear hp9
                                          have q182 := wLeg_v hu q182 ⟨by omega, by omega, by omega, by omega⟩
                                          refine lv_aload_n hx hb dL_legs_185 rfl (lv_at hl 6 rfl) ?_
                                          refine lv_iload hx hb dL_legs_186 (lv_at hl 3 rfl) ?_
                                          refine lv_iload_n hx hb dL_legs_188 rfl (lv_at hl 4 rfl) ?_
                                          refine zh_callSi_ch (As := [.ref (ad 0), .int (iI j_), .int (iI i_)]) (rest := [.int (iI z182_99)]) (L := [zW tA K ad g182_98]) (Lc := [zW tA K ad g182_98]) (Lr := []) (Lc' := fun (u : GL) => [zW tA K ad u]) (Lf := fun (u : GL) => [zW tA K ad u]) (is := [0]) (isF := [0]) ⟨hx, hb, hml, hown, hts⟩ (q_L_reachOf hst hB hr.1 j_ i_ (by omega) (by omega)) (vx_cwSW 3 hts (gx_ww gL_legs_L_reachOf) rfl rfl rfl (by decide +kernel) ⟨Nat.le_of_ble_eq_true rfl, Nat.le_of_ble_eq_true rfl⟩) hK hP hD hS hA hZ (zCut_1 _) (zBack_1 _) rfl rfl hl.1 (Nat.le_of_ble_eq_true rfl) dL_legs_189 (by show _ + 2 ≤ 2700 ∧ _ + 12 ≤ 16200; omega) ?_
                                          intro z189_101 g189_100 H locs hp9 hP hD hS
                                          have q189 := hp9.2
                                          try rw [hr.2.1] at q189
                                          have hr := RDO_trans hr hp9.1
                                          clear hp9
                                          have q189 := wLeg_v hu q189 ⟨by omega, by omega, by omega, by omega⟩
                                          rw [lgZ_sym] at q189
                                          refine zz_icmp_eq (tgt := 197) hx hb dL_legs_192 (by decide) (by omega) (by omega) (fun c_192 => ?_) (fun c_192 => ?_)
                                          · refine zz_iinc (lv' := [(4, .int (iI (j_ + 1))), (6, .int (iI 1)), (2, .int (iI (c2_ + 0))), (5, .int (iI 1)), (3, .int (iI i_)), (1, .int (iI z1_1)), (0, .ref (ad 0))]) hx hb dL_legs_197 hl (k := 3) rfl (by decide) rfl (fun ls hl => ?_)
                                            refine lv_goto (tgt := 17) hx hb dL_legs_200 (by decide) ?_
                                            exact ih17 (j_ + 1) (c2_ + 0) g189_100 _ _ _ _ _ (by exact hr) (by omega) (by have h9 := legD_s hokv (i := i_) (j := j_) (by omega); rw [h9, hc2]; split <;> omega) (by omega) (by omega) hP hD hS (lv_sub hl [0, 4, 2, 5, 6] rfl)
                                          · exfalso
                                            omega
                                      · exfalso
                                        omega
                                · exact absurd c_132 (by decide)
                    · refine zz_iconst hx hb dL_legs_53 ?_
                      refine lv_goto (tgt := 58) hx hb dL_legs_54 (by decide) ?_
                      refine zz_iadd hx hb dL_legs_58 ?_
                      refine lv_istore_n (lv' := [(2, .int (iI (c2_ + 1))), (5, .int (iI 1)), (4, .int (iI j_)), (3, .int (iI i_)), (1, .int (iI z1_1)), (0, .ref (ad 0))]) hx hb dL_legs_59 rfl hl (by decide) rfl (fun ls hl => ?_)
                      refine lv_iload hx hb dL_legs_60 (lv_at hl 1 rfl) ?_
                      refine zz_if_eq (tgt := 83) hx hb dL_legs_62 (by decide) (by decide) (fun c_62 => ?_) (fun c_62 => ?_)
                      · exact absurd c_62 (by decide)
                      · refine lv_aload_n hx hb dL_legs_65 rfl (lv_at hl 5 rfl) ?_
                        refine lv_iload_n hx hb dL_legs_66 rfl (lv_at hl 3 rfl) ?_
                        refine lv_iload hx hb dL_legs_67 (lv_at hl 2 rfl) ?_
                        refine zh_callSi_ch (As := [.ref (ad 0), .int (iI i_), .int (iI j_)]) (rest := []) (L := [zW tA K ad g27_64]) (Lc := [zW tA K ad g27_64]) (Lr := []) (Lc' := fun (u : GL) => [zW tA K ad u]) (Lf := fun (u : GL) => [zW tA K ad u]) (is := [0]) (isF := [0]) ⟨hx, hb, hml, hown, hts⟩ (q_L_reachOf hst hB hr.1 i_ j_ (by omega) (by omega)) (vx_cwSW 3 hts (gx_ww gL_legs_L_reachOf) rfl rfl rfl (by decide +kernel) ⟨Nat.le_of_ble_eq_true rfl, Nat.le_of_ble_eq_true rfl⟩) hK hP hD hS hA hZ (zCut_1 _) (zBack_1 _) rfl rfl hl.1 (Nat.le_of_ble_eq_true rfl) dL_legs_69 (by show _ + 2 ≤ 2700 ∧ _ + 12 ≤ 16200; omega) ?_
                        intro z69_103 g69_102 H locs hp9 hP hD hS
                        have q69 := hp9.2
                        try rw [hr.2.1] at q69
                        have hr := RDO_trans hr hp9.1
                        clear hp9
                        have q69 := wLeg_v hu q69 ⟨by omega, by omega, by omega, by omega⟩
                        refine lv_aload_n hx hb dL_legs_72 rfl (lv_at hl 5 rfl) ?_
                        refine zt_callVi (As := []) (rest := [.int (iI z69_103)]) (L := [zW tA K ad g69_102]) (Lc := [zW tA K ad g69_102]) (Lr := []) (Lc' := fun (u : GL) => [zW tA K ad u]) (Lf := fun (u : GL) => [zW tA K ad u]) (is := [0]) (isF := [0]) ⟨hx, hb, hml, hown, hts⟩ (q_X10_range hst hB hr.1  ) (cwV 0 hts (goodIn_wid gL_legs_X10_range) rfl rfl rfl (by decide +kernel) ⟨Nat.le_of_ble_eq_true rfl, Nat.le_of_ble_eq_true rfl⟩) hK hP hD hS hA hZ (zCut_1 _) (zBack_1 _) (ci := 12) (q0 := 0) rfl rfl (zW_0 tA K ad g69_102) rfl rfl hl.1 (Nat.le_of_ble_eq_true rfl) dL_legs_73 (by show _ + 0 ≤ 2700 ∧ _ + 0 ≤ 16200; omega) ?_
                        intro z73_105 g73_104 H locs hp9 hP hD hS
                        have q73 := hp9.2
                        try rw [hr.2.1] at q73
                        have hr := RDO_trans hr hp9.1
                        clear hp9
                        refine zz_icmp_gt (tgt := 83) hx hb dL_legs_76 (by decide) (by omega) (by omega) (fun c_76 => ?_) (fun c_76 => ?_)
                        · refine zz_iconst hx hb dL_legs_83 ?_
                          refine lv_istore (lv' := [(6, .int (iI 0)), (2, .int (iI (c2_ + 1))), (5, .int (iI 1)), (4, .int (iI j_)), (3, .int (iI i_)), (1, .int (iI z1_1)), (0, .ref (ad 0))]) hx hb dL_legs_84 hl (by decide) rfl (fun ls hl => ?_)
                          refine lv_iload hx hb dL_legs_86 (lv_at hl 2 rfl) ?_
                          refine lv_aload_n hx hb dL_legs_88 rfl (lv_at hl 6 rfl) ?_
                          refine lv_iload_n hx hb dL_legs_89 rfl (lv_at hl 4 rfl) ?_
                          refine lv_iload hx hb dL_legs_90 (lv_at hl 3 rfl) ?_
                          refine zh_callSi_ch (As := [.ref (ad 0), .int (iI i_), .int (iI j_)]) (rest := [.int (iI 1)]) (L := [zW tA K ad g73_104]) (Lc := [zW tA K ad g73_104]) (Lr := []) (Lc' := fun (u : GL) => [zW tA K ad u]) (Lf := fun (u : GL) => [zW tA K ad u]) (is := [0]) (isF := [0]) ⟨hx, hb, hml, hown, hts⟩ (q_L_lengthOf hst hB hr.1 i_ j_ (by omega) (by omega)) (vx_cwSW 3 hts (gx_ww gL_legs_L_lengthOf) rfl rfl rfl (by decide +kernel) ⟨Nat.le_of_ble_eq_true rfl, Nat.le_of_ble_eq_true rfl⟩) hK hP hD hS hA hZ (zCut_1 _) (zBack_1 _) rfl rfl hl.1 (Nat.le_of_ble_eq_true rfl) dL_legs_92 (by show _ + 2 ≤ 2700 ∧ _ + 12 ≤ 16200; omega) ?_
                          intro z92_107 g92_106 H locs hp9 hP hD hS
                          have q92 := hp9.2
                          try rw [hr.2.1] at q92
                          have hr := RDO_trans hr hp9.1
                          clear hp9
                          have q92 := wLeg_v hu q92 ⟨by omega, by omega, by omega, by omega⟩
                          refine zz_if_le (tgt := 102) hx hb dL_legs_95 (by decide) (by omega) (fun c_95 => ?_) (fun c_95 => ?_)
                          · exfalso
                            omega
                          · refine zz_iconst hx hb dL_legs_98 ?_
                            refine lv_goto (tgt := 103) hx hb dL_legs_99 (by decide) ?_
                            refine zz_icmp_ne (tgt := 195) hx hb dL_legs_103 (by decide) (by decide) (by decide) (fun c_103 => ?_) (fun c_103 => ?_)
                            · exact absurd c_103 (by decide)
                            · refine lv_aload_n hx hb dL_legs_106 rfl (lv_at hl 6 rfl) ?_
                              refine lv_iload_n hx hb dL_legs_107 rfl (lv_at hl 4 rfl) ?_
                              refine lv_iload hx hb dL_legs_108 (lv_at hl 3 rfl) ?_
                              refine zh_callSi_ch (As := [.ref (ad 0), .int (iI i_), .int (iI j_)]) (rest := []) (L := [zW tA K ad g92_106]) (Lc := [zW tA K ad g92_106]) (Lr := []) (Lc' := fun (u : GL) => [zW tA K ad u]) (Lf := fun (u : GL) => [zW tA K ad u]) (is := [0]) (isF := [0]) ⟨hx, hb, hml, hown, hts⟩ (q_L_lengthOf hst hB hr.1 i_ j_ (by omega) (by omega)) (vx_cwSW 3 hts (gx_ww gL_legs_L_lengthOf) rfl rfl rfl (by decide +kernel) ⟨Nat.le_of_ble_eq_true rfl, Nat.le_of_ble_eq_true rfl⟩) hK hP hD hS hA hZ (zCut_1 _) (zBack_1 _) rfl rfl hl.1 (Nat.le_of_ble_eq_true rfl) dL_legs_110 (by show _ + 2 ≤ 2700 ∧ _ + 12 ≤ 16200; omega) ?_
                              intro z110_109 g110_108 H locs hp9 hP hD hS
                              have q110 := hp9.2
                              try rw [hr.2.1] at q110
                              have hr := RDO_trans hr hp9.1
                              clear hp9
                              have q110 := wLeg_v hu q110 ⟨by omega, by omega, by omega, by omega⟩
                              refine lv_aload_n hx hb dL_legs_113 rfl (lv_at hl 6 rfl) ?_
                              refine lv_iload hx hb dL_legs_114 (lv_at hl 3 rfl) ?_
                              refine lv_iload_n hx hb dL_legs_116 rfl (lv_at hl 4 rfl) ?_
                              refine zh_callSi_ch (As := [.ref (ad 0), .int (iI j_), .int (iI i_)]) (rest := [.int (iI z110_109)]) (L := [zW tA K ad g110_108]) (Lc := [zW tA K ad g110_108]) (Lr := []) (Lc' := fun (u : GL) => [zW tA K ad u]) (Lf := fun (u : GL) => [zW tA K ad u]) (is := [0]) (isF := [0]) ⟨hx, hb, hml, hown, hts⟩ (q_L_lengthOf hst hB hr.1 j_ i_ (by omega) (by omega)) (vx_cwSW 3 hts (gx_ww gL_legs_L_lengthOf) rfl rfl rfl (by decide +kernel) ⟨Nat.le_of_ble_eq_true rfl, Nat.le_of_ble_eq_true rfl⟩) hK hP hD hS hA hZ (zCut_1 _) (zBack_1 _) rfl rfl hl.1 (Nat.le_of_ble_eq_true rfl) dL_legs_117 (by show _ + 2 ≤ 2700 ∧ _ + 12 ≤ 16200; omega) ?_
                              intro z117_111 g117_110 H locs hp9 hP hD hS
                              have q117 := hp9.2
                              try rw [hr.2.1] at q117
                              have hr := RDO_trans hr hp9.1
                              clear hp9
                              have q117 := wLeg_v hu q117 ⟨by omega, by omega, by omega, by omega⟩
                              rw [lgZ_sym] at q117
                              refine zz_icmp_ne (tgt := 195) hx hb dL_legs_120 (by decide) (by omega) (by omega) (fun c_120 => ?_) (fun c_120 => ?_)
                              · exfalso
                                omega
                              · refine lv_aload_n hx hb dL_legs_123 rfl (lv_at hl 6 rfl) ?_
                                refine lv_iload_n hx hb dL_legs_124 rfl (lv_at hl 4 rfl) ?_
                                refine lv_iload hx hb dL_legs_125 (lv_at hl 3 rfl) ?_
                                refine zh_callSi_ch (As := [.ref (ad 0), .int (iI i_), .int (iI j_)]) (rest := []) (L := [zW tA K ad g117_110]) (Lc := [zW tA K ad g117_110]) (Lr := []) (Lc' := fun (u : GL) => [zW tA K ad u]) (Lf := fun (u : GL) => [zW tA K ad u]) (is := [0]) (isF := [0]) ⟨hx, hb, hml, hown, hts⟩ (q_L_isLit hst hB hr.1 i_ j_ (by omega) (by omega)) (vx_cwSW 3 hts (gx_ww gL_legs_L_isLit) rfl rfl rfl (by decide +kernel) ⟨Nat.le_of_ble_eq_true rfl, Nat.le_of_ble_eq_true rfl⟩) hK hP hD hS hA hZ (zCut_1 _) (zBack_1 _) rfl rfl hl.1 (Nat.le_of_ble_eq_true rfl) dL_legs_127 (by show _ + 2 ≤ 2700 ∧ _ + 12 ≤ 16200; omega) ?_
                                intro z127_113 g127_112 H locs hp9 hP hD hS
                                have q127 := hp9.2
                                try rw [hr.2.1] at q127
                                have hr := RDO_trans hr hp9.1
                                clear hp9
                                have q127 := wLit_v hu q127 ⟨by omega, by omega, by omega, by omega⟩
                                refine lv_iload hx hb dL_legs_130 (lv_at hl 2 rfl) ?_
                                refine zz_if_ne (tgt := 140) hx hb dL_legs_132 (by decide) (by decide) (fun c_132 => ?_) (fun c_132 => ?_)
                                · refine lv_iload hx hb dL_legs_140 (lv_at hl 0 rfl) ?_
                                  refine zz_if_eq (tgt := 149) hx hb dL_legs_142 (by decide) (by decide) (fun c_142 => ?_) (fun c_142 => ?_)
                                  · refine zz_iconst hx hb dL_legs_149 ?_
                                    refine zz_icmp_ne (tgt := 195) hx hb dL_legs_150 (by decide) (by omega) (by decide) (fun c_150 => ?_) (fun c_150 => ?_)
                                    · exfalso
                                      omega
                                    · refine lv_iload_n hx hb dL_legs_153 rfl (lv_at hl 4 rfl) ?_
                                      refine lv_iload hx hb dL_legs_154 (lv_at hl 3 rfl) ?_
                                      refine zz_icmp_ne (tgt := 164) hx hb dL_legs_156 (by decide) (by omega) (by omega) (fun c_156 => ?_) (fun c_156 => ?_)
                                      · refine lv_aload_n hx hb dL_legs_164 rfl (lv_at hl 6 rfl) ?_
                                        refine lv_iload_n hx hb dL_legs_165 rfl (lv_at hl 4 rfl) ?_
                                        refine lv_iload hx hb dL_legs_166 (lv_at hl 3 rfl) ?_
                                        refine zh_callSi_ch (As := [.ref (ad 0), .int (iI i_), .int (iI j_)]) (rest := []) (L := [zW tA K ad g127_112]) (Lc := [zW tA K ad g127_112]) (Lr := []) (Lc' := fun (u : GL) => [zW tA K ad u]) (Lf := fun (u : GL) => [zW tA K ad u]) (is := [0]) (isF := [0]) ⟨hx, hb, hml, hown, hts⟩ (q_L_meterOf hst hB hr.1 i_ j_ (by omega) (by omega)) (vx_cwSW 3 hts (gx_ww gL_legs_L_meterOf) rfl rfl rfl (by decide +kernel) ⟨Nat.le_of_ble_eq_true rfl, Nat.le_of_ble_eq_true rfl⟩) hK hP hD hS hA hZ (zCut_1 _) (zBack_1 _) rfl rfl hl.1 (Nat.le_of_ble_eq_true rfl) dL_legs_168 (by show _ + 2 ≤ 2700 ∧ _ + 12 ≤ 16200; omega) ?_
                                        intro z168_115 g168_114 H locs hp9 hP hD hS
                                        have q168 := hp9.2
                                        try rw [hr.2.1] at q168
                                        have hr := RDO_trans hr hp9.1
                                        clear hp9
                                        have q168 := wLeg_v hu q168 ⟨by omega, by omega, by omega, by omega⟩
                                        refine lv_aload_n hx hb dL_legs_171 rfl (lv_at hl 6 rfl) ?_
                                        refine zt_callVi (As := []) (rest := [.int (iI z168_115)]) (L := [zW tA K ad g168_114]) (Lc := [zW tA K ad g168_114]) (Lr := []) (Lc' := fun (u : GL) => [zW tA K ad u]) (Lf := fun (u : GL) => [zW tA K ad u]) (is := [0]) (isF := [0]) ⟨hx, hb, hml, hown, hts⟩ (q_X10_nightCount hst hB hr.1  ) (cwV 0 hts (goodIn_wid gL_legs_X10_nightCount) rfl rfl rfl (by decide +kernel) ⟨Nat.le_of_ble_eq_true rfl, Nat.le_of_ble_eq_true rfl⟩) hK hP hD hS hA hZ (zCut_1 _) (zBack_1 _) (ci := 12) (q0 := 0) rfl rfl (zW_0 tA K ad g168_114) rfl rfl hl.1 (Nat.le_of_ble_eq_true rfl) dL_legs_172 (by show _ + 0 ≤ 2700 ∧ _ + 0 ≤ 16200; omega) ?_
                                        intro z172_117 g172_116 H locs hp9 hP hD hS
                                        have q172 := hp9.2
                                        try rw [hr.2.1] at q172
                                        have hr := RDO_trans hr hp9.1
                                        clear hp9
                                        refine zz_icmp_gt (tgt := 195) hx hb dL_legs_175 (by decide) (by omega) (by omega) (fun c_175 => ?_) (fun c_175 => ?_)
                                        · exfalso
                                          omega
                                        · refine lv_aload_n hx hb dL_legs_178 rfl (lv_at hl 6 rfl) ?_
                                          refine lv_iload_n hx hb dL_legs_179 rfl (lv_at hl 4 rfl) ?_
                                          refine lv_iload hx hb dL_legs_180 (lv_at hl 3 rfl) ?_
                                          refine zh_callSi_ch (As := [.ref (ad 0), .int (iI i_), .int (iI j_)]) (rest := []) (L := [zW tA K ad g172_116]) (Lc := [zW tA K ad g172_116]) (Lr := []) (Lc' := fun (u : GL) => [zW tA K ad u]) (Lf := fun (u : GL) => [zW tA K ad u]) (is := [0]) (isF := [0]) ⟨hx, hb, hml, hown, hts⟩ (q_L_reachOf hst hB hr.1 i_ j_ (by omega) (by omega)) (vx_cwSW 3 hts (gx_ww gL_legs_L_reachOf) rfl rfl rfl (by decide +kernel) ⟨Nat.le_of_ble_eq_true rfl, Nat.le_of_ble_eq_true rfl⟩) hK hP hD hS hA hZ (zCut_1 _) (zBack_1 _) rfl rfl hl.1 (Nat.le_of_ble_eq_true rfl) dL_legs_182 (by show _ + 2 ≤ 2700 ∧ _ + 12 ≤ 16200; omega) ?_
                                          intro z182_119 g182_118 H locs hp9 hP hD hS
                                          have q182 := hp9.2
                                          try rw [hr.2.1] at q182
                                          have hr := RDO_trans hr hp9.1
                                          clear hp9
                                          have q182 := wLeg_v hu q182 ⟨by omega, by omega, by omega, by omega⟩
                                          refine lv_aload_n hx hb dL_legs_185 rfl (lv_at hl 6 rfl) ?_
                                          refine lv_iload hx hb dL_legs_186 (lv_at hl 3 rfl) ?_
                                          refine lv_iload_n hx hb dL_legs_188 rfl (lv_at hl 4 rfl) ?_
                                          refine zh_callSi_ch (As := [.ref (ad 0), .int (iI j_), .int (iI i_)]) (rest := [.int (iI z182_119)]) (L := [zW tA K ad g182_118]) (Lc := [zW tA K ad g182_118]) (Lr := []) (Lc' := fun (u : GL) => [zW tA K ad u]) (Lf := fun (u : GL) => [zW tA K ad u]) (is := [0]) (isF := [0]) ⟨hx, hb, hml, hown, hts⟩ (q_L_reachOf hst hB hr.1 j_ i_ (by omega) (by omega)) (vx_cwSW 3 hts (gx_ww gL_legs_L_reachOf) rfl rfl rfl (by decide +kernel) ⟨Nat.le_of_ble_eq_true rfl, Nat.le_of_ble_eq_true rfl⟩) hK hP hD hS hA hZ (zCut_1 _) (zBack_1 _) rfl rfl hl.1 (Nat.le_of_ble_eq_true rfl) dL_legs_189 (by show _ + 2 ≤ 2700 ∧ _ + 12 ≤ 16200; omega) ?_
                                          intro z189_121 g189_120 H locs hp9 hP hD hS
                                          have q189 := hp9.2
                                          try rw [hr.2.1] at q189
                                          have hr := RDO_trans hr hp9.1
                                          clear hp9
                                          have q189 := wLeg_v hu q189 ⟨by omega, by omega, by omega, by omega⟩
                                          rw [lgZ_sym] at q189
                                          refine zz_icmp_eq (tgt := 197) hx hb dL_legs_192 (by decide) (by omega) (by omega) (fun c_192 => ?_) (fun c_192 => ?_)
                                          · refine zz_iinc (lv' := [(4, .int (iI (j_ + 1))), (6, .int (iI 0)), (2, .int (iI (c2_ + 1))), (5, .int (iI 1)), (3, .int (iI i_)), (1, .int (iI z1_1)), (0, .ref (ad 0))]) hx hb dL_legs_197 hl (k := 3) rfl (by decide) rfl (fun ls hl => ?_)
                                            refine lv_goto (tgt := 17) hx hb dL_legs_200 (by decide) ?_
                                            exact ih17 (j_ + 1) (c2_ + 1) g189_120 _ _ _ _ _ (by exact hr) (by omega) (by have h9 := legD_s hokv (i := i_) (j := j_) (by omega); rw [h9, hc2]; split <;> omega) (by omega) (by omega) hP hD hS (lv_sub hl [0, 4, 2, 5, 6] rfl)
                                          · exfalso
                                            omega
                                      · exfalso
                                        omega
                                  · exact absurd c_142 (by decide)
                                · exact absurd c_132 (by decide)
                        · refine zz_iconst hx hb dL_legs_79 ?_
                          refine lv_goto (tgt := 84) hx hb dL_legs_80 (by decide) ?_
                          refine lv_istore (lv' := [(6, .int (iI 1)), (2, .int (iI (c2_ + 1))), (5, .int (iI 1)), (4, .int (iI j_)), (3, .int (iI i_)), (1, .int (iI z1_1)), (0, .ref (ad 0))]) hx hb dL_legs_84 hl (by decide) rfl (fun ls hl => ?_)
                          refine lv_iload hx hb dL_legs_86 (lv_at hl 2 rfl) ?_
                          refine lv_aload_n hx hb dL_legs_88 rfl (lv_at hl 6 rfl) ?_
                          refine lv_iload_n hx hb dL_legs_89 rfl (lv_at hl 4 rfl) ?_
                          refine lv_iload hx hb dL_legs_90 (lv_at hl 3 rfl) ?_
                          refine zh_callSi_ch (As := [.ref (ad 0), .int (iI i_), .int (iI j_)]) (rest := [.int (iI 1)]) (L := [zW tA K ad g73_104]) (Lc := [zW tA K ad g73_104]) (Lr := []) (Lc' := fun (u : GL) => [zW tA K ad u]) (Lf := fun (u : GL) => [zW tA K ad u]) (is := [0]) (isF := [0]) ⟨hx, hb, hml, hown, hts⟩ (q_L_lengthOf hst hB hr.1 i_ j_ (by omega) (by omega)) (vx_cwSW 3 hts (gx_ww gL_legs_L_lengthOf) rfl rfl rfl (by decide +kernel) ⟨Nat.le_of_ble_eq_true rfl, Nat.le_of_ble_eq_true rfl⟩) hK hP hD hS hA hZ (zCut_1 _) (zBack_1 _) rfl rfl hl.1 (Nat.le_of_ble_eq_true rfl) dL_legs_92 (by show _ + 2 ≤ 2700 ∧ _ + 12 ≤ 16200; omega) ?_
                          intro z92_123 g92_122 H locs hp9 hP hD hS
                          have q92 := hp9.2
                          try rw [hr.2.1] at q92
                          have hr := RDO_trans hr hp9.1
                          clear hp9
                          have q92 := wLeg_v hu q92 ⟨by omega, by omega, by omega, by omega⟩
                          refine zz_if_le (tgt := 102) hx hb dL_legs_95 (by decide) (by omega) (fun c_95 => ?_) (fun c_95 => ?_)
                          · exfalso
                            omega
                          · refine zz_iconst hx hb dL_legs_98 ?_
                            refine lv_goto (tgt := 103) hx hb dL_legs_99 (by decide) ?_
                            refine zz_icmp_ne (tgt := 195) hx hb dL_legs_103 (by decide) (by decide) (by decide) (fun c_103 => ?_) (fun c_103 => ?_)
                            · exact absurd c_103 (by decide)
                            · refine lv_aload_n hx hb dL_legs_106 rfl (lv_at hl 6 rfl) ?_
                              refine lv_iload_n hx hb dL_legs_107 rfl (lv_at hl 4 rfl) ?_
                              refine lv_iload hx hb dL_legs_108 (lv_at hl 3 rfl) ?_
                              refine zh_callSi_ch (As := [.ref (ad 0), .int (iI i_), .int (iI j_)]) (rest := []) (L := [zW tA K ad g92_122]) (Lc := [zW tA K ad g92_122]) (Lr := []) (Lc' := fun (u : GL) => [zW tA K ad u]) (Lf := fun (u : GL) => [zW tA K ad u]) (is := [0]) (isF := [0]) ⟨hx, hb, hml, hown, hts⟩ (q_L_lengthOf hst hB hr.1 i_ j_ (by omega) (by omega)) (vx_cwSW 3 hts (gx_ww gL_legs_L_lengthOf) rfl rfl rfl (by decide +kernel) ⟨Nat.le_of_ble_eq_true rfl, Nat.le_of_ble_eq_true rfl⟩) hK hP hD hS hA hZ (zCut_1 _) (zBack_1 _) rfl rfl hl.1 (Nat.le_of_ble_eq_true rfl) dL_legs_110 (by show _ + 2 ≤ 2700 ∧ _ + 12 ≤ 16200; omega) ?_
                              intro z110_125 g110_124 H locs hp9 hP hD hS
                              have q110 := hp9.2
                              try rw [hr.2.1] at q110
                              have hr := RDO_trans hr hp9.1
                              clear hp9
                              have q110 := wLeg_v hu q110 ⟨by omega, by omega, by omega, by omega⟩
                              refine lv_aload_n hx hb dL_legs_113 rfl (lv_at hl 6 rfl) ?_
                              refine lv_iload hx hb dL_legs_114 (lv_at hl 3 rfl) ?_
                              refine lv_iload_n hx hb dL_legs_116 rfl (lv_at hl 4 rfl) ?_
                              refine zh_callSi_ch (As := [.ref (ad 0), .int (iI j_), .int (iI i_)]) (rest := [.int (iI z110_125)]) (L := [zW tA K ad g110_124]) (Lc := [zW tA K ad g110_124]) (Lr := []) (Lc' := fun (u : GL) => [zW tA K ad u]) (Lf := fun (u : GL) => [zW tA K ad u]) (is := [0]) (isF := [0]) ⟨hx, hb, hml, hown, hts⟩ (q_L_lengthOf hst hB hr.1 j_ i_ (by omega) (by omega)) (vx_cwSW 3 hts (gx_ww gL_legs_L_lengthOf) rfl rfl rfl (by decide +kernel) ⟨Nat.le_of_ble_eq_true rfl, Nat.le_of_ble_eq_true rfl⟩) hK hP hD hS hA hZ (zCut_1 _) (zBack_1 _) rfl rfl hl.1 (Nat.le_of_ble_eq_true rfl) dL_legs_117 (by show _ + 2 ≤ 2700 ∧ _ + 12 ≤ 16200; omega) ?_
                              intro z117_127 g117_126 H locs hp9 hP hD hS
                              have q117 := hp9.2
                              try rw [hr.2.1] at q117
                              have hr := RDO_trans hr hp9.1
                              clear hp9
                              have q117 := wLeg_v hu q117 ⟨by omega, by omega, by omega, by omega⟩
                              rw [lgZ_sym] at q117
                              refine zz_icmp_ne (tgt := 195) hx hb dL_legs_120 (by decide) (by omega) (by omega) (fun c_120 => ?_) (fun c_120 => ?_)
                              · exfalso
                                omega
                              · refine lv_aload_n hx hb dL_legs_123 rfl (lv_at hl 6 rfl) ?_
                                refine lv_iload_n hx hb dL_legs_124 rfl (lv_at hl 4 rfl) ?_
                                refine lv_iload hx hb dL_legs_125 (lv_at hl 3 rfl) ?_
                                refine zh_callSi_ch (As := [.ref (ad 0), .int (iI i_), .int (iI j_)]) (rest := []) (L := [zW tA K ad g117_126]) (Lc := [zW tA K ad g117_126]) (Lr := []) (Lc' := fun (u : GL) => [zW tA K ad u]) (Lf := fun (u : GL) => [zW tA K ad u]) (is := [0]) (isF := [0]) ⟨hx, hb, hml, hown, hts⟩ (q_L_isLit hst hB hr.1 i_ j_ (by omega) (by omega)) (vx_cwSW 3 hts (gx_ww gL_legs_L_isLit) rfl rfl rfl (by decide +kernel) ⟨Nat.le_of_ble_eq_true rfl, Nat.le_of_ble_eq_true rfl⟩) hK hP hD hS hA hZ (zCut_1 _) (zBack_1 _) rfl rfl hl.1 (Nat.le_of_ble_eq_true rfl) dL_legs_127 (by show _ + 2 ≤ 2700 ∧ _ + 12 ≤ 16200; omega) ?_
                                intro z127_129 g127_128 H locs hp9 hP hD hS
                                have q127 := hp9.2
                                try rw [hr.2.1] at q127
                                have hr := RDO_trans hr hp9.1
                                clear hp9
                                have q127 := wLit_v hu q127 ⟨by omega, by omega, by omega, by omega⟩
                                refine lv_iload hx hb dL_legs_130 (lv_at hl 2 rfl) ?_
                                refine zz_if_ne (tgt := 140) hx hb dL_legs_132 (by decide) (by decide) (fun c_132 => ?_) (fun c_132 => ?_)
                                · refine lv_iload hx hb dL_legs_140 (lv_at hl 0 rfl) ?_
                                  refine zz_if_eq (tgt := 149) hx hb dL_legs_142 (by decide) (by decide) (fun c_142 => ?_) (fun c_142 => ?_)
                                  · exact absurd c_142 (by decide)
                                  · refine zz_iconst hx hb dL_legs_145 ?_
                                    refine lv_goto (tgt := 150) hx hb dL_legs_146 (by decide) ?_
                                    refine zz_icmp_ne (tgt := 195) hx hb dL_legs_150 (by decide) (by omega) (by decide) (fun c_150 => ?_) (fun c_150 => ?_)
                                    · exfalso
                                      omega
                                    · refine lv_iload_n hx hb dL_legs_153 rfl (lv_at hl 4 rfl) ?_
                                      refine lv_iload hx hb dL_legs_154 (lv_at hl 3 rfl) ?_
                                      refine zz_icmp_ne (tgt := 164) hx hb dL_legs_156 (by decide) (by omega) (by omega) (fun c_156 => ?_) (fun c_156 => ?_)
                                      · refine lv_aload_n hx hb dL_legs_164 rfl (lv_at hl 6 rfl) ?_
                                        refine lv_iload_n hx hb dL_legs_165 rfl (lv_at hl 4 rfl) ?_
                                        refine lv_iload hx hb dL_legs_166 (lv_at hl 3 rfl) ?_
                                        refine zh_callSi_ch (As := [.ref (ad 0), .int (iI i_), .int (iI j_)]) (rest := []) (L := [zW tA K ad g127_128]) (Lc := [zW tA K ad g127_128]) (Lr := []) (Lc' := fun (u : GL) => [zW tA K ad u]) (Lf := fun (u : GL) => [zW tA K ad u]) (is := [0]) (isF := [0]) ⟨hx, hb, hml, hown, hts⟩ (q_L_meterOf hst hB hr.1 i_ j_ (by omega) (by omega)) (vx_cwSW 3 hts (gx_ww gL_legs_L_meterOf) rfl rfl rfl (by decide +kernel) ⟨Nat.le_of_ble_eq_true rfl, Nat.le_of_ble_eq_true rfl⟩) hK hP hD hS hA hZ (zCut_1 _) (zBack_1 _) rfl rfl hl.1 (Nat.le_of_ble_eq_true rfl) dL_legs_168 (by show _ + 2 ≤ 2700 ∧ _ + 12 ≤ 16200; omega) ?_
                                        intro z168_131 g168_130 H locs hp9 hP hD hS
                                        have q168 := hp9.2
                                        try rw [hr.2.1] at q168
                                        have hr := RDO_trans hr hp9.1
                                        clear hp9
                                        have q168 := wLeg_v hu q168 ⟨by omega, by omega, by omega, by omega⟩
                                        refine lv_aload_n hx hb dL_legs_171 rfl (lv_at hl 6 rfl) ?_
                                        refine zt_callVi (As := []) (rest := [.int (iI z168_131)]) (L := [zW tA K ad g168_130]) (Lc := [zW tA K ad g168_130]) (Lr := []) (Lc' := fun (u : GL) => [zW tA K ad u]) (Lf := fun (u : GL) => [zW tA K ad u]) (is := [0]) (isF := [0]) ⟨hx, hb, hml, hown, hts⟩ (q_X10_nightCount hst hB hr.1  ) (cwV 0 hts (goodIn_wid gL_legs_X10_nightCount) rfl rfl rfl (by decide +kernel) ⟨Nat.le_of_ble_eq_true rfl, Nat.le_of_ble_eq_true rfl⟩) hK hP hD hS hA hZ (zCut_1 _) (zBack_1 _) (ci := 12) (q0 := 0) rfl rfl (zW_0 tA K ad g168_130) rfl rfl hl.1 (Nat.le_of_ble_eq_true rfl) dL_legs_172 (by show _ + 0 ≤ 2700 ∧ _ + 0 ≤ 16200; omega) ?_
                                        intro z172_133 g172_132 H locs hp9 hP hD hS
                                        have q172 := hp9.2
                                        try rw [hr.2.1] at q172
                                        have hr := RDO_trans hr hp9.1
                                        clear hp9
                                        refine zz_icmp_gt (tgt := 195) hx hb dL_legs_175 (by decide) (by omega) (by omega) (fun c_175 => ?_) (fun c_175 => ?_)
                                        · exfalso
                                          omega
                                        · refine lv_aload_n hx hb dL_legs_178 rfl (lv_at hl 6 rfl) ?_
                                          refine lv_iload_n hx hb dL_legs_179 rfl (lv_at hl 4 rfl) ?_
                                          refine lv_iload hx hb dL_legs_180 (lv_at hl 3 rfl) ?_
                                          refine zh_callSi_ch (As := [.ref (ad 0), .int (iI i_), .int (iI j_)]) (rest := []) (L := [zW tA K ad g172_132]) (Lc := [zW tA K ad g172_132]) (Lr := []) (Lc' := fun (u : GL) => [zW tA K ad u]) (Lf := fun (u : GL) => [zW tA K ad u]) (is := [0]) (isF := [0]) ⟨hx, hb, hml, hown, hts⟩ (q_L_reachOf hst hB hr.1 i_ j_ (by omega) (by omega)) (vx_cwSW 3 hts (gx_ww gL_legs_L_reachOf) rfl rfl rfl (by decide +kernel) ⟨Nat.le_of_ble_eq_true rfl, Nat.le_of_ble_eq_true rfl⟩) hK hP hD hS hA hZ (zCut_1 _) (zBack_1 _) rfl rfl hl.1 (Nat.le_of_ble_eq_true rfl) dL_legs_182 (by show _ + 2 ≤ 2700 ∧ _ + 12 ≤ 16200; omega) ?_
                                          intro z182_135 g182_134 H locs hp9 hP hD hS
                                          have q182 := hp9.2
                                          try rw [hr.2.1] at q182
                                          have hr := RDO_trans hr hp9.1
                                          clear hp9
                                          have q182 := wLeg_v hu q182 ⟨by omega, by omega, by omega, by omega⟩
                                          refine lv_aload_n hx hb dL_legs_185 rfl (lv_at hl 6 rfl) ?_
                                          refine lv_iload hx hb dL_legs_186 (lv_at hl 3 rfl) ?_
                                          refine lv_iload_n hx hb dL_legs_188 rfl (lv_at hl 4 rfl) ?_
                                          refine zh_callSi_ch (As := [.ref (ad 0), .int (iI j_), .int (iI i_)]) (rest := [.int (iI z182_135)]) (L := [zW tA K ad g182_134]) (Lc := [zW tA K ad g182_134]) (Lr := []) (Lc' := fun (u : GL) => [zW tA K ad u]) (Lf := fun (u : GL) => [zW tA K ad u]) (is := [0]) (isF := [0]) ⟨hx, hb, hml, hown, hts⟩ (q_L_reachOf hst hB hr.1 j_ i_ (by omega) (by omega)) (vx_cwSW 3 hts (gx_ww gL_legs_L_reachOf) rfl rfl rfl (by decide +kernel) ⟨Nat.le_of_ble_eq_true rfl, Nat.le_of_ble_eq_true rfl⟩) hK hP hD hS hA hZ (zCut_1 _) (zBack_1 _) rfl rfl hl.1 (Nat.le_of_ble_eq_true rfl) dL_legs_189 (by show _ + 2 ≤ 2700 ∧ _ + 12 ≤ 16200; omega) ?_
                                          intro z189_137 g189_136 H locs hp9 hP hD hS
                                          have q189 := hp9.2
                                          try rw [hr.2.1] at q189
                                          have hr := RDO_trans hr hp9.1
                                          clear hp9
                                          have q189 := wLeg_v hu q189 ⟨by omega, by omega, by omega, by omega⟩
                                          rw [lgZ_sym] at q189
                                          refine zz_icmp_eq (tgt := 197) hx hb dL_legs_192 (by decide) (by omega) (by omega) (fun c_192 => ?_) (fun c_192 => ?_)
                                          · refine zz_iinc (lv' := [(4, .int (iI (j_ + 1))), (6, .int (iI 1)), (2, .int (iI (c2_ + 1))), (5, .int (iI 1)), (3, .int (iI i_)), (1, .int (iI z1_1)), (0, .ref (ad 0))]) hx hb dL_legs_197 hl (k := 3) rfl (by decide) rfl (fun ls hl => ?_)
                                            refine lv_goto (tgt := 17) hx hb dL_legs_200 (by decide) ?_
                                            exact ih17 (j_ + 1) (c2_ + 1) g189_136 _ _ _ _ _ (by exact hr) (by omega) (by have h9 := legD_s hokv (i := i_) (j := j_) (by omega); rw [h9, hc2]; split <;> omega) (by omega) (by omega) hP hD hS (lv_sub hl [0, 4, 2, 5, 6] rfl)
                                          · exfalso
                                            omega
                                      · exfalso
                                        omega
                                · exact absurd c_132 (by decide)
        exact L17 _ 0 c_ g9 _ _ _ _ _ (by exact hr) (by omega) (by rw [hc]; exact (Int.add_zero _).symm) (by omega) (Nat.lt_succ_self _) hP hD hS (lv_sub hl [0, 1, 2, 3, 4] rfl)
  exact L9 _ 0 0 g1_0 _ _ _ _ _ (by exact hr) (by omega) (by rfl) (by omega) (Nat.lt_succ_self _) hP hD hS (lv_sub hl [0, 1, 2, 3] rfl)
