/-! ===== p57: the law's subscribers ===== -/
theorem sm_bd {f : Int → Int} {b : Int} : ∀ {n : Nat}, (∀ j : Int, 0 ≤ j → j < n → 0 ≤ f j ∧ f j ≤ b) → 0 ≤ sm f n ∧ sm f n ≤ (n : Int) * b
  | 0, _ => by
    show (0 : Int) ≤ 0 ∧ (0 : Int) ≤ ((0 : Nat) : Int) * b
    rw [show ((0 : Nat) : Int) * b = 0 from Int.zero_mul b]
    exact ⟨Int.le_refl 0, Int.le_refl 0⟩
  | n + 1, h => by
    have ih := sm_bd (n := n) (fun j j0 j1 => h j j0 (by omega))
    have q := h n (by omega) (by omega)
    show 0 ≤ sm f n + f n ∧ sm f n + f n ≤ ((n + 1 : Nat) : Int) * b
    rw [show ((n + 1 : Nat) : Int) * b = (n : Int) * b + b by rw [show ((n + 1 : Nat) : Int) = (n : Int) + 1 by omega, Int.add_mul, Int.one_mul]]
    omega
theorem sm_6 {n : Nat} {b : Int} (hn : n ≤ 6) (hb : 0 ≤ b ∧ b ≤ 100000) : (n : Int) * b ≤ 600000 := by
  have h1 : (n : Int) * b ≤ 6 * b := Int.mul_le_mul_of_nonneg_right (by omega) hb.1
  omega
set_option maxHeartbeats 4000000 in
set_option maxRecDepth 20000 in
theorem q_L_subscribers {l : Launch} (hst : l.stackTraces = false) {K : Nat → Nat} {D : va_G} {tA : Nat → ClassId} {ad : Nat → Nat} {sz : Nat} {B N : Int} {g : GL} (hB : (0 ≤ B ∧ B ≤ 100000000) ∧ (0 ≤ N ∧ N ≤ 100000)) (hok : OKG B N g)  : zHi l yL_subscribers (wsL_subscribers ++ xL) ({ frames := 10, cells := 2000, slots := 12000, locals := 179 }) K D tA [.ref (ad 0)] (zW tA K ad g) sz (fun (z : Int) (g' : GL) => RDO B N g g' ∧ z = 1) (fun g' => zW tA K ad g') 2000 12000 := by
  refine zHi_ofC (cc := cL_subscribers) (maxL := 13) (by decide) rfl (fun z u h => zbool z (by have := h.2; omega)) (Nat.le_of_ble_eq_true rfl) ?_
  intro p e s m args below meth c A Q ls hx hb hml hts hown hK hP hD hA hZ hret hl
  obtain ⟨H, hHe⟩ : ∃ H : Heap, H = s.heap := ⟨_, rfl⟩
  have hS : va_S A s.heap H [] := by rw [hHe]; exact va_S.rf
  rw [← hHe] at hP ⊢
  have hP := zP_i hP
  have hD := zD_i hD
  have hr : RDO B N g g := RDO_refl hok
  have hl : lv_has ls 13 [(0, .ref (ad 0))] := hl
  obtain ⟨hokv, hhn, hhc, hln, htx, hva, hcm, hlc, hlb⟩ := id hok
  obtain ⟨hsv, hnv⟩ := id hokv
  obtain ⟨hch, hu, hcc, hsp, hmo, hfg, hrg, hni, hfd, hmt, hld, hbr⟩ := SVk_out (show SVk B N (eSv (GL_v g)) from hsv)
  have hpp : 0 ≤ GL_v g 0 0 ∧ GL_v g 0 0 ≤ 10 := ⟨hch.1, hch.2.1⟩
  have hlg : 0 ≤ GL_v g 1 0 ∧ GL_v g 1 0 ≤ 20 := ⟨hch.2.2.1, hch.2.2.2.1⟩
  obtain ⟨tp, nd, hgat⟩ := gat_ex hokv
  have l_283 := hts (.methodLink RL 283 Lib.Math.max.name) (by decide +kernel)
  have ls_283 := hts (.static Lib.Math.max.name) (by decide +kernel)
  have lc_283 := hts (.code Lib.Math.max.name Lib.Math.max.code 2 (some .int)) (by decide +kernel)
  have li_283 := hts (.initialized "java/lang/Math") (by decide +kernel)
  refine lv_aload_n hx hb dL_subscribers_0 rfl (lv_at hl 0 rfl) ?_
  refine zt_callVi (As := []) (rest := []) (L := [zW tA K ad g]) (Lc := [zW tA K ad g]) (Lr := []) (Lc' := fun (u : GL) => [zW tA K ad u]) (Lf := fun (u : GL) => [zW tA K ad u]) (is := [0]) (isF := [0]) ⟨hx, hb, hml, hown, hts⟩ (q_X10_subscriberCount hst hB hr.1  ) (cwV 0 hts (goodIn_wid gL_subscribers_X10_subscriberCount) rfl rfl rfl (by decide +kernel) ⟨Nat.le_of_ble_eq_true rfl, Nat.le_of_ble_eq_true rfl⟩) hK hP hD hS hA hZ (zCut_1 _) (zBack_1 _) (ci := 12) (q0 := 0) rfl rfl (zW_0 tA K ad g) rfl rfl hl.1 (Nat.le_of_ble_eq_true rfl) dL_subscribers_1 (by show _ + 0 ≤ 2000 ∧ _ + 0 ≤ 12000; omega) ?_
  intro n_ g1_0 H locs hp9 hP hD hS
  have q1 := hp9.2
  try rw [hr.2.1] at q1
  have hr := RDO_trans hr hp9.1
  clear hp9
  refine lv_istore_n (lv' := [(1, .int (iI n_)), (0, .ref (ad 0))]) hx hb dL_subscribers_4 rfl hl (by decide) rfl (fun ls hl => ?_)
  refine zz_iconst hx hb dL_subscribers_5 ?_
  refine lv_istore_n (lv' := [(2, .int (iI 0)), (1, .int (iI n_)), (0, .ref (ad 0))]) hx hb dL_subscribers_6 rfl hl (by decide) rfl (fun ls hl => ?_)
  refine zz_iconst hx hb dL_subscribers_7 ?_
  refine lv_istore_n (lv' := [(3, .int (iI 0)), (2, .int (iI 0)), (1, .int (iI n_)), (0, .ref (ad 0))]) hx hb dL_subscribers_8 rfl hl (by decide) rfl (fun ls hl => ?_)
  refine zz_iconst hx hb dL_subscribers_9 ?_
  refine lv_istore (lv' := [(4, .int (iI 0)), (3, .int (iI 0)), (2, .int (iI 0)), (1, .int (iI n_)), (0, .ref (ad 0))]) hx hb dL_subscribers_10 hl (by decide) rfl (fun ls hl => ?_)
  refine zz_iconst hx hb dL_subscribers_12 ?_
  refine lv_istore (lv' := [(5, .int (iI 0)), (4, .int (iI 0)), (3, .int (iI 0)), (2, .int (iI 0)), (1, .int (iI n_)), (0, .ref (ad 0))]) hx hb dL_subscribers_13 hl (by decide) rfl (fun ls hl => ?_)
  refine zz_iconst hx hb dL_subscribers_15 ?_
  refine lv_istore (lv' := [(6, .int (iI 0)), (5, .int (iI 0)), (4, .int (iI 0)), (3, .int (iI 0)), (2, .int (iI 0)), (1, .int (iI n_)), (0, .ref (ad 0))]) hx hb dL_subscribers_16 hl (by decide) rfl (fun ls hl => ?_)
  refine zz_iconst hx hb dL_subscribers_18 ?_
  refine lv_istore (lv' := [(7, .int (iI 0)), (6, .int (iI 0)), (5, .int (iI 0)), (4, .int (iI 0)), (3, .int (iI 0)), (2, .int (iI 0)), (1, .int (iI n_)), (0, .ref (ad 0))]) hx hb dL_subscribers_19 hl (by decide) rfl (fun ls hl => ?_)
  have L21 : ∀ (f9 : Nat) (k_ : Int) (da_ : Int) (li_ : Int) (mn_ : Int) (mo_ : Int) (al_ : Int) (g21 : GL) (k9 : Nat) (n9 : Nat) (H : Heap) (locs : List Loc) (ls : Array Slot), (RDO B N g g21) → (0 ≤ k_ ∧ k_ ≤ GL_v g 7 0) → (al_ = sm (shA5 tp nd) k_.toNat) → (GrK tp nd k_ mo_) → (mn_ = sm (GL_v g 10) k_.toNat) → (li_ = sm (GL_v g 11) k_.toNat) → (da_ = sm (GL_v g 12) k_.toNat) → (((k9 : Nat) : Int) ≤ 300 * k_ ∧ ((n9 : Nat) : Int) ≤ 6 * (300 * k_)) → (GL_v g 7 0 - k_).toNat < f9 → va_P D vwCl [zW tA K ad g21].flatten H → va_D A [zW tA K ad g21].flatten → va_S A s.heap H locs → lv_has ls 13 [(7, .int (iI k_)), (6, .int (iI da_)), (5, .int (iI li_)), (4, .int (iI mn_)), (3, .int (iI mo_)), (2, .int (iI al_)), (1, .int (iI n_)), (0, .ref (ad 0))] → W p l e (headSpec (wsL_subscribers ++ xL) ({ frames := 10, cells := 2000, slots := 12000, locals := 179 })).room s m args below meth c H locs k9 n9 Q (F0 m 21 ls []) := by
    intro f9
    induction f9 with
    | zero => intro k_ da_ li_ mn_ mo_ al_ g21 k9 n9 H locs ls hr hk ha hm hmn hli hda hk9 hmz; exact absurd hmz (Nat.not_lt_zero _)
    | succ f9 ih21 =>
      intro k_ da_ li_ mn_ mo_ al_ g21 k9 n9 H locs ls hr hk ha hm hmn hli hda hk9 hmz hP hD hS hl
      have hm0 := hm.1
      have hm1 := hm.2.1
      refine lv_iload hx hb dL_subscribers_21 (lv_at hl 0 rfl) ?_
      refine lv_iload_n hx hb dL_subscribers_23 rfl (lv_at hl 6 rfl) ?_
      refine zz_icmp_ge (tgt := 366) hx hb dL_subscribers_24 (by decide) (by omega) (by omega) (fun c_24 => ?_) (fun c_24 => ?_)
      · have hkn : k_ = GL_v g 7 0 := by omega
        rw [hkn] at ha hm hmn hli hda
        obtain ⟨hal1, hal2⟩ := all_f hokv hgat hm
        have hal3 := ha.trans hal1
        have hp10 := sm_pos (f := GL_v g 10) (n := (GL_v g 7 0).toNat) (fun j j0 j1 => (hmo j j0 (by omega)).1)
        have hp11 := sm_bd (f := GL_v g 11) (n := (GL_v g 7 0).toNat) (b := N) (fun j j0 j1 => (hld j j0 (by omega)).1)
        have hp12 := sm_bd (f := GL_v g 12) (n := (GL_v g 7 0).toNat) (b := N) (fun j j0 j1 => (hld j j0 (by omega)).2)
        have hp13 : sm (GL_v g 11) (GL_v g 7 0).toNat ≤ 600000 ∧ sm (GL_v g 12) (GL_v g 7 0).toNat ≤ 600000 := by
          have h6 := sm_6 (n := (GL_v g 7 0).toNat) (b := N) (by omega) (by omega)
          omega
        have J391 : ∀ (g391 : GL) (k9 : Nat) (n9 : Nat) (H : Heap) (locs : List Loc) (ls : Array Slot), (RDO B N g g391) → (((k9 : Nat) : Int) ≤ 300 * 6 + 2 ∧ ((n9 : Nat) : Int) ≤ 6 * (300 * 6 + 2)) → va_P D vwCl [zW tA K ad g391].flatten H → va_D A [zW tA K ad g391].flatten → va_S A s.heap H locs → lv_has ls 13 [(7, .int (iI 1)), (6, .int (iI da_)), (5, .int (iI li_)), (4, .int (iI mn_)), (3, .int (iI mo_)), (2, .int (iI al_)), (1, .int (iI n_)), (0, .ref (ad 0))] → W p l e (headSpec (wsL_subscribers ++ xL) ({ frames := 10, cells := 2000, slots := 12000, locals := 179 })).room s m args below meth c H locs k9 n9 Q (F0 m 391 ls []) := by
          intro g391 k9 n9 H locs ls hr hk9 hP hD hS hl
          have J424 : ∀ (g424 : GL) (k9 : Nat) (n9 : Nat) (H : Heap) (locs : List Loc) (ls : Array Slot), (RDO B N g g424) → (((k9 : Nat) : Int) ≤ 300 * 6 + 4 ∧ ((n9 : Nat) : Int) ≤ 6 * (300 * 6 + 4)) → va_P D vwCl [zW tA K ad g424].flatten H → va_D A [zW tA K ad g424].flatten → va_S A s.heap H locs → lv_has ls 13 [(8, .int (iI 1)), (7, .int (iI 1)), (6, .int (iI da_)), (5, .int (iI li_)), (4, .int (iI mn_)), (3, .int (iI mo_)), (2, .int (iI al_)), (1, .int (iI n_)), (0, .ref (ad 0))] → W p l e (headSpec (wsL_subscribers ++ xL) ({ frames := 10, cells := 2000, slots := 12000, locals := 179 })).room s m args below meth c H locs k9 n9 Q (F0 m 424 ls []) := by
            intro g424 k9 n9 H locs ls hr hk9 hP hD hS hl
            refine lv_iload hx hb dL_subscribers_424 (lv_at hl 1 rfl) ?_
            refine zz_if_eq (tgt := 486) hx hb dL_subscribers_426 (by decide) (by decide) (fun c_426 => ?_) (fun c_426 => ?_)
            · exact absurd c_426 (by decide)
            · refine lv_iload hx hb dL_subscribers_429 (lv_at hl 0 rfl) ?_
              refine zz_if_eq (tgt := 486) hx hb dL_subscribers_431 (by decide) (by decide) (fun c_431 => ?_) (fun c_431 => ?_)
              · exact absurd c_431 (by decide)
              · refine lv_iload_n hx hb dL_subscribers_434 rfl (lv_at hl 6 rfl) ?_
                refine zz_bipush hx hb dL_subscribers_435 (by decide) ?_
                refine lv_iload_n hx hb dL_subscribers_437 rfl (lv_at hl 5 rfl) ?_
                refine zz_imul hx hb dL_subscribers_438 ?_
                refine lv_iload_n hx hb dL_subscribers_439 rfl (lv_at hl 5 rfl) ?_
                refine zz_imul hx hb dL_subscribers_440 ?_
                refine zz_icmp_ne (tgt := 486) hx hb dL_subscribers_441 (by decide) (by omega) (by omega) (fun c_441 => ?_) (fun c_441 => ?_)
                · exfalso
                  omega
                · refine lv_aload_n hx hb dL_subscribers_444 rfl (lv_at hl 8 rfl) ?_
                  refine lv_iload_n hx hb dL_subscribers_445 rfl (lv_at hl 5 rfl) ?_
                  refine zh_callSi_ch (As := [.ref (ad 0), .int (iI mo_)]) (rest := []) (L := [zW tA K ad g424]) (Lc := [zW tA K ad g424]) (Lr := []) (Lc' := fun (u : GL) => [zW tA K ad u]) (Lf := fun (u : GL) => [zW tA K ad u]) (is := [0]) (isF := [0]) ⟨hx, hb, hml, hown, hts⟩ (q_L_costOf hst hB hr.1 mo_ (by omega)) (vx_cwSW 2 hts (gx_ww gL_subscribers_L_costOf) rfl rfl rfl (by decide +kernel) ⟨Nat.le_of_ble_eq_true rfl, Nat.le_of_ble_eq_true rfl⟩) hK hP hD hS hA hZ (zCut_1 _) (zBack_1 _) rfl rfl hl.1 (Nat.le_of_ble_eq_true rfl) dL_subscribers_446 (by show _ + 1 ≤ 2000 ∧ _ + 6 ≤ 12000; omega) ?_
                  intro z446_3 g446_2 H locs hp9 hP hD hS
                  have q446 := hp9.2
                  try rw [hr.2.1] at q446
                  have hr := RDO_trans hr hp9.1
                  clear hp9
                  have q446 := q446.elim (fun h => absurd ⟨by omega, by omega⟩ h.1) (fun h => h.2)
                  refine lv_iload_n hx hb dL_subscribers_449 rfl (lv_at hl 6 rfl) ?_
                  refine zz_icmp_ne (tgt := 486) hx hb dL_subscribers_450 (by decide) (by omega) (by omega) (fun c_450 => ?_) (fun c_450 => ?_)
                  · exfalso
                    omega
                  · refine lv_aload_n hx hb dL_subscribers_453 rfl (lv_at hl 8 rfl) ?_
                    refine zt_callVi (As := []) (rest := []) (L := [zW tA K ad g446_2]) (Lc := [zW tA K ad g446_2]) (Lr := []) (Lc' := fun (u : GL) => [zW tA K ad u]) (Lf := fun (u : GL) => [zW tA K ad u]) (is := [0]) (isF := [0]) ⟨hx, hb, hml, hown, hts⟩ (q_X10_nextRange hst hB hr.1  ) (cwV 0 hts (goodIn_wid gL_subscribers_X10_nextRange) rfl rfl rfl (by decide +kernel) ⟨Nat.le_of_ble_eq_true rfl, Nat.le_of_ble_eq_true rfl⟩) hK hP hD hS hA hZ (zCut_1 _) (zBack_1 _) (ci := 12) (q0 := 0) rfl rfl (zW_0 tA K ad g446_2) rfl rfl hl.1 (Nat.le_of_ble_eq_true rfl) dL_subscribers_454 (by show _ + 0 ≤ 2000 ∧ _ + 0 ≤ 12000; omega) ?_
                    intro z454_5 g454_4 H locs hp9 hP hD hS
                    have q454 := hp9.2
                    try rw [hr.2.1] at q454
                    have hr := RDO_trans hr hp9.1
                    clear hp9
                    have q454 := next_le hokv hgat hm q454
                    refine lv_iload_n hx hb dL_subscribers_457 rfl (lv_at hl 5 rfl) ?_
                    refine zz_icmp_gt (tgt := 486) hx hb dL_subscribers_458 (by decide) (by omega) (by omega) (fun c_458 => ?_) (fun c_458 => ?_)
                    · exfalso
                      omega
                    · refine lv_aload_n hx hb dL_subscribers_461 rfl (lv_at hl 8 rfl) ?_
                      refine zz_bipush hx hb dL_subscribers_462 (by decide) ?_
                      refine zh_callSi_ch (As := [.ref (ad 0), .int (iI 21)]) (rest := []) (L := [zW tA K ad g454_4]) (Lc := [zW tA K ad g454_4]) (Lr := []) (Lc' := fun (u : GL) => [zW tA K ad u]) (Lf := fun (u : GL) => [zW tA K ad u]) (is := [0]) (isF := [0]) ⟨hx, hb, hml, hown, hts⟩ (q_L_costOf hst hB hr.1 21 (by decide)) (vx_cwSW 2 hts (gx_ww gL_subscribers_L_costOf) rfl rfl rfl (by decide +kernel) ⟨Nat.le_of_ble_eq_true rfl, Nat.le_of_ble_eq_true rfl⟩) hK hP hD hS hA hZ (zCut_1 _) (zBack_1 _) rfl rfl hl.1 (Nat.le_of_ble_eq_true rfl) dL_subscribers_464 (by show _ + 1 ≤ 2000 ∧ _ + 6 ≤ 12000; omega) ?_
                      intro z464_7 g464_6 H locs hp9 hP hD hS
                      have q464 := hp9.2
                      try rw [hr.2.1] at q464
                      have hr := RDO_trans hr hp9.1
                      clear hp9
                      have q464 := q464.elim (fun h => h.2) (fun h => absurd h.1 (by omega))
                      refine zz_bipush hx hb dL_subscribers_467 (by decide) ?_
                      refine zz_icmp_ne (tgt := 486) hx hb dL_subscribers_469 (by decide) (by omega) (by decide) (fun c_469 => ?_) (fun c_469 => ?_)
                      · exfalso
                        omega
                      · refine lv_aload_n hx hb dL_subscribers_472 rfl (lv_at hl 8 rfl) ?_
                        refine zz_iconst hx hb dL_subscribers_473 ?_
                        refine zh_callSi_ch (As := [.ref (ad 0), .int (iI (-1))]) (rest := []) (L := [zW tA K ad g464_6]) (Lc := [zW tA K ad g464_6]) (Lr := []) (Lc' := fun (u : GL) => [zW tA K ad u]) (Lf := fun (u : GL) => [zW tA K ad u]) (is := [0]) (isF := [0]) ⟨hx, hb, hml, hown, hts⟩ (q_L_costOf hst hB hr.1 (-1) (by decide)) (vx_cwSW 2 hts (gx_ww gL_subscribers_L_costOf) rfl rfl rfl (by decide +kernel) ⟨Nat.le_of_ble_eq_true rfl, Nat.le_of_ble_eq_true rfl⟩) hK hP hD hS hA hZ (zCut_1 _) (zBack_1 _) rfl rfl hl.1 (Nat.le_of_ble_eq_true rfl) dL_subscribers_474 (by show _ + 1 ≤ 2000 ∧ _ + 6 ≤ 12000; omega) ?_
                        intro z474_9 g474_8 H locs hp9 hP hD hS
                        have q474 := hp9.2
                        try rw [hr.2.1] at q474
                        have hr := RDO_trans hr hp9.1
                        clear hp9
                        have q474 := q474.elim (fun h => h.2) (fun h => absurd h.1 (by omega))
                        refine zz_bipush hx hb dL_subscribers_477 (by decide) ?_
                        refine zz_icmp_ne (tgt := 486) hx hb dL_subscribers_479 (by decide) (by omega) (by decide) (fun c_479 => ?_) (fun c_479 => ?_)
                        · exfalso
                          omega
                        · refine zz_iconst hx hb dL_subscribers_482 ?_
                          refine lv_goto (tgt := 487) hx hb dL_subscribers_483 (by decide) ?_
                          refine lv_istore (lv' := [(9, .int (iI 1)), (8, .int (iI 1)), (7, .int (iI 1)), (6, .int (iI da_)), (5, .int (iI li_)), (4, .int (iI mn_)), (3, .int (iI mo_)), (2, .int (iI al_)), (1, .int (iI n_)), (0, .ref (ad 0))]) hx hb dL_subscribers_487 hl (by decide) rfl (fun ls hl => ?_)
                          refine lv_iload hx hb dL_subscribers_489 (lv_at hl 0 rfl) ?_
                          refine zz_if_eq (tgt := 598) hx hb dL_subscribers_491 (by decide) (by decide) (fun c_491 => ?_) (fun c_491 => ?_)
                          · exact absurd c_491 (by decide)
                          · refine lv_aload_n hx hb dL_subscribers_494 rfl (lv_at hl 9 rfl) ?_
                            refine lv_iload_n hx hb dL_subscribers_495 rfl (lv_at hl 8 rfl) ?_
                            refine zh_callSi_ch (As := [.ref (ad 0), .int (iI n_)]) (rest := []) (L := [zW tA K ad g474_8]) (Lc := [zW tA K ad g474_8]) (Lr := []) (Lc' := fun (u : GL) => [zW tA K ad u]) (Lf := fun (u : GL) => [zW tA K ad u]) (is := [0]) (isF := [0]) ⟨hx, hb, hml, hown, hts⟩ (q_L_byDark hst hB hr.1 n_ (by omega)) (vx_cwSW 2 hts (gx_ww gL_subscribers_L_byDark) rfl rfl rfl (by decide +kernel) ⟨Nat.le_of_ble_eq_true rfl, Nat.le_of_ble_eq_true rfl⟩) hK hP hD hS hA hZ (zCut_1 _) (zBack_1 _) rfl rfl hl.1 (Nat.le_of_ble_eq_true rfl) dL_subscribers_496 (by show _ + 1 ≤ 2000 ∧ _ + 6 ≤ 12000; omega) ?_
                            intro z496_11 g496_10 H locs hp9 hP hD hS
                            have q496 := hp9.2
                            try rw [hr.2.1] at q496
                            have hr := RDO_trans hr hp9.1
                            clear hp9
                            have q496 := drk_o (by omega) q496
                            refine zz_bipush hx hb dL_subscribers_499 (by decide) ?_
                            refine zz_icmp_ne (tgt := 598) hx hb dL_subscribers_501 (by decide) (by omega) (by decide) (fun c_501 => ?_) (fun c_501 => ?_)
                            · exfalso
                              omega
                            · refine lv_aload_n hx hb dL_subscribers_504 rfl (lv_at hl 9 rfl) ?_
                              refine lv_iload_n hx hb dL_subscribers_505 rfl (lv_at hl 8 rfl) ?_
                              refine zh_callSi_ch (As := [.ref (ad 0), .int (iI n_)]) (rest := []) (L := [zW tA K ad g496_10]) (Lc := [zW tA K ad g496_10]) (Lr := []) (Lc' := fun (u : GL) => [zW tA K ad u]) (Lf := fun (u : GL) => [zW tA K ad u]) (is := [0]) (isF := [0]) ⟨hx, hb, hml, hown, hts⟩ (q_L_startOf hst hB hr.1 n_ (by omega)) (vx_cwSW 2 hts (gx_ww gL_subscribers_L_startOf) rfl rfl rfl (by decide +kernel) ⟨Nat.le_of_ble_eq_true rfl, Nat.le_of_ble_eq_true rfl⟩) hK hP hD hS hA hZ (zCut_1 _) (zBack_1 _) rfl rfl hl.1 (Nat.le_of_ble_eq_true rfl) dL_subscribers_506 (by show _ + 1 ≤ 2000 ∧ _ + 6 ≤ 12000; omega) ?_
                              intro z506_13 g506_12 H locs hp9 hP hD hS
                              have q506 := hp9.2
                              try rw [hr.2.1] at q506
                              have hr := RDO_trans hr hp9.1
                              clear hp9
                              have q506 := wSub_o (by omega) q506
                              refine zz_bipush hx hb dL_subscribers_509 (by decide) ?_
                              refine zz_icmp_ne (tgt := 598) hx hb dL_subscribers_511 (by decide) (by omega) (by decide) (fun c_511 => ?_) (fun c_511 => ?_)
                              · exfalso
                                omega
                              · refine lv_aload_n hx hb dL_subscribers_514 rfl (lv_at hl 9 rfl) ?_
                                refine lv_iload_n hx hb dL_subscribers_515 rfl (lv_at hl 8 rfl) ?_
                                refine zh_callSi_ch (As := [.ref (ad 0), .int (iI n_)]) (rest := []) (L := [zW tA K ad g506_12]) (Lc := [zW tA K ad g506_12]) (Lr := []) (Lc' := fun (u : GL) => [zW tA K ad u]) (Lf := fun (u : GL) => [zW tA K ad u]) (is := [0]) (isF := [0]) ⟨hx, hb, hml, hown, hts⟩ (q_L_goalOf hst hB hr.1 n_ (by omega)) (vx_cwSW 2 hts (gx_ww gL_subscribers_L_goalOf) rfl rfl rfl (by decide +kernel) ⟨Nat.le_of_ble_eq_true rfl, Nat.le_of_ble_eq_true rfl⟩) hK hP hD hS hA hZ (zCut_1 _) (zBack_1 _) rfl rfl hl.1 (Nat.le_of_ble_eq_true rfl) dL_subscribers_516 (by show _ + 1 ≤ 2000 ∧ _ + 6 ≤ 12000; omega) ?_
                                intro z516_15 g516_14 H locs hp9 hP hD hS
                                have q516 := hp9.2
                                try rw [hr.2.1] at q516
                                have hr := RDO_trans hr hp9.1
                                clear hp9
                                have q516 := wSub_o (by omega) q516
                                refine zz_bipush hx hb dL_subscribers_519 (by decide) ?_
                                refine zz_icmp_ne (tgt := 598) hx hb dL_subscribers_521 (by decide) (by omega) (by decide) (fun c_521 => ?_) (fun c_521 => ?_)
                                · exfalso
                                  omega
                                · refine lv_aload_n hx hb dL_subscribers_524 rfl (lv_at hl 9 rfl) ?_
                                  refine lv_iload_n hx hb dL_subscribers_525 rfl (lv_at hl 8 rfl) ?_
                                  refine zh_callSi_ch (As := [.ref (ad 0), .int (iI n_)]) (rest := []) (L := [zW tA K ad g516_14]) (Lc := [zW tA K ad g516_14]) (Lr := []) (Lc' := fun (u : GL) => [zW tA K ad u]) (Lf := fun (u : GL) => [zW tA K ad u]) (is := [0]) (isF := [0]) ⟨hx, hb, hml, hown, hts⟩ (q_L_moneyOf hst hB hr.1 n_ (by omega)) (vx_cwSW 2 hts (gx_ww gL_subscribers_L_moneyOf) rfl rfl rfl (by decide +kernel) ⟨Nat.le_of_ble_eq_true rfl, Nat.le_of_ble_eq_true rfl⟩) hK hP hD hS hA hZ (zCut_1 _) (zBack_1 _) rfl rfl hl.1 (Nat.le_of_ble_eq_true rfl) dL_subscribers_526 (by show _ + 1 ≤ 2000 ∧ _ + 6 ≤ 12000; omega) ?_
                                  intro z526_17 g526_16 H locs hp9 hP hD hS
                                  have q526 := hp9.2
                                  try rw [hr.2.1] at q526
                                  have hr := RDO_trans hr hp9.1
                                  clear hp9
                                  have q526 := wSub_o (by omega) q526
                                  refine zz_bipush hx hb dL_subscribers_529 (by decide) ?_
                                  refine zz_icmp_ne (tgt := 598) hx hb dL_subscribers_531 (by decide) (by omega) (by decide) (fun c_531 => ?_) (fun c_531 => ?_)
                                  · exfalso
                                    omega
                                  · refine lv_aload_n hx hb dL_subscribers_534 rfl (lv_at hl 9 rfl) ?_
                                    refine lv_iload_n hx hb dL_subscribers_535 rfl (lv_at hl 8 rfl) ?_
                                    refine zh_callSi_ch (As := [.ref (ad 0), .int (iI n_)]) (rest := []) (L := [zW tA K ad g526_16]) (Lc := [zW tA K ad g526_16]) (Lr := []) (Lc' := fun (u : GL) => [zW tA K ad u]) (Lf := fun (u : GL) => [zW tA K ad u]) (is := [0]) (isF := [0]) ⟨hx, hb, hml, hown, hts⟩ (q_L_needOf hst hB hr.1 n_ (by omega)) (vx_cwSW 2 hts (gx_ww gL_subscribers_L_needOf) rfl rfl rfl (by decide +kernel) ⟨Nat.le_of_ble_eq_true rfl, Nat.le_of_ble_eq_true rfl⟩) hK hP hD hS hA hZ (zCut_1 _) (zBack_1 _) rfl rfl hl.1 (Nat.le_of_ble_eq_true rfl) dL_subscribers_536 (by show _ + 2 ≤ 2000 ∧ _ + 12 ≤ 12000; omega) ?_
                                    intro z536_19 g536_18 H locs hp9 hP hD hS
                                    have q536 := hp9.2
                                    try rw [hr.2.1] at q536
                                    have hr := RDO_trans hr hp9.1
                                    clear hp9
                                    have q536 := q536.elim (fun h => h.2) (fun h => absurd h.1 (by omega))
                                    refine zz_bipush hx hb dL_subscribers_539 (by decide) ?_
                                    refine zz_icmp_ne (tgt := 598) hx hb dL_subscribers_541 (by decide) (by omega) (by decide) (fun c_541 => ?_) (fun c_541 => ?_)
                                    · exfalso
                                      omega
                                    · refine lv_aload_n hx hb dL_subscribers_544 rfl (lv_at hl 9 rfl) ?_
                                      refine lv_iload_n hx hb dL_subscribers_545 rfl (lv_at hl 8 rfl) ?_
                                      refine zh_callSi_ch (As := [.ref (ad 0), .int (iI n_)]) (rest := []) (L := [zW tA K ad g536_18]) (Lc := [zW tA K ad g536_18]) (Lr := []) (Lc' := fun (u : GL) => [zW tA K ad u]) (Lf := fun (u : GL) => [zW tA K ad u]) (is := [0]) (isF := [0]) ⟨hx, hb, hml, hown, hts⟩ (q_L_litNights hst hB hr.1 n_ (by omega)) (vx_cwSW 2 hts (gx_ww gL_subscribers_L_litNights) rfl rfl rfl (by decide +kernel) ⟨Nat.le_of_ble_eq_true rfl, Nat.le_of_ble_eq_true rfl⟩) hK hP hD hS hA hZ (zCut_1 _) (zBack_1 _) rfl rfl hl.1 (Nat.le_of_ble_eq_true rfl) dL_subscribers_546 (by show _ + 1 ≤ 2000 ∧ _ + 6 ≤ 12000; omega) ?_
                                      intro z546_21 g546_20 H locs hp9 hP hD hS
                                      have q546 := hp9.2
                                      try rw [hr.2.1] at q546
                                      have hr := RDO_trans hr hp9.1
                                      clear hp9
                                      have q546 := wSub_o (by omega) q546
                                      refine zz_bipush hx hb dL_subscribers_549 (by decide) ?_
                                      refine zz_icmp_ne (tgt := 598) hx hb dL_subscribers_551 (by decide) (by omega) (by decide) (fun c_551 => ?_) (fun c_551 => ?_)
                                      · exfalso
                                        omega
                                      · refine lv_aload_n hx hb dL_subscribers_554 rfl (lv_at hl 9 rfl) ?_
                                        refine zz_iconst hx hb dL_subscribers_555 ?_
                                        refine zh_callSi_ch (As := [.ref (ad 0), .int (iI (-1))]) (rest := []) (L := [zW tA K ad g546_20]) (Lc := [zW tA K ad g546_20]) (Lr := []) (Lc' := fun (u : GL) => [zW tA K ad u]) (Lf := fun (u : GL) => [zW tA K ad u]) (is := [0]) (isF := [0]) ⟨hx, hb, hml, hown, hts⟩ (q_L_darkNights hst hB hr.1 (-1) (by decide)) (vx_cwSW 2 hts (gx_ww gL_subscribers_L_darkNights) rfl rfl rfl (by decide +kernel) ⟨Nat.le_of_ble_eq_true rfl, Nat.le_of_ble_eq_true rfl⟩) hK hP hD hS hA hZ (zCut_1 _) (zBack_1 _) rfl rfl hl.1 (Nat.le_of_ble_eq_true rfl) dL_subscribers_556 (by show _ + 1 ≤ 2000 ∧ _ + 6 ≤ 12000; omega) ?_
                                        intro z556_23 g556_22 H locs hp9 hP hD hS
                                        have q556 := hp9.2
                                        try rw [hr.2.1] at q556
                                        have hr := RDO_trans hr hp9.1
                                        clear hp9
                                        have q556 := wSub_o (by omega) q556
                                        refine zz_bipush hx hb dL_subscribers_559 (by decide) ?_
                                        refine zz_icmp_ne (tgt := 598) hx hb dL_subscribers_561 (by decide) (by omega) (by decide) (fun c_561 => ?_) (fun c_561 => ?_)
                                        · exfalso
                                          omega
                                        · refine lv_aload_n hx hb dL_subscribers_564 rfl (lv_at hl 9 rfl) ?_
                                          refine lv_iload_n hx hb dL_subscribers_565 rfl (lv_at hl 8 rfl) ?_
                                          refine zh_callSi_ch (As := [.ref (ad 0), .int (iI n_)]) (rest := []) (L := [zW tA K ad g556_22]) (Lc := [zW tA K ad g556_22]) (Lr := []) (Lc' := fun (u : GL) => [zW tA K ad u]) (Lf := fun (u : GL) => [zW tA K ad u]) (is := [0]) (isF := [0]) ⟨hx, hb, hml, hown, hts⟩ (q_L_shareOf hst hB hr.1 n_ (by omega)) (vx_cwSW 2 hts (gx_ww gL_subscribers_L_shareOf) rfl rfl rfl (by decide +kernel) ⟨Nat.le_of_ble_eq_true rfl, Nat.le_of_ble_eq_true rfl⟩) hK hP hD hS hA hZ (zCut_1 _) (zBack_1 _) rfl rfl hl.1 (Nat.le_of_ble_eq_true rfl) dL_subscribers_566 (by show _ + 2 ≤ 2000 ∧ _ + 12 ≤ 12000; omega) ?_
                                          intro z566_25 g566_24 H locs hp9 hP hD hS
                                          have q566 := hp9.2
                                          try rw [hr.2.1] at q566
                                          have hr := RDO_trans hr hp9.1
                                          clear hp9
                                          have q566 := q566.elim (fun h => h.2) (fun h => absurd h.1 (by omega))
                                          refine zz_bipush hx hb dL_subscribers_569 (by decide) ?_
                                          refine zz_icmp_ne (tgt := 598) hx hb dL_subscribers_571 (by decide) (by omega) (by decide) (fun c_571 => ?_) (fun c_571 => ?_)
                                          · exfalso
                                            omega
                                          · refine lv_aload_n hx hb dL_subscribers_574 rfl (lv_at hl 9 rfl) ?_
                                            refine lv_iload_n hx hb dL_subscribers_575 rfl (lv_at hl 8 rfl) ?_
                                            refine zh_callSi_ch (As := [.ref (ad 0), .int (iI n_)]) (rest := []) (L := [zW tA K ad g566_24]) (Lc := [zW tA K ad g566_24]) (Lr := []) (Lc' := fun (u : GL) => [zW tA K ad u]) (Lf := fun (u : GL) => [zW tA K ad u]) (is := [0]) (isF := [0]) ⟨hx, hb, hml, hown, hts⟩ (q_L_byOrders hst hB hr.1 n_ (by omega)) (vx_cwSW 2 hts (gx_ww gL_subscribers_L_byOrders) rfl rfl rfl (by decide +kernel) ⟨Nat.le_of_ble_eq_true rfl, Nat.le_of_ble_eq_true rfl⟩) hK hP hD hS hA hZ (zCut_1 _) (zBack_1 _) rfl rfl hl.1 (Nat.le_of_ble_eq_true rfl) dL_subscribers_576 (by show _ + 2 ≤ 2000 ∧ _ + 12 ≤ 12000; omega) ?_
                                            intro z576_27 g576_26 H locs hp9 hP hD hS
                                            have q576 := hp9.2
                                            try rw [hr.2.1] at q576
                                            have hr := RDO_trans hr hp9.1
                                            clear hp9
                                            have q576 := q576.elim (fun h => h.2) (fun h => absurd h.1 (by omega))
                                            refine zz_bipush hx hb dL_subscribers_579 (by decide) ?_
                                            refine zz_icmp_ne (tgt := 598) hx hb dL_subscribers_581 (by decide) (by omega) (by decide) (fun c_581 => ?_) (fun c_581 => ?_)
                                            · exfalso
                                              omega
                                            · refine lv_aload_n hx hb dL_subscribers_584 rfl (lv_at hl 9 rfl) ?_
                                              refine lv_iload_n hx hb dL_subscribers_585 rfl (lv_at hl 8 rfl) ?_
                                              refine zh_callSi_ch (As := [.ref (ad 0), .int (iI n_)]) (rest := []) (L := [zW tA K ad g576_26]) (Lc := [zW tA K ad g576_26]) (Lr := []) (Lc' := fun (u : GL) => [zW tA K ad u]) (Lf := fun (u : GL) => [zW tA K ad u]) (is := [0]) (isF := [0]) ⟨hx, hb, hml, hown, hts⟩ (q_L_wouldBeLit hst hB hr.1 n_ (by omega)) (vx_cwSW 2 hts (gx_ww gL_subscribers_L_wouldBeLit) rfl rfl rfl (by decide +kernel) ⟨Nat.le_of_ble_eq_true rfl, Nat.le_of_ble_eq_true rfl⟩) hK hP hD hS hA hZ (zCut_1 _) (zBack_1 _) rfl rfl hl.1 (Nat.le_of_ble_eq_true rfl) dL_subscribers_586 (by show _ + 1 ≤ 2000 ∧ _ + 6 ≤ 12000; omega) ?_
                                              intro z586_29 g586_28 H locs hp9 hP hD hS
                                              have q586 := hp9.2
                                              try rw [hr.2.1] at q586
                                              have hr := RDO_trans hr hp9.1
                                              clear hp9
                                              have q586 := q586.elim (fun h => h.2) (fun h => absurd h.1 (by omega))
                                              refine zz_bipush hx hb dL_subscribers_589 (by decide) ?_
                                              refine zz_icmp_ne (tgt := 598) hx hb dL_subscribers_591 (by decide) (by omega) (by decide) (fun c_591 => ?_) (fun c_591 => ?_)
                                              · exfalso
                                                omega
                                              · refine zz_iconst hx hb dL_subscribers_594 ?_
                                                refine lv_goto (tgt := 599) hx hb dL_subscribers_595 (by decide) ?_
                                                have hfin : (fun (z : Int) (g' : GL) => RDO B N g g' ∧ z = 1) (1 : Int) g586_28 := by
                                                  exact ⟨hr, rfl⟩
                                                exact hret (1) g586_28 H locs _ _ _ _ (by omega) (by omega) dL_subscribers_599 hfin (zP_o hP) (zD_o hD) hS
          refine lv_iload hx hb dL_subscribers_391 (lv_at hl 2 rfl) ?_
          refine lv_iload hx hb dL_subscribers_393 (lv_at hl 1 rfl) ?_
          refine zz_iadd hx hb dL_subscribers_395 ?_
          refine zz_if_eq (tgt := 417) hx hb dL_subscribers_396 (by decide) (by omega) (fun c_396 => ?_) (fun c_396 => ?_)
          · refine zz_iconst hx hb dL_subscribers_417 ?_
            refine lv_goto (tgt := 422) hx hb dL_subscribers_418 (by decide) ?_
            refine lv_istore (lv' := [(8, .int (iI 1)), (7, .int (iI 1)), (6, .int (iI da_)), (5, .int (iI li_)), (4, .int (iI mn_)), (3, .int (iI mo_)), (2, .int (iI al_)), (1, .int (iI n_)), (0, .ref (ad 0))]) hx hb dL_subscribers_422 hl (by decide) rfl (fun ls hl => ?_)
            exact J424 g391 _ _ _ _ _ (by exact hr) (by omega) hP hD hS (lv_sub hl [0, 1, 2, 3, 4, 5, 6, 7, 8] rfl)
          · refine lv_aload_n hx hb dL_subscribers_399 rfl (lv_at hl 7 rfl) ?_
            refine zt_callVf (As := []) (rest := []) (L := [zW tA K ad g391]) (Lc := [zW tA K ad g391]) (Lr := []) (Lc' := fun (u : GL) => [zW tA K ad u]) (Lf := fun (u : GL) => [zW tA K ad u]) (is := [0]) (isF := [0]) ⟨hx, hb, hml, hown, hts⟩ (q_X10_litShare hst hB hr.1   (by rw [hr.2.1, ← hli, ← hda]; omega)) (cwV 0 hts (goodIn_wid gL_subscribers_X10_litShare) rfl rfl rfl (by decide +kernel) ⟨Nat.le_of_ble_eq_true rfl, Nat.le_of_ble_eq_true rfl⟩) hK hP hD hS hA hZ (zCut_1 _) (zBack_1 _) (ci := 12) (q0 := 0) rfl rfl (zW_0 tA K ad g391) rfl rfl hl.1 (Nat.le_of_ble_eq_true rfl) dL_subscribers_400 (by show _ + 1 ≤ 2000 ∧ _ + 6 ≤ 12000; omega) ?_
            intro zshr_ g400_30 H locs hp9 hP hD hS
            have q400 := hp9.2
            try rw [hr.2.1] at q400
            have hr := RDO_trans hr hp9.1
            clear hp9
            refine lv_iload hx hb dL_subscribers_403 (lv_at hl 2 rfl) ?_
            refine zz_i2f hx hb dL_subscribers_405 (by omega) ?_
            refine lv_iload hx hb dL_subscribers_406 (lv_at hl 2 rfl) ?_
            refine lv_iload hx hb dL_subscribers_408 (lv_at hl 1 rfl) ?_
            refine zz_iadd hx hb dL_subscribers_410 ?_
            refine zz_i2f hx hb dL_subscribers_411 (by omega) ?_
            refine zz_fdiv hx hb dL_subscribers_412 ⟨by omega, by omega, by omega⟩ ?_
            have e413 : zshr_ = (fQ li_ (li_ + da_)) := by rw [q400.2, hli, hda]
            subst e413
            refine zz_fcmp hx hb (fQ_cc (by omega) (by omega) (by omega)) dL_subscribers_413 ?_
            refine zz_if_ne (tgt := 421) hx hb dL_subscribers_414 (by decide) (by decide) (fun c_414 => ?_) (fun c_414 => ?_)
            · exact absurd c_414 (by decide)
            · refine zz_iconst hx hb dL_subscribers_417 ?_
              refine lv_goto (tgt := 422) hx hb dL_subscribers_418 (by decide) ?_
              refine lv_istore (lv' := [(8, .int (iI 1)), (7, .int (iI 1)), (6, .int (iI da_)), (5, .int (iI li_)), (4, .int (iI mn_)), (3, .int (iI mo_)), (2, .int (iI al_)), (1, .int (iI n_)), (0, .ref (ad 0))]) hx hb dL_subscribers_422 hl (by decide) rfl (fun ls hl => ?_)
              exact J424 g400_30 _ _ _ _ _ (by exact hr) (by omega) hP hD hS (lv_sub hl [0, 1, 2, 3, 4, 5, 6, 7, 8] rfl)
        refine lv_iload_n hx hb dL_subscribers_366 rfl (lv_at hl 6 rfl) ?_
        refine zz_if_eq (tgt := 384) hx hb dL_subscribers_367 (by decide) (by omega) (fun c_367 => ?_) (fun c_367 => ?_)
        · refine zz_iconst hx hb dL_subscribers_384 ?_
          refine lv_goto (tgt := 389) hx hb dL_subscribers_385 (by decide) ?_
          refine lv_istore (lv' := [(7, .int (iI 1)), (6, .int (iI da_)), (5, .int (iI li_)), (4, .int (iI mn_)), (3, .int (iI mo_)), (2, .int (iI al_)), (1, .int (iI n_)), (0, .ref (ad 0))]) hx hb dL_subscribers_389 hl (by decide) rfl (fun ls hl => ?_)
          exact J391 g21 _ _ _ _ _ (by exact hr) (by omega) hP hD hS (lv_sub hl [0, 1, 2, 3, 4, 5, 6, 7] rfl)
        · refine lv_aload_n hx hb dL_subscribers_370 rfl (lv_at hl 7 rfl) ?_
          refine zt_callVd (As := []) (rest := []) (L := [zW tA K ad g21]) (Lc := [zW tA K ad g21]) (Lr := []) (Lc' := fun (u : GL) => [zW tA K ad u]) (Lf := fun (u : GL) => [zW tA K ad u]) (is := [0]) (isF := [0]) ⟨hx, hb, hml, hown, hts⟩ (q_X10_meanMoney hst hB hr.1   (by rw [hr.2.1]; omega)) (cwV 0 hts (goodIn_wid gL_subscribers_X10_meanMoney) rfl rfl rfl (by decide +kernel) ⟨Nat.le_of_ble_eq_true rfl, Nat.le_of_ble_eq_true rfl⟩) hK hP hD hS hA hZ (zCut_1 _) (zBack_1 _) (ci := 12) (q0 := 0) rfl rfl (zW_0 tA K ad g21) rfl rfl hl.1 (Nat.le_of_ble_eq_true rfl) dL_subscribers_371 (by show _ + 1 ≤ 2000 ∧ _ + 6 ≤ 12000; omega) ?_
          intro zmean_ g371_32 H locs hp9 hP hD hS
          have q371 := hp9.2
          try rw [hr.2.1] at q371
          have hr := RDO_trans hr hp9.1
          clear hp9
          refine lv_iload hx hb dL_subscribers_374 (lv_at hl 3 rfl) ?_
          refine zz_i2d hx hb dL_subscribers_376 (by omega) ?_
          refine lv_iload_n hx hb dL_subscribers_377 rfl (lv_at hl 6 rfl) ?_
          refine zz_i2d hx hb dL_subscribers_378 (by omega) ?_
          refine zz_ddiv hx hb dL_subscribers_379 ⟨by omega, by omega, by omega⟩ ?_
          have e380 : zmean_ = (dQ mn_ n_) := by rw [q371.2, hmn, q1]
          subst e380
          refine zz_dcmp hx hb (dQ_c (by omega) (by omega) (by omega)) dL_subscribers_380 ?_
          refine zz_if_ne (tgt := 388) hx hb dL_subscribers_381 (by decide) (by decide) (fun c_381 => ?_) (fun c_381 => ?_)
          · exact absurd c_381 (by decide)
          · refine zz_iconst hx hb dL_subscribers_384 ?_
            refine lv_goto (tgt := 389) hx hb dL_subscribers_385 (by decide) ?_
            refine lv_istore (lv' := [(7, .int (iI 1)), (6, .int (iI da_)), (5, .int (iI li_)), (4, .int (iI mn_)), (3, .int (iI mo_)), (2, .int (iI al_)), (1, .int (iI n_)), (0, .ref (ad 0))]) hx hb dL_subscribers_389 hl (by decide) rfl (fun ls hl => ?_)
            exact J391 g371_32 _ _ _ _ _ (by exact hr) (by omega) hP hD hS (lv_sub hl [0, 1, 2, 3, 4, 5, 6, 7] rfl)
      · have hs8 := hsp k_ (by omega) (by omega)
        refine lv_aload_n hx hb dL_subscribers_27 rfl (lv_at hl 7 rfl) ?_
        refine lv_aload_n hx hb dL_subscribers_28 rfl (lv_at hl 7 rfl) ?_
        refine lv_iload hx hb dL_subscribers_29 (lv_at hl 0 rfl) ?_
        refine zh_callSi_ch (As := [.ref (ad 0), .int (iI k_)]) (rest := [.ref (ad 0)]) (L := [zW tA K ad g21]) (Lc := [zW tA K ad g21]) (Lr := []) (Lc' := fun (u : GL) => [zW tA K ad u]) (Lf := fun (u : GL) => [zW tA K ad u]) (is := [0]) (isF := [0]) ⟨hx, hb, hml, hown, hts⟩ (q_L_startOf hst hB hr.1 k_ (by omega)) (vx_cwSW 2 hts (gx_ww gL_subscribers_L_startOf) rfl rfl rfl (by decide +kernel) ⟨Nat.le_of_ble_eq_true rfl, Nat.le_of_ble_eq_true rfl⟩) hK hP hD hS hA hZ (zCut_1 _) (zBack_1 _) rfl rfl hl.1 (Nat.le_of_ble_eq_true rfl) dL_subscribers_31 (by show _ + 1 ≤ 2000 ∧ _ + 6 ≤ 12000; omega) ?_
        intro z31_35 g31_34 H locs hp9 hP hD hS
        have q31 := hp9.2
        try rw [hr.2.1] at q31
        have hr := RDO_trans hr hp9.1
        clear hp9
        have q31 := wSub_v ⟨by omega, by omega⟩ q31
        refine lv_aload_n hx hb dL_subscribers_34 rfl (lv_at hl 7 rfl) ?_
        refine lv_iload hx hb dL_subscribers_35 (lv_at hl 0 rfl) ?_
        refine zh_callSi_ch (As := [.ref (ad 0), .int (iI k_)]) (rest := [.int (iI z31_35), .ref (ad 0)]) (L := [zW tA K ad g31_34]) (Lc := [zW tA K ad g31_34]) (Lr := []) (Lc' := fun (u : GL) => [zW tA K ad u]) (Lf := fun (u : GL) => [zW tA K ad u]) (is := [0]) (isF := [0]) ⟨hx, hb, hml, hown, hts⟩ (q_L_goalOf hst hB hr.1 k_ (by omega)) (vx_cwSW 2 hts (gx_ww gL_subscribers_L_goalOf) rfl rfl rfl (by decide +kernel) ⟨Nat.le_of_ble_eq_true rfl, Nat.le_of_ble_eq_true rfl⟩) hK hP hD hS hA hZ (zCut_1 _) (zBack_1 _) rfl rfl hl.1 (Nat.le_of_ble_eq_true rfl) dL_subscribers_37 (by show _ + 1 ≤ 2000 ∧ _ + 6 ≤ 12000; omega) ?_
        intro z37_37 g37_36 H locs hp9 hP hD hS
        have q37 := hp9.2
        try rw [hr.2.1] at q37
        have hr := RDO_trans hr hp9.1
        clear hp9
        have q37 := wSub_v ⟨by omega, by omega⟩ q37
        refine zh_callSi_ch (As := [.ref (ad 0), .int (iI z31_35), .int (iI z37_37)]) (rest := []) (L := [zW tA K ad g37_36]) (Lc := [zW tA K ad g37_36]) (Lr := []) (Lc' := fun (u : GL) => [zW tA K ad u]) (Lf := fun (u : GL) => [zW tA K ad u]) (is := [0]) (isF := [0]) ⟨hx, hb, hml, hown, hts⟩ (q_L_needed hst hB hr.1 z31_35 z37_37 (by omega) (by omega)) (vx_cwSW 3 hts (gx_ww gL_subscribers_L_needed) rfl rfl rfl (by decide +kernel) ⟨Nat.le_of_ble_eq_true rfl, Nat.le_of_ble_eq_true rfl⟩) hK hP hD hS hA hZ (zCut_1 _) (zBack_1 _) rfl rfl hl.1 (Nat.le_of_ble_eq_true rfl) dL_subscribers_40 (by show _ + 3 ≤ 2000 ∧ _ + 18 ≤ 12000; omega) ?_
        intro need_ g40_38 H locs hp9 hP hD hS
        have q40 := hp9.2
        try rw [hr.2.1] at q40
        have hr := RDO_trans hr hp9.1
        clear hp9
        rw [q31, q37] at q40
        have q40 := wNeed_v hokv hgat ⟨by omega, by omega⟩ q40
        have hnf := noF_f hokv hgat (k := k_) ⟨by omega, by omega⟩
        have fsj0 := shJ5_f hokv hgat (k := k_) ⟨by omega, by omega⟩
        have fsj := fsj0.2.2
        refine lv_istore (lv' := [(8, .int (iI need_)), (7, .int (iI k_)), (6, .int (iI da_)), (5, .int (iI li_)), (4, .int (iI mn_)), (3, .int (iI mo_)), (2, .int (iI al_)), (1, .int (iI n_)), (0, .ref (ad 0))]) hx hb dL_subscribers_43 hl (by decide) rfl (fun ls hl => ?_)
        have J146 : ∀ (sj_ : Int) (g146 : GL) (k9 : Nat) (n9 : Nat) (H : Heap) (locs : List Loc) (ls : Array Slot), (RDO B N g g146) → (sj_ = shJ5 tp nd k_) → (((k9 : Nat) : Int) ≤ 300 * k_ + 5 + 240 ∧ ((n9 : Nat) : Int) ≤ 6 * (300 * k_ + 5 + 240)) → va_P D vwCl [zW tA K ad g146].flatten H → va_D A [zW tA K ad g146].flatten → va_S A s.heap H locs → lv_has ls 13 [(9, .int (iI sj_)), (8, .int (iI need_)), (7, .int (iI k_)), (6, .int (iI da_)), (5, .int (iI li_)), (4, .int (iI mn_)), (3, .int (iI mo_)), (2, .int (iI al_)), (1, .int (iI n_)), (0, .ref (ad 0))] → W p l e (headSpec (wsL_subscribers ++ xL) ({ frames := 10, cells := 2000, slots := 12000, locals := 179 })).room s m args below meth c H locs k9 n9 Q (F0 m 146 ls []) := by
          intro sj_ g146 k9 n9 H locs ls hr hsj hk9 hP hD hS hl
          refine lv_aload_n hx hb dL_subscribers_146 rfl (lv_at hl 9 rfl) ?_
          refine lv_iload hx hb dL_subscribers_147 (lv_at hl 2 rfl) ?_
          refine zh_callSi_ch (As := [.ref (ad 0), .int (iI k_)]) (rest := []) (L := [zW tA K ad g146]) (Lc := [zW tA K ad g146]) (Lr := []) (Lc' := fun (u : GL) => [zW tA K ad u]) (Lf := fun (u : GL) => [zW tA K ad u]) (is := [0]) (isF := [0]) ⟨hx, hb, hml, hown, hts⟩ (q_L_needOf hst hB hr.1 k_ (by omega)) (vx_cwSW 2 hts (gx_ww gL_subscribers_L_needOf) rfl rfl rfl (by decide +kernel) ⟨Nat.le_of_ble_eq_true rfl, Nat.le_of_ble_eq_true rfl⟩) hK hP hD hS hA hZ (zCut_1 _) (zBack_1 _) rfl rfl hl.1 (Nat.le_of_ble_eq_true rfl) dL_subscribers_149 (by show _ + 2 ≤ 2000 ∧ _ + 12 ≤ 12000; omega) ?_
          intro z149_41 g149_40 H locs hp9 hP hD hS
          have q149 := hp9.2
          try rw [hr.2.1] at q149
          have hr := RDO_trans hr hp9.1
          clear hp9
          have q149 := wNof_v hokv hgat ⟨by omega, by omega⟩ q149
          refine lv_iload hx hb dL_subscribers_152 (lv_at hl 1 rfl) ?_
          refine zz_icmp_ne (tgt := 214) hx hb dL_subscribers_154 (by decide) (by omega) (by omega) (fun c_154 => ?_) (fun c_154 => ?_)
          · exfalso
            omega
          · refine lv_aload_n hx hb dL_subscribers_157 rfl (lv_at hl 9 rfl) ?_
            refine lv_iload hx hb dL_subscribers_158 (lv_at hl 2 rfl) ?_
            refine zh_callSi_ch (As := [.ref (ad 0), .int (iI k_)]) (rest := []) (L := [zW tA K ad g149_40]) (Lc := [zW tA K ad g149_40]) (Lr := []) (Lc' := fun (u : GL) => [zW tA K ad u]) (Lf := fun (u : GL) => [zW tA K ad u]) (is := [0]) (isF := [0]) ⟨hx, hb, hml, hown, hts⟩ (q_L_shareOf hst hB hr.1 k_ (by omega)) (vx_cwSW 2 hts (gx_ww gL_subscribers_L_shareOf) rfl rfl rfl (by decide +kernel) ⟨Nat.le_of_ble_eq_true rfl, Nat.le_of_ble_eq_true rfl⟩) hK hP hD hS hA hZ (zCut_1 _) (zBack_1 _) rfl rfl hl.1 (Nat.le_of_ble_eq_true rfl) dL_subscribers_160 (by show _ + 2 ≤ 2000 ∧ _ + 12 ≤ 12000; omega) ?_
            intro z160_43 g160_42 H locs hp9 hP hD hS
            have q160 := hp9.2
            try rw [hr.2.1] at q160
            have hr := RDO_trans hr hp9.1
            clear hp9
            have q160 := wShr_v hgat ⟨by omega, by omega⟩ q160
            refine lv_iload hx hb dL_subscribers_163 (lv_at hl 0 rfl) ?_
            refine zz_icmp_ne (tgt := 214) hx hb dL_subscribers_165 (by decide) (by omega) (by omega) (fun c_165 => ?_) (fun c_165 => ?_)
            · exfalso
              omega
            · refine lv_aload_n hx hb dL_subscribers_168 rfl (lv_at hl 9 rfl) ?_
              refine lv_iload hx hb dL_subscribers_169 (lv_at hl 2 rfl) ?_
              refine zh_callSi_ch (As := [.ref (ad 0), .int (iI k_)]) (rest := []) (L := [zW tA K ad g160_42]) (Lc := [zW tA K ad g160_42]) (Lr := []) (Lc' := fun (u : GL) => [zW tA K ad u]) (Lf := fun (u : GL) => [zW tA K ad u]) (is := [0]) (isF := [0]) ⟨hx, hb, hml, hown, hts⟩ (q_L_byOrders hst hB hr.1 k_ (by omega)) (vx_cwSW 2 hts (gx_ww gL_subscribers_L_byOrders) rfl rfl rfl (by decide +kernel) ⟨Nat.le_of_ble_eq_true rfl, Nat.le_of_ble_eq_true rfl⟩) hK hP hD hS hA hZ (zCut_1 _) (zBack_1 _) rfl rfl hl.1 (Nat.le_of_ble_eq_true rfl) dL_subscribers_171 (by show _ + 2 ≤ 2000 ∧ _ + 12 ≤ 12000; omega) ?_
              intro z171_45 g171_44 H locs hp9 hP hD hS
              have q171 := hp9.2
              try rw [hr.2.1] at q171
              have hr := RDO_trans hr hp9.1
              clear hp9
              have q171 := wShr_v hgat ⟨by omega, by omega⟩ q171
              refine lv_iload hx hb dL_subscribers_174 (lv_at hl 0 rfl) ?_
              refine zz_icmp_ne (tgt := 214) hx hb dL_subscribers_176 (by decide) (by omega) (by omega) (fun c_176 => ?_) (fun c_176 => ?_)
              · exfalso
                omega
              · refine lv_aload_n hx hb dL_subscribers_179 rfl (lv_at hl 9 rfl) ?_
                refine lv_iload hx hb dL_subscribers_180 (lv_at hl 2 rfl) ?_
                refine zh_callSi_ch (As := [.ref (ad 0), .int (iI k_)]) (rest := []) (L := [zW tA K ad g171_44]) (Lc := [zW tA K ad g171_44]) (Lr := []) (Lc' := fun (u : GL) => [zW tA K ad u]) (Lf := fun (u : GL) => [zW tA K ad u]) (is := [0]) (isF := [0]) ⟨hx, hb, hml, hown, hts⟩ (q_L_moneyOf hst hB hr.1 k_ (by omega)) (vx_cwSW 2 hts (gx_ww gL_subscribers_L_moneyOf) rfl rfl rfl (by decide +kernel) ⟨Nat.le_of_ble_eq_true rfl, Nat.le_of_ble_eq_true rfl⟩) hK hP hD hS hA hZ (zCut_1 _) (zBack_1 _) rfl rfl hl.1 (Nat.le_of_ble_eq_true rfl) dL_subscribers_182 (by show _ + 1 ≤ 2000 ∧ _ + 6 ≤ 12000; omega) ?_
                intro z182_47 g182_46 H locs hp9 hP hD hS
                have q182 := hp9.2
                try rw [hr.2.1] at q182
                have hr := RDO_trans hr hp9.1
                clear hp9
                have q182 := wSub_v ⟨by omega, by omega⟩ q182
                have hm9 := hmo k_ (by omega) (by omega)
                refine zz_if_lt (tgt := 214) hx hb dL_subscribers_185 (by decide) (by omega) (fun c_185 => ?_) (fun c_185 => ?_)
                · exfalso
                  omega
                · have J216 : ∀ (g216 : GL) (k9 : Nat) (n9 : Nat) (H : Heap) (locs : List Loc) (ls : Array Slot), (RDO B N g g216) → (((k9 : Nat) : Int) ≤ 300 * k_ + 5 + 240 + 15 ∧ ((n9 : Nat) : Int) ≤ 6 * (300 * k_ + 5 + 240 + 15)) → va_P D vwCl [zW tA K ad g216].flatten H → va_D A [zW tA K ad g216].flatten → va_S A s.heap H locs → lv_has ls 13 [(9, .int (iI sj_)), (8, .int (iI need_)), (7, .int (iI k_)), (6, .int (iI da_)), (5, .int (iI li_)), (4, .int (iI mn_)), (3, .int (iI mo_)), (2, .int (iI al_)), (1, .int (iI n_)), (0, .ref (ad 0))] → W p l e (headSpec (wsL_subscribers ++ xL) ({ frames := 10, cells := 2000, slots := 12000, locals := 179 })).room s m args below meth c H locs k9 n9 Q (F0 m 216 ls []) := by
                    intro g216 k9 n9 H locs ls hr hk9 hP hD hS hl
                    refine lv_iload_n hx hb dL_subscribers_216 rfl (lv_at hl 7 rfl) ?_
                    refine zz_iconst hx hb dL_subscribers_217 ?_
                    refine lv_iload hx hb dL_subscribers_218 (lv_at hl 0 rfl) ?_
                    refine zz_mmax hx hb (by rw [hml]; exact hl.1.symm) hown l_283 ls_283 li_283 lc_283 (Nat.le_of_ble_eq_true rfl) (Nat.le_of_ble_eq_true rfl) (by show _ ≤ 2000; omega) (by show _ ≤ 12000; omega) (by decide) (by omega) dL_subscribers_220 ?_
                    refine zz_iadd hx hb dL_subscribers_223 ?_
                    refine lv_istore_n (lv' := [(2, .int (iI (al_ + (max 0 sj_)))), (9, .int (iI sj_)), (8, .int (iI need_)), (7, .int (iI k_)), (6, .int (iI da_)), (5, .int (iI li_)), (4, .int (iI mn_)), (3, .int (iI mo_)), (1, .int (iI n_)), (0, .ref (ad 0))]) hx hb dL_subscribers_224 rfl hl (by decide) rfl (fun ls hl => ?_)
                    refine lv_iload_n hx hb dL_subscribers_225 rfl (lv_at hl 7 rfl) ?_
                    refine lv_iload hx hb dL_subscribers_226 (lv_at hl 2 rfl) ?_
                    refine zz_mmax hx hb (by rw [hml]; exact hl.1.symm) hown l_283 ls_283 li_283 lc_283 (Nat.le_of_ble_eq_true rfl) (Nat.le_of_ble_eq_true rfl) (by show _ ≤ 2000; omega) (by show _ ≤ 12000; omega) (by omega) (by omega) dL_subscribers_228 ?_
                    refine lv_istore_n (lv' := [(3, .int (iI (max mo_ need_))), (2, .int (iI (al_ + (max 0 sj_)))), (9, .int (iI sj_)), (8, .int (iI need_)), (7, .int (iI k_)), (6, .int (iI da_)), (5, .int (iI li_)), (4, .int (iI mn_)), (1, .int (iI n_)), (0, .ref (ad 0))]) hx hb dL_subscribers_231 rfl hl (by decide) rfl (fun ls hl => ?_)
                    refine lv_iload hx hb dL_subscribers_232 (lv_at hl 7 rfl) ?_
                    refine lv_aload_n hx hb dL_subscribers_234 rfl (lv_at hl 9 rfl) ?_
                    refine lv_iload hx hb dL_subscribers_235 (lv_at hl 4 rfl) ?_
                    refine zh_callSi_ch (As := [.ref (ad 0), .int (iI k_)]) (rest := [.int (iI mn_)]) (L := [zW tA K ad g216]) (Lc := [zW tA K ad g216]) (Lr := []) (Lc' := fun (u : GL) => [zW tA K ad u]) (Lf := fun (u : GL) => [zW tA K ad u]) (is := [0]) (isF := [0]) ⟨hx, hb, hml, hown, hts⟩ (q_L_moneyOf hst hB hr.1 k_ (by omega)) (vx_cwSW 2 hts (gx_ww gL_subscribers_L_moneyOf) rfl rfl rfl (by decide +kernel) ⟨Nat.le_of_ble_eq_true rfl, Nat.le_of_ble_eq_true rfl⟩) hK hP hD hS hA hZ (zCut_1 _) (zBack_1 _) rfl rfl hl.1 (Nat.le_of_ble_eq_true rfl) dL_subscribers_237 (by show _ + 1 ≤ 2000 ∧ _ + 6 ≤ 12000; omega) ?_
                    intro z237_49 g237_48 H locs hp9 hP hD hS
                    have q237 := hp9.2
                    try rw [hr.2.1] at q237
                    have hr := RDO_trans hr hp9.1
                    clear hp9
                    have q237 := wSub_v ⟨by omega, by omega⟩ q237
                    refine zz_iadd hx hb dL_subscribers_240 ?_
                    refine lv_istore (lv' := [(4, .int (iI (mn_ + z237_49))), (3, .int (iI (max mo_ need_))), (2, .int (iI (al_ + (max 0 sj_)))), (9, .int (iI sj_)), (8, .int (iI need_)), (7, .int (iI k_)), (6, .int (iI da_)), (5, .int (iI li_)), (1, .int (iI n_)), (0, .ref (ad 0))]) hx hb dL_subscribers_241 hl (by decide) rfl (fun ls hl => ?_)
                    refine lv_iload hx hb dL_subscribers_243 (lv_at hl 7 rfl) ?_
                    refine lv_aload_n hx hb dL_subscribers_245 rfl (lv_at hl 9 rfl) ?_
                    refine lv_iload hx hb dL_subscribers_246 (lv_at hl 5 rfl) ?_
                    refine zh_callSi_ch (As := [.ref (ad 0), .int (iI k_)]) (rest := [.int (iI li_)]) (L := [zW tA K ad g237_48]) (Lc := [zW tA K ad g237_48]) (Lr := []) (Lc' := fun (u : GL) => [zW tA K ad u]) (Lf := fun (u : GL) => [zW tA K ad u]) (is := [0]) (isF := [0]) ⟨hx, hb, hml, hown, hts⟩ (q_L_litNights hst hB hr.1 k_ (by omega)) (vx_cwSW 2 hts (gx_ww gL_subscribers_L_litNights) rfl rfl rfl (by decide +kernel) ⟨Nat.le_of_ble_eq_true rfl, Nat.le_of_ble_eq_true rfl⟩) hK hP hD hS hA hZ (zCut_1 _) (zBack_1 _) rfl rfl hl.1 (Nat.le_of_ble_eq_true rfl) dL_subscribers_248 (by show _ + 1 ≤ 2000 ∧ _ + 6 ≤ 12000; omega) ?_
                    intro z248_51 g248_50 H locs hp9 hP hD hS
                    have q248 := hp9.2
                    try rw [hr.2.1] at q248
                    have hr := RDO_trans hr hp9.1
                    clear hp9
                    have q248 := wSub_v ⟨by omega, by omega⟩ q248
                    refine zz_iadd hx hb dL_subscribers_251 ?_
                    refine lv_istore (lv' := [(5, .int (iI (li_ + z248_51))), (4, .int (iI (mn_ + z237_49))), (3, .int (iI (max mo_ need_))), (2, .int (iI (al_ + (max 0 sj_)))), (9, .int (iI sj_)), (8, .int (iI need_)), (7, .int (iI k_)), (6, .int (iI da_)), (1, .int (iI n_)), (0, .ref (ad 0))]) hx hb dL_subscribers_252 hl (by decide) rfl (fun ls hl => ?_)
                    refine lv_iload hx hb dL_subscribers_254 (lv_at hl 7 rfl) ?_
                    refine lv_aload_n hx hb dL_subscribers_256 rfl (lv_at hl 9 rfl) ?_
                    refine lv_iload hx hb dL_subscribers_257 (lv_at hl 6 rfl) ?_
                    refine zh_callSi_ch (As := [.ref (ad 0), .int (iI k_)]) (rest := [.int (iI da_)]) (L := [zW tA K ad g248_50]) (Lc := [zW tA K ad g248_50]) (Lr := []) (Lc' := fun (u : GL) => [zW tA K ad u]) (Lf := fun (u : GL) => [zW tA K ad u]) (is := [0]) (isF := [0]) ⟨hx, hb, hml, hown, hts⟩ (q_L_darkNights hst hB hr.1 k_ (by omega)) (vx_cwSW 2 hts (gx_ww gL_subscribers_L_darkNights) rfl rfl rfl (by decide +kernel) ⟨Nat.le_of_ble_eq_true rfl, Nat.le_of_ble_eq_true rfl⟩) hK hP hD hS hA hZ (zCut_1 _) (zBack_1 _) rfl rfl hl.1 (Nat.le_of_ble_eq_true rfl) dL_subscribers_259 (by show _ + 1 ≤ 2000 ∧ _ + 6 ≤ 12000; omega) ?_
                    intro z259_53 g259_52 H locs hp9 hP hD hS
                    have q259 := hp9.2
                    try rw [hr.2.1] at q259
                    have hr := RDO_trans hr hp9.1
                    clear hp9
                    have q259 := wSub_v ⟨by omega, by omega⟩ q259
                    refine zz_iadd hx hb dL_subscribers_262 ?_
                    refine lv_istore (lv' := [(6, .int (iI (da_ + z259_53))), (5, .int (iI (li_ + z248_51))), (4, .int (iI (mn_ + z237_49))), (3, .int (iI (max mo_ need_))), (2, .int (iI (al_ + (max 0 sj_)))), (9, .int (iI sj_)), (8, .int (iI need_)), (7, .int (iI k_)), (1, .int (iI n_)), (0, .ref (ad 0))]) hx hb dL_subscribers_263 hl (by decide) rfl (fun ls hl => ?_)
                    have J338 : ∀ (g338 : GL) (k9 : Nat) (n9 : Nat) (H : Heap) (locs : List Loc) (ls : Array Slot), (RDO B N g g338) → (((k9 : Nat) : Int) ≤ 300 * k_ + 5 + 240 + 25 ∧ ((n9 : Nat) : Int) ≤ 6 * (300 * k_ + 5 + 240 + 25)) → va_P D vwCl [zW tA K ad g338].flatten H → va_D A [zW tA K ad g338].flatten → va_S A s.heap H locs → lv_has ls 13 [(6, .int (iI (da_ + z259_53))), (5, .int (iI (li_ + z248_51))), (4, .int (iI (mn_ + z237_49))), (3, .int (iI (max mo_ need_))), (2, .int (iI (al_ + (max 0 sj_)))), (7, .int (iI k_)), (1, .int (iI n_)), (0, .ref (ad 0))] → W p l e (headSpec (wsL_subscribers ++ xL) ({ frames := 10, cells := 2000, slots := 12000, locals := 179 })).room s m args below meth c H locs k9 n9 Q (F0 m 338 ls []) := by
                      intro g338 k9 n9 H locs ls hr hk9 hP hD hS hl
                      refine lv_aload_n hx hb dL_subscribers_338 rfl (lv_at hl 7 rfl) ?_
                      refine lv_iload hx hb dL_subscribers_339 (lv_at hl 5 rfl) ?_
                      refine zh_callSi_ch (As := [.ref (ad 0), .int (iI k_)]) (rest := []) (L := [zW tA K ad g338]) (Lc := [zW tA K ad g338]) (Lr := []) (Lc' := fun (u : GL) => [zW tA K ad u]) (Lf := fun (u : GL) => [zW tA K ad u]) (is := [0]) (isF := [0]) ⟨hx, hb, hml, hown, hts⟩ (q_L_litNights hst hB hr.1 k_ (by omega)) (vx_cwSW 2 hts (gx_ww gL_subscribers_L_litNights) rfl rfl rfl (by decide +kernel) ⟨Nat.le_of_ble_eq_true rfl, Nat.le_of_ble_eq_true rfl⟩) hK hP hD hS hA hZ (zCut_1 _) (zBack_1 _) rfl rfl hl.1 (Nat.le_of_ble_eq_true rfl) dL_subscribers_341 (by show _ + 1 ≤ 2000 ∧ _ + 6 ≤ 12000; omega) ?_
                      intro z341_55 g341_54 H locs hp9 hP hD hS
                      have q341 := hp9.2
                      try rw [hr.2.1] at q341
                      have hr := RDO_trans hr hp9.1
                      clear hp9
                      have q341 := wSub_v ⟨by omega, by omega⟩ q341
                      have hd6 := hld k_ (by omega) (by omega)
                      refine lv_aload_n hx hb dL_subscribers_344 rfl (lv_at hl 7 rfl) ?_
                      refine lv_iload hx hb dL_subscribers_345 (lv_at hl 5 rfl) ?_
                      refine zh_callSi_ch (As := [.ref (ad 0), .int (iI k_)]) (rest := [.int (iI z341_55)]) (L := [zW tA K ad g341_54]) (Lc := [zW tA K ad g341_54]) (Lr := []) (Lc' := fun (u : GL) => [zW tA K ad u]) (Lf := fun (u : GL) => [zW tA K ad u]) (is := [0]) (isF := [0]) ⟨hx, hb, hml, hown, hts⟩ (q_L_darkNights hst hB hr.1 k_ (by omega)) (vx_cwSW 2 hts (gx_ww gL_subscribers_L_darkNights) rfl rfl rfl (by decide +kernel) ⟨Nat.le_of_ble_eq_true rfl, Nat.le_of_ble_eq_true rfl⟩) hK hP hD hS hA hZ (zCut_1 _) (zBack_1 _) rfl rfl hl.1 (Nat.le_of_ble_eq_true rfl) dL_subscribers_347 (by show _ + 1 ≤ 2000 ∧ _ + 6 ≤ 12000; omega) ?_
                      intro z347_57 g347_56 H locs hp9 hP hD hS
                      have q347 := hp9.2
                      try rw [hr.2.1] at q347
                      have hr := RDO_trans hr hp9.1
                      clear hp9
                      have q347 := wSub_v ⟨by omega, by omega⟩ q347
                      have hnk := hnv.2 k_ (by omega) (by omega)
                      refine zz_iadd hx hb dL_subscribers_350 ?_
                      refine lv_aload_n hx hb dL_subscribers_351 rfl (lv_at hl 7 rfl) ?_
                      refine zt_callVi (As := []) (rest := [.int (iI (z341_55 + z347_57))]) (L := [zW tA K ad g347_56]) (Lc := [zW tA K ad g347_56]) (Lr := []) (Lc' := fun (u : GL) => [zW tA K ad u]) (Lf := fun (u : GL) => [zW tA K ad u]) (is := [0]) (isF := [0]) ⟨hx, hb, hml, hown, hts⟩ (q_X10_nightCount hst hB hr.1  ) (cwV 0 hts (goodIn_wid gL_subscribers_X10_nightCount) rfl rfl rfl (by decide +kernel) ⟨Nat.le_of_ble_eq_true rfl, Nat.le_of_ble_eq_true rfl⟩) hK hP hD hS hA hZ (zCut_1 _) (zBack_1 _) (ci := 12) (q0 := 0) rfl rfl (zW_0 tA K ad g347_56) rfl rfl hl.1 (Nat.le_of_ble_eq_true rfl) dL_subscribers_352 (by show _ + 0 ≤ 2000 ∧ _ + 0 ≤ 12000; omega) ?_
                      intro z352_59 g352_58 H locs hp9 hP hD hS
                      have q352 := hp9.2
                      try rw [hr.2.1] at q352
                      have hr := RDO_trans hr hp9.1
                      clear hp9
                      refine zz_icmp_le (tgt := 360) hx hb dL_subscribers_355 (by decide) (by omega) (by omega) (fun c_355 => ?_) (fun c_355 => ?_)
                      · refine zz_iinc (lv' := [(7, .int (iI (k_ + 1))), (6, .int (iI (da_ + z259_53))), (5, .int (iI (li_ + z248_51))), (4, .int (iI (mn_ + z237_49))), (3, .int (iI (max mo_ need_))), (2, .int (iI (al_ + (max 0 sj_)))), (1, .int (iI n_)), (0, .ref (ad 0))]) hx hb dL_subscribers_360 hl (k := 5) rfl (by decide) rfl (fun ls hl => ?_)
                        refine lv_goto (tgt := 21) hx hb dL_subscribers_363 (by decide) ?_
                        exact ih21 (k_ + 1) (da_ + z259_53) (li_ + z248_51) (mn_ + z237_49) (max mo_ need_) (al_ + (max 0 sj_)) g352_58 _ _ _ _ _ (by exact hr) (by omega) (by rw [sm_s (by omega), ← ha, ← fsj0.1, hsj]) (by rw [q40]; exact GrK_mx hcc.2 ⟨by omega, by omega⟩ hgat hm) (by rw [sm_s (by omega), ← hmn, q237]) (by rw [sm_s (by omega), ← hli, q248]) (by rw [sm_s (by omega), ← hda, q259]) (by omega) (by omega) hP hD hS (lv_sub hl [0, 1, 2, 3, 4, 5, 6, 7] rfl)
                      · exfalso
                        omega
                    refine lv_aload_n hx hb dL_subscribers_265 rfl (lv_at hl 9 rfl) ?_
                    refine lv_iload hx hb dL_subscribers_266 (lv_at hl 7 rfl) ?_
                    refine zh_callSi_ch (As := [.ref (ad 0), .int (iI k_)]) (rest := []) (L := [zW tA K ad g259_52]) (Lc := [zW tA K ad g259_52]) (Lr := []) (Lc' := fun (u : GL) => [zW tA K ad u]) (Lf := fun (u : GL) => [zW tA K ad u]) (is := [0]) (isF := [0]) ⟨hx, hb, hml, hown, hts⟩ (q_L_byDark hst hB hr.1 k_ (by omega)) (vx_cwSW 2 hts (gx_ww gL_subscribers_L_byDark) rfl rfl rfl (by decide +kernel) ⟨Nat.le_of_ble_eq_true rfl, Nat.le_of_ble_eq_true rfl⟩) hK hP hD hS hA hZ (zCut_1 _) (zBack_1 _) rfl rfl hl.1 (Nat.le_of_ble_eq_true rfl) dL_subscribers_268 (by show _ + 1 ≤ 2000 ∧ _ + 6 ≤ 12000; omega) ?_
                    intro is_ g268_60 H locs hp9 hP hD hS
                    have q268 := hp9.2
                    try rw [hr.2.1] at q268
                    have hr := RDO_trans hr hp9.1
                    clear hp9
                    have hb1 := drk_v ⟨by omega, by omega⟩ q268
                    refine lv_istore (lv' := [(10, .int (iI is_)), (6, .int (iI (da_ + z259_53))), (5, .int (iI (li_ + z248_51))), (4, .int (iI (mn_ + z237_49))), (3, .int (iI (max mo_ need_))), (2, .int (iI (al_ + (max 0 sj_)))), (9, .int (iI sj_)), (8, .int (iI need_)), (7, .int (iI k_)), (1, .int (iI n_)), (0, .ref (ad 0))]) hx hb dL_subscribers_271 hl (by decide) rfl (fun ls hl => ?_)
                    refine lv_iload hx hb dL_subscribers_273 (lv_at hl 8 rfl) ?_
                    refine zz_if_ne (tgt := 282) hx hb dL_subscribers_275 (by decide) (by omega) (fun c_275 => ?_) (fun c_275 => ?_)
                    · refine lv_aload_n hx hb dL_subscribers_282 rfl (lv_at hl 10 rfl) ?_
                      refine lv_iload hx hb dL_subscribers_283 (lv_at hl 8 rfl) ?_
                      refine zz_iconst hx hb dL_subscribers_285 ?_
                      refine zz_isub hx hb dL_subscribers_286 ?_
                      refine zh_callSi_ch (As := [.ref (ad 0), .int (iI (k_ - 1))]) (rest := []) (L := [zW tA K ad g268_60]) (Lc := [zW tA K ad g268_60]) (Lr := []) (Lc' := fun (u : GL) => [zW tA K ad u]) (Lf := fun (u : GL) => [zW tA K ad u]) (is := [0]) (isF := [0]) ⟨hx, hb, hml, hown, hts⟩ (q_L_byDark hst hB hr.1 (k_ - 1) (by omega)) (vx_cwSW 2 hts (gx_ww gL_subscribers_L_byDark) rfl rfl rfl (by decide +kernel) ⟨Nat.le_of_ble_eq_true rfl, Nat.le_of_ble_eq_true rfl⟩) hK hP hD hS hA hZ (zCut_1 _) (zBack_1 _) rfl rfl hl.1 (Nat.le_of_ble_eq_true rfl) dL_subscribers_287 (by show _ + 1 ≤ 2000 ∧ _ + 6 ≤ 12000; omega) ?_
                      intro bf_ g287_62 H locs hp9 hP hD hS
                      have q287 := hp9.2
                      try rw [hr.2.1] at q287
                      have hr := RDO_trans hr hp9.1
                      clear hp9
                      have hb2 := drk_v ⟨by omega, by omega⟩ q287
                      have hnx := dkP_next hb2 hb1
                      unfold dkB at hnx
                      refine lv_istore (lv' := [(11, .int (iI bf_)), (10, .int (iI is_)), (6, .int (iI (da_ + z259_53))), (5, .int (iI (li_ + z248_51))), (4, .int (iI (mn_ + z237_49))), (3, .int (iI (max mo_ need_))), (2, .int (iI (al_ + (max 0 sj_)))), (9, .int (iI sj_)), (8, .int (iI need_)), (7, .int (iI k_)), (1, .int (iI n_)), (0, .ref (ad 0))]) hx hb dL_subscribers_290 hl (by decide) rfl (fun ls hl => ?_)
                      refine lv_iload hx hb dL_subscribers_292 (lv_at hl 9 rfl) ?_
                      refine zz_if_ne (tgt := 301) hx hb dL_subscribers_294 (by decide) (by omega) (fun c_294 => ?_) (fun c_294 => ?_)
                      · refine lv_aload_n hx hb dL_subscribers_301 rfl (lv_at hl 11 rfl) ?_
                        refine lv_iload hx hb dL_subscribers_302 (lv_at hl 0 rfl) ?_
                        refine zh_callSi_ch (As := [.ref (ad 0), .int (iI bf_)]) (rest := []) (L := [zW tA K ad g287_62]) (Lc := [zW tA K ad g287_62]) (Lr := []) (Lc' := fun (u : GL) => [zW tA K ad u]) (Lf := fun (u : GL) => [zW tA K ad u]) (is := [0]) (isF := [0]) ⟨hx, hb, hml, hown, hts⟩ (q_L_darkNights hst hB hr.1 bf_ (by omega)) (vx_cwSW 2 hts (gx_ww gL_subscribers_L_darkNights) rfl rfl rfl (by decide +kernel) ⟨Nat.le_of_ble_eq_true rfl, Nat.le_of_ble_eq_true rfl⟩) hK hP hD hS hA hZ (zCut_1 _) (zBack_1 _) rfl rfl hl.1 (Nat.le_of_ble_eq_true rfl) dL_subscribers_304 (by show _ + 1 ≤ 2000 ∧ _ + 6 ≤ 12000; omega) ?_
                        intro z304_65 g304_64 H locs hp9 hP hD hS
                        have q304 := hp9.2
                        try rw [hr.2.1] at q304
                        have hr := RDO_trans hr hp9.1
                        clear hp9
                        have q304 := wSub_v ⟨by omega, by omega⟩ q304
                        have hd4 := hld bf_ (by omega) (by omega)
                        refine lv_aload_n hx hb dL_subscribers_307 rfl (lv_at hl 11 rfl) ?_
                        refine lv_iload hx hb dL_subscribers_308 (lv_at hl 1 rfl) ?_
                        refine zh_callSi_ch (As := [.ref (ad 0), .int (iI is_)]) (rest := [.int (iI z304_65)]) (L := [zW tA K ad g304_64]) (Lc := [zW tA K ad g304_64]) (Lr := []) (Lc' := fun (u : GL) => [zW tA K ad u]) (Lf := fun (u : GL) => [zW tA K ad u]) (is := [0]) (isF := [0]) ⟨hx, hb, hml, hown, hts⟩ (q_L_darkNights hst hB hr.1 is_ (by omega)) (vx_cwSW 2 hts (gx_ww gL_subscribers_L_darkNights) rfl rfl rfl (by decide +kernel) ⟨Nat.le_of_ble_eq_true rfl, Nat.le_of_ble_eq_true rfl⟩) hK hP hD hS hA hZ (zCut_1 _) (zBack_1 _) rfl rfl hl.1 (Nat.le_of_ble_eq_true rfl) dL_subscribers_310 (by show _ + 1 ≤ 2000 ∧ _ + 6 ≤ 12000; omega) ?_
                        intro z310_67 g310_66 H locs hp9 hP hD hS
                        have q310 := hp9.2
                        try rw [hr.2.1] at q310
                        have hr := RDO_trans hr hp9.1
                        clear hp9
                        have q310 := wSub_v ⟨by omega, by omega⟩ q310
                        have hd5 := hld is_ (by omega) (by omega)
                        refine zz_isub hx hb dL_subscribers_313 ?_
                        refine lv_istore (lv' := [(12, .int (iI (z304_65 - z310_67))), (11, .int (iI bf_)), (10, .int (iI is_)), (6, .int (iI (da_ + z259_53))), (5, .int (iI (li_ + z248_51))), (4, .int (iI (mn_ + z237_49))), (3, .int (iI (max mo_ need_))), (2, .int (iI (al_ + (max 0 sj_)))), (9, .int (iI sj_)), (8, .int (iI need_)), (7, .int (iI k_)), (1, .int (iI n_)), (0, .ref (ad 0))]) hx hb dL_subscribers_314 hl (by decide) rfl (fun ls hl => ?_)
                        refine lv_iload hx hb dL_subscribers_316 (lv_at hl 2 rfl) ?_
                        refine zz_if_lt (tgt := 358) hx hb dL_subscribers_318 (by decide) (by omega) (fun c_318 => ?_) (fun c_318 => ?_)
                        · exfalso
                          omega
                        · refine lv_iload hx hb dL_subscribers_321 (lv_at hl 0 rfl) ?_
                          refine zz_if_lt (tgt := 358) hx hb dL_subscribers_323 (by decide) (by omega) (fun c_323 => ?_) (fun c_323 => ?_)
                          · exfalso
                            omega
                          · refine lv_iload hx hb dL_subscribers_326 (lv_at hl 0 rfl) ?_
                            refine zz_if_ne (tgt := 338) hx hb dL_subscribers_328 (by decide) (by omega) (fun c_328 => ?_) (fun c_328 => ?_)
                            · exact J338 g310_66 _ _ _ _ _ (by exact hr) (by omega) hP hD hS (lv_sub hl [3, 4, 5, 6, 7, 10, 11, 12] rfl)
                            · refine lv_iload hx hb dL_subscribers_331 (lv_at hl 1 rfl) ?_
                              refine lv_iload hx hb dL_subscribers_333 (lv_at hl 2 rfl) ?_
                              refine zz_icmp_gt (tgt := 358) hx hb dL_subscribers_335 (by decide) (by omega) (by omega) (fun c_335 => ?_) (fun c_335 => ?_)
                              · exfalso
                                omega
                              · exact J338 g310_66 _ _ _ _ _ (by exact hr) (by omega) hP hD hS (lv_sub hl [3, 4, 5, 6, 7, 10, 11, 12] rfl)
                      · exfalso
                        omega
                    · refine zz_iconst hx hb dL_subscribers_278 ?_
                      refine lv_goto (tgt := 290) hx hb dL_subscribers_279 (by decide) ?_
                      refine lv_istore (lv' := [(11, .int (iI (-1))), (10, .int (iI is_)), (6, .int (iI (da_ + z259_53))), (5, .int (iI (li_ + z248_51))), (4, .int (iI (mn_ + z237_49))), (3, .int (iI (max mo_ need_))), (2, .int (iI (al_ + (max 0 sj_)))), (9, .int (iI sj_)), (8, .int (iI need_)), (7, .int (iI k_)), (1, .int (iI n_)), (0, .ref (ad 0))]) hx hb dL_subscribers_290 hl (by decide) rfl (fun ls hl => ?_)
                      refine lv_iload hx hb dL_subscribers_292 (lv_at hl 9 rfl) ?_
                      refine zz_if_ne (tgt := 301) hx hb dL_subscribers_294 (by decide) (by omega) (fun c_294 => ?_) (fun c_294 => ?_)
                      · exfalso
                        omega
                      · refine zz_iconst hx hb dL_subscribers_297 ?_
                        refine lv_goto (tgt := 314) hx hb dL_subscribers_298 (by decide) ?_
                        refine lv_istore (lv' := [(12, .int (iI 1)), (11, .int (iI (-1))), (10, .int (iI is_)), (6, .int (iI (da_ + z259_53))), (5, .int (iI (li_ + z248_51))), (4, .int (iI (mn_ + z237_49))), (3, .int (iI (max mo_ need_))), (2, .int (iI (al_ + (max 0 sj_)))), (9, .int (iI sj_)), (8, .int (iI need_)), (7, .int (iI k_)), (1, .int (iI n_)), (0, .ref (ad 0))]) hx hb dL_subscribers_314 hl (by decide) rfl (fun ls hl => ?_)
                        refine lv_iload hx hb dL_subscribers_316 (lv_at hl 2 rfl) ?_
                        refine zz_if_lt (tgt := 358) hx hb dL_subscribers_318 (by decide) (by omega) (fun c_318 => ?_) (fun c_318 => ?_)
                        · exfalso
                          omega
                        · refine lv_iload hx hb dL_subscribers_321 (lv_at hl 0 rfl) ?_
                          refine zz_if_lt (tgt := 358) hx hb dL_subscribers_323 (by decide) (by decide) (fun c_323 => ?_) (fun c_323 => ?_)
                          · exact absurd c_323 (by decide)
                          · refine lv_iload hx hb dL_subscribers_326 (lv_at hl 0 rfl) ?_
                            refine zz_if_ne (tgt := 338) hx hb dL_subscribers_328 (by decide) (by decide) (fun c_328 => ?_) (fun c_328 => ?_)
                            · exact J338 g268_60 _ _ _ _ _ (by exact hr) (by omega) hP hD hS (lv_sub hl [3, 4, 5, 6, 7, 10, 11, 12] rfl)
                            · exact absurd c_328 (by decide)
                  refine lv_aload_n hx hb dL_subscribers_188 rfl (lv_at hl 9 rfl) ?_
                  refine lv_iload hx hb dL_subscribers_189 (lv_at hl 2 rfl) ?_
                  refine zh_callSi_ch (As := [.ref (ad 0), .int (iI k_)]) (rest := []) (L := [zW tA K ad g182_46]) (Lc := [zW tA K ad g182_46]) (Lr := []) (Lc' := fun (u : GL) => [zW tA K ad u]) (Lf := fun (u : GL) => [zW tA K ad u]) (is := [0]) (isF := [0]) ⟨hx, hb, hml, hown, hts⟩ (q_L_wouldBeLit hst hB hr.1 k_ (by omega)) (vx_cwSW 2 hts (gx_ww gL_subscribers_L_wouldBeLit) rfl rfl rfl (by decide +kernel) ⟨Nat.le_of_ble_eq_true rfl, Nat.le_of_ble_eq_true rfl⟩) hK hP hD hS hA hZ (zCut_1 _) (zBack_1 _) rfl rfl hl.1 (Nat.le_of_ble_eq_true rfl) dL_subscribers_191 (by show _ + 1 ≤ 2000 ∧ _ + 6 ≤ 12000; omega) ?_
                  intro z191_69 g191_68 H locs hp9 hP hD hS
                  have q191 := hp9.2
                  try rw [hr.2.1] at q191
                  have hr := RDO_trans hr hp9.1
                  clear hp9
                  have hz91 : z191_69 = 0 ∨ z191_69 = 1 := q191.elim (fun h => absurd ⟨by omega, by omega⟩ h.1) (fun h => h.2.1)
                  refine zz_iconst hx hb dL_subscribers_194 ?_
                  refine zz_icmp_ne (tgt := 216) hx hb dL_subscribers_195 (by decide) (by omega) (by decide) (fun c_195 => ?_) (fun c_195 => ?_)
                  · exact J216 g191_68 _ _ _ _ _ (by exact hr) (by omega) hP hD hS (lv_sub hl [0, 1, 2, 3, 4, 5, 6, 7, 8, 9] rfl)
                  · have hlp := lit_pays hokv hgat (k := k_) ⟨by omega, by omega⟩ q191 (by omega)
                    refine lv_iload hx hb dL_subscribers_198 (lv_at hl 1 rfl) ?_
                    refine zz_if_lt (tgt := 214) hx hb dL_subscribers_200 (by decide) (by omega) (fun c_200 => ?_) (fun c_200 => ?_)
                    · exfalso
                      omega
                    · refine lv_aload_n hx hb dL_subscribers_203 rfl (lv_at hl 9 rfl) ?_
                      refine lv_iload hx hb dL_subscribers_204 (lv_at hl 2 rfl) ?_
                      refine zh_callSi_ch (As := [.ref (ad 0), .int (iI k_)]) (rest := []) (L := [zW tA K ad g191_68]) (Lc := [zW tA K ad g191_68]) (Lr := []) (Lc' := fun (u : GL) => [zW tA K ad u]) (Lf := fun (u : GL) => [zW tA K ad u]) (is := [0]) (isF := [0]) ⟨hx, hb, hml, hown, hts⟩ (q_L_moneyOf hst hB hr.1 k_ (by omega)) (vx_cwSW 2 hts (gx_ww gL_subscribers_L_moneyOf) rfl rfl rfl (by decide +kernel) ⟨Nat.le_of_ble_eq_true rfl, Nat.le_of_ble_eq_true rfl⟩) hK hP hD hS hA hZ (zCut_1 _) (zBack_1 _) rfl rfl hl.1 (Nat.le_of_ble_eq_true rfl) dL_subscribers_206 (by show _ + 1 ≤ 2000 ∧ _ + 6 ≤ 12000; omega) ?_
                      intro z206_71 g206_70 H locs hp9 hP hD hS
                      have q206 := hp9.2
                      try rw [hr.2.1] at q206
                      have hr := RDO_trans hr hp9.1
                      clear hp9
                      have q206 := wSub_v ⟨by omega, by omega⟩ q206
                      refine lv_iload hx hb dL_subscribers_209 (lv_at hl 0 rfl) ?_
                      refine zz_icmp_ge (tgt := 216) hx hb dL_subscribers_211 (by decide) (by omega) (by omega) (fun c_211 => ?_) (fun c_211 => ?_)
                      · exact J216 g206_70 _ _ _ _ _ (by exact hr) (by omega) hP hD hS (lv_sub hl [0, 1, 2, 3, 4, 5, 6, 7, 8, 9] rfl)
                      · exfalso
                        omega
        refine zz_iconst hx hb dL_subscribers_45 ?_
        refine lv_istore (lv' := [(9, .int (iI 0)), (8, .int (iI need_)), (7, .int (iI k_)), (6, .int (iI da_)), (5, .int (iI li_)), (4, .int (iI mn_)), (3, .int (iI mo_)), (2, .int (iI al_)), (1, .int (iI n_)), (0, .ref (ad 0))]) hx hb dL_subscribers_46 hl (by decide) rfl (fun ls hl => ?_)
        refine zz_iconst hx hb dL_subscribers_48 ?_
        refine lv_istore (lv' := [(10, .int (iI 1)), (9, .int (iI 0)), (8, .int (iI need_)), (7, .int (iI k_)), (6, .int (iI da_)), (5, .int (iI li_)), (4, .int (iI mn_)), (3, .int (iI mo_)), (2, .int (iI al_)), (1, .int (iI n_)), (0, .ref (ad 0))]) hx hb dL_subscribers_49 hl (by decide) rfl (fun ls hl => ?_)
        have L51 : ∀ (f9 : Nat) (rg_ : Int) (sh_ : Int) (g51 : GL) (k9 : Nat) (n9 : Nat) (H : Heap) (locs : List Loc) (ls : Array Slot), (RDO B N g g51) → (1 ≤ rg_ ∧ (rg_ ≤ need_ + 1 ∨ rg_ = 1)) → (sh_ = shR tp nd (rg_ - 1).toNat) → (((k9 : Nat) : Int) ≤ 300 * k_ + 5 + 12 * (rg_ - 1) ∧ ((n9 : Nat) : Int) ≤ 6 * (300 * k_ + 5 + 12 * (rg_ - 1))) → (need_ + 1 - rg_).toNat < f9 → va_P D vwCl [zW tA K ad g51].flatten H → va_D A [zW tA K ad g51].flatten → va_S A s.heap H locs → lv_has ls 13 [(10, .int (iI rg_)), (9, .int (iI sh_)), (8, .int (iI need_)), (7, .int (iI k_)), (6, .int (iI da_)), (5, .int (iI li_)), (4, .int (iI mn_)), (3, .int (iI mo_)), (2, .int (iI al_)), (1, .int (iI n_)), (0, .ref (ad 0))] → W p l e (headSpec (wsL_subscribers ++ xL) ({ frames := 10, cells := 2000, slots := 12000, locals := 179 })).room s m args below meth c H locs k9 n9 Q (F0 m 51 ls []) := by
          intro f9
          induction f9 with
          | zero => intro rg_ sh_ g51 k9 n9 H locs ls hr hrq hsr hk9 hmz; exact absurd hmz (Nat.not_lt_zero _)
          | succ f9 ih51 =>
            intro rg_ sh_ g51 k9 n9 H locs ls hr hrq hsr hk9 hmz hP hD hS hl
            refine lv_iload hx hb dL_subscribers_51 (lv_at hl 0 rfl) ?_
            refine lv_iload hx hb dL_subscribers_53 (lv_at hl 2 rfl) ?_
            refine zz_icmp_gt (tgt := 132) hx hb dL_subscribers_55 (by decide) (by omega) (by omega) (fun c_55 => ?_) (fun c_55 => ?_)
            · refine lv_iload hx hb dL_subscribers_132 (lv_at hl 2 rfl) ?_
              refine zz_if_ge (tgt := 142) hx hb dL_subscribers_134 (by decide) (by omega) (fun c_134 => ?_) (fun c_134 => ?_)
              · refine lv_iload hx hb dL_subscribers_142 (lv_at hl 1 rfl) ?_
                refine lv_istore (lv' := [(9, .int (iI sh_)), (10, .int (iI rg_)), (8, .int (iI need_)), (7, .int (iI k_)), (6, .int (iI da_)), (5, .int (iI li_)), (4, .int (iI mn_)), (3, .int (iI mo_)), (2, .int (iI al_)), (1, .int (iI n_)), (0, .ref (ad 0))]) hx hb dL_subscribers_144 hl (by decide) rfl (fun ls hl => ?_)
                exact J146 sh_ g51 _ _ _ _ _ (by exact hr) (by rcases fsj with h | h <;> first | exact h.2.symm | (rw [h.2.1, hsr, show rg_ - 1 = noF nd k_ by omega]) | (exfalso; omega)) (by omega) hP hD hS (lv_sub hl [0, 2, 3, 4, 5, 6, 7, 8, 9, 10] rfl)
              · refine zz_bipush hx hb dL_subscribers_137 (by decide) ?_
                refine lv_goto (tgt := 144) hx hb dL_subscribers_139 (by decide) ?_
                refine lv_istore (lv' := [(9, .int (iI (-13))), (10, .int (iI rg_)), (8, .int (iI need_)), (7, .int (iI k_)), (6, .int (iI da_)), (5, .int (iI li_)), (4, .int (iI mn_)), (3, .int (iI mo_)), (2, .int (iI al_)), (1, .int (iI n_)), (0, .ref (ad 0))]) hx hb dL_subscribers_144 hl (by decide) rfl (fun ls hl => ?_)
                exact J146 (-13) g51 _ _ _ _ _ (by exact hr) (by rcases fsj with h | h <;> first | exact h.2.symm | (rw [h.2.1, hsr, show rg_ - 1 = noF nd k_ by omega]) | (exfalso; omega)) (by omega) hP hD hS (lv_sub hl [0, 2, 3, 4, 5, 6, 7, 8, 9, 10] rfl)
            · refine zz_iconst hx hb dL_subscribers_58 ?_
              refine lv_istore (lv' := [(11, .int (iI 0)), (10, .int (iI rg_)), (9, .int (iI sh_)), (8, .int (iI need_)), (7, .int (iI k_)), (6, .int (iI da_)), (5, .int (iI li_)), (4, .int (iI mn_)), (3, .int (iI mo_)), (2, .int (iI al_)), (1, .int (iI n_)), (0, .ref (ad 0))]) hx hb dL_subscribers_59 hl (by decide) rfl (fun ls hl => ?_)
              refine zz_iconst hx hb dL_subscribers_61 ?_
              refine lv_istore (lv' := [(12, .int (iI 0)), (11, .int (iI 0)), (10, .int (iI rg_)), (9, .int (iI sh_)), (8, .int (iI need_)), (7, .int (iI k_)), (6, .int (iI da_)), (5, .int (iI li_)), (4, .int (iI mn_)), (3, .int (iI mo_)), (2, .int (iI al_)), (1, .int (iI n_)), (0, .ref (ad 0))]) hx hb dL_subscribers_62 hl (by decide) rfl (fun ls hl => ?_)
              have L64 : ∀ (f9 : Nat) (oth_ : Int) (many_ : Int) (g64 : GL) (k9 : Nat) (n9 : Nat) (H : Heap) (locs : List Loc) (ls : Array Slot), (RDO B N g g64) → (0 ≤ oth_ ∧ oth_ ≤ GL_v g 7 0) → (many_ = sm (fun j => if rg_ ≤ noF nd j then 1 else 0) oth_.toNat) → (((k9 : Nat) : Int) ≤ 300 * k_ + 5 + 12 * (rg_ - 1) + 2 * oth_ ∧ ((n9 : Nat) : Int) ≤ 6 * (300 * k_ + 5 + 12 * (rg_ - 1) + 2 * oth_)) → (GL_v g 7 0 - oth_).toNat < f9 → va_P D vwCl [zW tA K ad g64].flatten H → va_D A [zW tA K ad g64].flatten → va_S A s.heap H locs → lv_has ls 13 [(12, .int (iI oth_)), (11, .int (iI many_)), (10, .int (iI rg_)), (9, .int (iI sh_)), (8, .int (iI need_)), (7, .int (iI k_)), (6, .int (iI da_)), (5, .int (iI li_)), (4, .int (iI mn_)), (3, .int (iI mo_)), (2, .int (iI al_)), (1, .int (iI n_)), (0, .ref (ad 0))] → W p l e (headSpec (wsL_subscribers ++ xL) ({ frames := 10, cells := 2000, slots := 12000, locals := 179 })).room s m args below meth c H locs k9 n9 Q (F0 m 64 ls []) := by
                intro f9
                induction f9 with
                | zero => intro oth_ many_ g64 k9 n9 H locs ls hr ho hmany hk9 hmz; exact absurd hmz (Nat.not_lt_zero _)
                | succ f9 ih64 =>
                  intro oth_ many_ g64 k9 n9 H locs ls hr ho hmany hk9 hmz hP hD hS hl
                  refine lv_iload hx hb dL_subscribers_64 (lv_at hl 0 rfl) ?_
                  refine lv_iload_n hx hb dL_subscribers_66 rfl (lv_at hl 11 rfl) ?_
                  refine zz_icmp_ge (tgt := 97) hx hb dL_subscribers_67 (by decide) (by omega) (by omega) (fun c_67 => ?_) (fun c_67 => ?_)
                  · have hoth : oth_ = GL_v g 7 0 := by omega
                    have hmy : many_ = cntN tp nd rg_ := by
                      rw [hmany, hoth]
                      exact many_cnt hcc (by omega) hgat
                    have hc1 := cnt_1 hokv hgat (k := k_) ⟨by omega, by omega⟩ (r := rg_) (by omega) (by omega)
                    have hdc := dC_in5 (r := rg_) ⟨by omega, by omega⟩
                    refine lv_iload hx hb dL_subscribers_97 (lv_at hl 3 rfl) ?_
                    refine zz_bipush hx hb dL_subscribers_99 (by decide) ?_
                    refine lv_iload hx hb dL_subscribers_101 (lv_at hl 2 rfl) ?_
                    refine zz_imul hx hb dL_subscribers_103 ?_
                    refine lv_iload hx hb dL_subscribers_104 (lv_at hl 2 rfl) ?_
                    refine zz_imul hx hb dL_subscribers_106 ?_
                    refine zz_bipush hx hb dL_subscribers_107 (by decide) ?_
                    refine lv_iload hx hb dL_subscribers_109 (lv_at hl 2 rfl) ?_
                    refine zz_iconst hx hb dL_subscribers_111 ?_
                    refine zz_isub hx hb dL_subscribers_112 ?_
                    refine zz_imul hx hb dL_subscribers_113 ?_
                    refine lv_iload hx hb dL_subscribers_114 (lv_at hl 2 rfl) ?_
                    refine zz_iconst hx hb dL_subscribers_116 ?_
                    refine zz_isub hx hb dL_subscribers_117 ?_
                    refine zz_imul hx hb dL_subscribers_118 ?_
                    refine zz_isub hx hb dL_subscribers_119 ?_
                    refine lv_iload hx hb dL_subscribers_120 (lv_at hl 1 rfl) ?_
                    refine zz_idiv hx hb dL_subscribers_122 (by omega) (by omega) ?_
                    refine zz_iadd hx hb dL_subscribers_123 ?_
                    refine lv_istore (lv' := [(9, .int (iI (sh_ + ((((60 * rg_) * rg_) - ((60 * (rg_ - 1)) * (rg_ - 1))) / many_)))), (12, .int (iI oth_)), (11, .int (iI many_)), (10, .int (iI rg_)), (8, .int (iI need_)), (7, .int (iI k_)), (6, .int (iI da_)), (5, .int (iI li_)), (4, .int (iI mn_)), (3, .int (iI mo_)), (2, .int (iI al_)), (1, .int (iI n_)), (0, .ref (ad 0))]) hx hb dL_subscribers_124 hl (by decide) rfl (fun ls hl => ?_)
                    refine zz_iinc (lv' := [(10, .int (iI (rg_ + 1))), (9, .int (iI (sh_ + ((((60 * rg_) * rg_) - ((60 * (rg_ - 1)) * (rg_ - 1))) / many_)))), (12, .int (iI oth_)), (11, .int (iI many_)), (8, .int (iI need_)), (7, .int (iI k_)), (6, .int (iI da_)), (5, .int (iI li_)), (4, .int (iI mn_)), (3, .int (iI mo_)), (2, .int (iI al_)), (1, .int (iI n_)), (0, .ref (ad 0))]) hx hb dL_subscribers_126 hl (k := 3) rfl (by decide) rfl (fun ls hl => ?_)
                    refine lv_goto (tgt := 51) hx hb dL_subscribers_129 (by decide) ?_
                    exact ih51 (rg_ + 1) (sh_ + ((((60 * rg_) * rg_) - ((60 * (rg_ - 1)) * (rg_ - 1))) / many_)) g64 _ _ _ _ _ (by exact hr) (by omega) (by rw [show rg_ + 1 - 1 = rg_ by omega, hsr, hmy]; exact shR_more tp nd (by omega)) (by omega) (by omega) hP hD hS (lv_sub hl [0, 1, 4, 5, 6, 7, 8, 9, 10, 11, 12] rfl)
                  · refine lv_iload hx hb dL_subscribers_70 (lv_at hl 1 rfl) ?_
                    refine lv_aload_n hx hb dL_subscribers_72 rfl (lv_at hl 12 rfl) ?_
                    refine lv_iload hx hb dL_subscribers_73 (lv_at hl 0 rfl) ?_
                    refine zh_callSi_ch (As := [.ref (ad 0), .int (iI oth_)]) (rest := [.int (iI many_)]) (L := [zW tA K ad g64]) (Lc := [zW tA K ad g64]) (Lr := []) (Lc' := fun (u : GL) => [zW tA K ad u]) (Lf := fun (u : GL) => [zW tA K ad u]) (is := [0]) (isF := [0]) ⟨hx, hb, hml, hown, hts⟩ (q_L_needOf hst hB hr.1 oth_ (by omega)) (vx_cwSW 2 hts (gx_ww gL_subscribers_L_needOf) rfl rfl rfl (by decide +kernel) ⟨Nat.le_of_ble_eq_true rfl, Nat.le_of_ble_eq_true rfl⟩) hK hP hD hS hA hZ (zCut_1 _) (zBack_1 _) rfl rfl hl.1 (Nat.le_of_ble_eq_true rfl) dL_subscribers_75 (by show _ + 2 ≤ 2000 ∧ _ + 12 ≤ 12000; omega) ?_
                    intro z75_73 g75_72 H locs hp9 hP hD hS
                    have q75 := hp9.2
                    try rw [hr.2.1] at q75
                    have hr := RDO_trans hr hp9.1
                    clear hp9
                    have q75 := wNof_v hokv hgat ⟨by omega, by omega⟩ q75
                    have nf75 := noF_f hokv hgat (k := oth_) ⟨by omega, by omega⟩
                    refine lv_iload hx hb dL_subscribers_78 (lv_at hl 2 rfl) ?_
                    refine zz_icmp_lt (tgt := 87) hx hb dL_subscribers_80 (by decide) (by omega) (by omega) (fun c_80 => ?_) (fun c_80 => ?_)
                    · refine zz_iconst hx hb dL_subscribers_87 ?_
                      refine zz_iadd hx hb dL_subscribers_88 ?_
                      refine lv_istore (lv' := [(11, .int (iI (many_ + 0))), (12, .int (iI oth_)), (10, .int (iI rg_)), (9, .int (iI sh_)), (8, .int (iI need_)), (7, .int (iI k_)), (6, .int (iI da_)), (5, .int (iI li_)), (4, .int (iI mn_)), (3, .int (iI mo_)), (2, .int (iI al_)), (1, .int (iI n_)), (0, .ref (ad 0))]) hx hb dL_subscribers_89 hl (by decide) rfl (fun ls hl => ?_)
                      refine zz_iinc (lv' := [(12, .int (iI (oth_ + 1))), (11, .int (iI (many_ + 0))), (10, .int (iI rg_)), (9, .int (iI sh_)), (8, .int (iI need_)), (7, .int (iI k_)), (6, .int (iI da_)), (5, .int (iI li_)), (4, .int (iI mn_)), (3, .int (iI mo_)), (2, .int (iI al_)), (1, .int (iI n_)), (0, .ref (ad 0))]) hx hb dL_subscribers_91 hl (k := 1) rfl (by decide) rfl (fun ls hl => ?_)
                      refine lv_goto (tgt := 64) hx hb dL_subscribers_94 (by decide) ?_
                      exact ih64 (oth_ + 1) (many_ + 0) g75_72 _ _ _ _ _ (by exact hr) (by omega) (by rw [sm_s (by omega), ← hmany]; first | (rw [if_neg (by omega)]) | (rw [if_pos (by omega)])) (by omega) (by omega) hP hD hS (lv_sub hl [0, 1, 2, 3, 4, 5, 6, 7, 8, 9, 10, 11, 12] rfl)
                    · refine zz_iconst hx hb dL_subscribers_83 ?_
                      refine lv_goto (tgt := 88) hx hb dL_subscribers_84 (by decide) ?_
                      refine zz_iadd hx hb dL_subscribers_88 ?_
                      refine lv_istore (lv' := [(11, .int (iI (many_ + 1))), (12, .int (iI oth_)), (10, .int (iI rg_)), (9, .int (iI sh_)), (8, .int (iI need_)), (7, .int (iI k_)), (6, .int (iI da_)), (5, .int (iI li_)), (4, .int (iI mn_)), (3, .int (iI mo_)), (2, .int (iI al_)), (1, .int (iI n_)), (0, .ref (ad 0))]) hx hb dL_subscribers_89 hl (by decide) rfl (fun ls hl => ?_)
                      refine zz_iinc (lv' := [(12, .int (iI (oth_ + 1))), (11, .int (iI (many_ + 1))), (10, .int (iI rg_)), (9, .int (iI sh_)), (8, .int (iI need_)), (7, .int (iI k_)), (6, .int (iI da_)), (5, .int (iI li_)), (4, .int (iI mn_)), (3, .int (iI mo_)), (2, .int (iI al_)), (1, .int (iI n_)), (0, .ref (ad 0))]) hx hb dL_subscribers_91 hl (k := 1) rfl (by decide) rfl (fun ls hl => ?_)
                      refine lv_goto (tgt := 64) hx hb dL_subscribers_94 (by decide) ?_
                      exact ih64 (oth_ + 1) (many_ + 1) g75_72 _ _ _ _ _ (by exact hr) (by omega) (by rw [sm_s (by omega), ← hmany]; first | (rw [if_neg (by omega)]) | (rw [if_pos (by omega)])) (by omega) (by omega) hP hD hS (lv_sub hl [0, 1, 2, 3, 4, 5, 6, 7, 8, 9, 10, 11, 12] rfl)
              exact L64 _ 0 0 g51 _ _ _ _ _ (by exact hr) (by omega) (by rfl) (by omega) (Nat.lt_succ_self _) hP hD hS (lv_sub hl [0, 1, 2, 3, 4, 5, 6, 7, 8, 9, 10, 11, 12] rfl)
        exact L51 _ 1 0 g40_38 _ _ _ _ _ (by exact hr) (by omega) (by rfl) (by omega) (Nat.lt_succ_self _) hP hD hS (lv_sub hl [0, 1, 2, 3, 4, 5, 6, 7, 8, 9, 10] rfl)
  exact L21 _ 0 0 0 0 0 0 g1_0 _ _ _ _ _ (by exact hr) (by omega) (by rfl) (by exact GrK_0) (by rfl) (by rfl) (by rfl) (by omega) (Nat.lt_succ_self _) hP hD hS (lv_sub hl [0, 1, 2, 3, 4, 5, 6, 7] rfl)
