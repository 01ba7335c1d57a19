/-! ===== p57: the law's lines ===== -/
section ZLW
variable {p : Program} {l : Launch} {e : Env} {R : Room} {s : State} {m : MethodId} {args : Array Value} {below : List Frame} {meth : Method} {c : Code} {H : Heap} {locs : List Loc} {cells slots : Nat} {Q : State → Prop}
variable {cc : ByteArray} {pc : Nat} {ls : Array Slot} {rest : List Value}
theorem zz_ldcwS (hexec : p.tables.exec = Jvm.exec) (hb : c.code = cc) {own tx : String} {index q : Nat} (hown : s.vm.findClass own = some m.cls) (hZ : vk_R own index tx q s) (hdg : decode cc pc = .ok (.ldc_w index, 3))
    (k : W p l e R s m args below meth c H locs cells slots Q (F0 m (pc + 3) ls (.ref q :: rest))) : W p l e R s m args below meth c H locs cells slots Q (F0 m pc ls rest) := by
  intro T hT X
  obtain ⟨t, a1, b1⟩ := k T hT X
  exact ⟨t, X.ldcStringW hexec hown (text := tx) (a := q) hZ.1 hZ.2 (g := F0 m pc ls rest) rfl (by rw [hb]; exact hdg) t a1, b1⟩

end ZLW
theorem sb_new {tA : Nat → ClassId} {q a : Nat} : bLine tA q a z0F 0 0 = bSB tA 16 q a 0 z0F [] := by
  show bLine tA q a z0F 0 0 = bLinN tA 16 q a (wrL z0F 0 []) 0 ((([] : List Int).length : Nat) : Int)
  rw [wrL_nil]
  rfl
theorem ch_lit {l : List Int} (h : l.all (fun v => decide (0 ≤ v ∧ v ≤ 127)) = true) : ∀ v ∈ l, 0 ≤ v ∧ v ≤ 127 := fun v hv => of_decide_eq_true (List.all_eq_true.mp h v hv)
theorem lgk {v : Nat → Int → Int} {k : Int} (hu : ChU (v 1 0) (v 2) (v 3)) (k0 : 0 ≤ k) (k1 : k < v 1 0) (k2 : v 2 k < v 3 k) : ∀ p, 0 ≤ p → p < v 1 0 → v 2 p = min (v 2 k) (v 3 k) → v 3 p = max (v 2 k) (v 3 k) → p = k := fun p p0 p1 p2 p3 => hu p k p0 p1 k0 k1 (by omega) (by omega)
theorem lgp {v : Nat → Int → Int} {k z : Int} {f : Nat} (h : ∀ p, 0 ≤ p → p < v 1 0 → v 2 p = min (v 2 k) (v 3 k) → v 3 p = max (v 2 k) (v 3 k) → p = k) (q : ∃ p, 0 ≤ p ∧ p < v 1 0 ∧ v 2 p = min (v 2 k) (v 3 k) ∧ v 3 p = max (v 2 k) (v 3 k) ∧ z = v f p) : z = v f k := by
  obtain ⟨p, p0, p1, p2, p3, p4⟩ := q
  rw [p4, h p p0 p1 p2 p3]
theorem lgl {v : Nat → Int → Int} {k z : Int} (h : ∀ p, 0 ≤ p → p < v 1 0 → v 2 p = min (v 2 k) (v 3 k) → v 3 p = max (v 2 k) (v 3 k) → p = k) (q : ∃ p, 0 ≤ p ∧ p < v 1 0 ∧ v 2 p = min (v 2 k) (v 3 k) ∧ v 3 p = max (v 2 k) (v 3 k) ∧ ((z = 1 ∧ v 5 p ≤ v 13 0) ∨ (z = 0 ∧ ¬ v 5 p ≤ v 13 0))) : (z = 1 ∧ v 5 k ≤ v 13 0) ∨ (z = 0 ∧ ¬ v 5 k ≤ v 13 0) := by
  obtain ⟨p, p0, p1, p2, p3, p4⟩ := q
  rw [h p p0 p1 p2 p3] at p4
  exact p4
set_option maxHeartbeats 4000000 in
set_option maxRecDepth 20000 in
theorem q_L_lines {l : Launch} (hst : l.stackTraces = false) {K : Nat → Nat} {D : va_G} {tA : Nat → ClassId} {ad : Nat → Nat} {sz : Nat} {B N : Int} {g : GL} (hB : (0 ≤ B ∧ B ≤ 100000000) ∧ (0 ≤ N ∧ N ≤ 100000)) (hok : OKG B N g) (hB2 : B ≤ 99999999) : zHi l yL_lines (wsL_lines ++ xL) ({ frames := 9, cells := 3000, slots := 18000, locals := 157 }) K D tA [.ref (ad 0)] (zW tA K ad g) sz (fun (z : Int) (g' : GL) => RDO B N g g' ∧ z = 1) (fun g' => zW tA K ad g') 3000 18000 := by
  refine zHi_ofC (cc := cL_lines) (maxL := 5) (by decide) rfl (fun z u h => zbool z (by have := h.2; omega)) (Nat.le_of_ble_eq_true rfl) ?_
  intro p e s m args below meth c A Q ls hx hb hml hts hown hK hP hD hA hZ hret hl
  obtain ⟨H, hHe⟩ : ∃ H : Heap, H = s.heap := ⟨_, rfl⟩
  have hS : va_S A s.heap H [] := by rw [hHe]; exact va_S.rf
  rw [← hHe] at hP ⊢
  have hP := zP_i hP
  have hD := zD_i hD
  have hr : RDO B N g g := RDO_refl hok
  have hl : lv_has ls 5 [(0, .ref (ad 0))] := hl
  obtain ⟨hokv, hhn, hhc, hln, htx, hva, hcm, hlc, hlb⟩ := id hok
  obtain ⟨hsv, hnv⟩ := id hokv
  obtain ⟨hch, hu, hcc, hsp, hmo, hfg, hrg, hni, hfd, hmt, hld, hbr⟩ := SVk_out (show SVk B N (eSv (GL_v g)) from hsv)
  have hpp : 0 ≤ GL_v g 0 0 ∧ GL_v g 0 0 ≤ 10 := ⟨hch.1, hch.2.1⟩
  have hlg : 0 ≤ GL_v g 1 0 ∧ GL_v g 1 0 ≤ 20 := ⟨hch.2.2.1, hch.2.2.2.1⟩
  obtain ⟨tp, nd, hgat⟩ := gat_ex hokv
  refine zz_iconst hx hb dL_lines_0 ?_
  refine lv_istore_n (lv' := [(1, .int (iI 0)), (0, .ref (ad 0))]) hx hb dL_lines_1 rfl hl (by decide) rfl (fun ls hl => ?_)
  have L2 : ∀ (f9 : Nat) (k_ : Int) (g2 : GL) (k9 : Nat) (n9 : Nat) (H : Heap) (locs : List Loc) (ls : Array Slot), (RDO B N g g2) → (0 ≤ k_ ∧ k_ ≤ GL_v g 7 0) → (((k9 : Nat) : Int) ≤ 110 * k_ ∧ ((n9 : Nat) : Int) ≤ 6 * (110 * k_)) → (GL_v g 7 0 - k_).toNat < f9 → va_P D vwCl [zW tA K ad g2].flatten H → va_D A [zW tA K ad g2].flatten → va_S A s.heap H locs → lv_has ls 5 [(1, .int (iI k_)), (0, .ref (ad 0))] → W p l e (headSpec (wsL_lines ++ xL) ({ frames := 9, cells := 3000, slots := 18000, locals := 157 })).room s m args below meth c H locs k9 n9 Q (F0 m 2 ls []) := by
    intro f9
    induction f9 with
    | zero => intro k_ g2 k9 n9 H locs ls hr hk hk9 hmz; exact absurd hmz (Nat.not_lt_zero _)
    | succ f9 ih2 =>
      intro k_ g2 k9 n9 H locs ls hr hk hk9 hmz hP hD hS hl
      refine lv_iload_n hx hb dL_lines_2 rfl (lv_at hl 0 rfl) ?_
      refine lv_aload_n hx hb dL_lines_3 rfl (lv_at hl 1 rfl) ?_
      refine zt_callVi (As := []) (rest := [.int (iI k_)]) (L := [zW tA K ad g2]) (Lc := [zW tA K ad g2]) (Lr := []) (Lc' := fun (u : GL) => [zW tA K ad u]) (Lf := fun (u : GL) => [zW tA K ad u]) (is := [0]) (isF := [0]) ⟨hx, hb, hml, hown, hts⟩ (q_X10_subscriberCount hst hB hr.1  ) (cwV 0 hts (goodIn_wid gL_lines_X10_subscriberCount) rfl rfl rfl (by decide +kernel) ⟨Nat.le_of_ble_eq_true rfl, Nat.le_of_ble_eq_true rfl⟩) hK hP hD hS hA hZ (zCut_1 _) (zBack_1 _) (ci := 12) (q0 := 0) rfl rfl (zW_0 tA K ad g2) rfl rfl hl.1 (Nat.le_of_ble_eq_true rfl) dL_lines_4 (by show _ + 0 ≤ 3000 ∧ _ + 0 ≤ 18000; omega) ?_
      intro z4_1 g4_0 H locs hp9 hP hD hS
      have q4 := hp9.2
      try rw [hr.2.1] at q4
      have hr := RDO_trans hr hp9.1
      clear hp9
      refine zz_icmp_ge (tgt := 117) hx hb dL_lines_7 (by decide) (by omega) (by omega) (fun c_7 => ?_) (fun c_7 => ?_)
      · refine zz_iconst hx hb dL_lines_117 ?_
        refine lv_istore_n (lv' := [(1, .int (iI 0)), (0, .ref (ad 0))]) hx hb dL_lines_118 rfl hl (by decide) rfl (fun ls hl => ?_)
        have L119 : ∀ (f9 : Nat) (k_ : Int) (g119 : GL) (k9 : Nat) (n9 : Nat) (H : Heap) (locs : List Loc) (ls : Array Slot), (RDO B N g g119) → (0 ≤ k_ ∧ k_ ≤ GL_v g 1 0) → (((k9 : Nat) : Int) ≤ 700 + 110 * k_ ∧ ((n9 : Nat) : Int) ≤ 6 * (700 + 110 * k_)) → (GL_v g 1 0 - k_).toNat < f9 → va_P D vwCl [zW tA K ad g119].flatten H → va_D A [zW tA K ad g119].flatten → va_S A s.heap H locs → lv_has ls 5 [(1, .int (iI k_)), (0, .ref (ad 0))] → W p l e (headSpec (wsL_lines ++ xL) ({ frames := 9, cells := 3000, slots := 18000, locals := 157 })).room s m args below meth c H locs k9 n9 Q (F0 m 119 ls []) := by
          intro f9
          induction f9 with
          | zero => intro k_ g119 k9 n9 H locs ls hr hk hk9 hmz; exact absurd hmz (Nat.not_lt_zero _)
          | succ f9 ih119 =>
            intro k_ g119 k9 n9 H locs ls hr hk hk9 hmz hP hD hS hl
            refine lv_iload_n hx hb dL_lines_119 rfl (lv_at hl 0 rfl) ?_
            refine lv_aload_n hx hb dL_lines_120 rfl (lv_at hl 1 rfl) ?_
            refine zt_callVi (As := []) (rest := [.int (iI k_)]) (L := [zW tA K ad g119]) (Lc := [zW tA K ad g119]) (Lr := []) (Lc' := fun (u : GL) => [zW tA K ad u]) (Lf := fun (u : GL) => [zW tA K ad u]) (is := [0]) (isF := [0]) ⟨hx, hb, hml, hown, hts⟩ (q_X10_legCount hst hB hr.1  ) (cwV 0 hts (goodIn_wid gL_lines_X10_legCount) rfl rfl rfl (by decide +kernel) ⟨Nat.le_of_ble_eq_true rfl, Nat.le_of_ble_eq_true rfl⟩) hK hP hD hS hA hZ (zCut_1 _) (zBack_1 _) (ci := 12) (q0 := 0) rfl rfl (zW_0 tA K ad g119) rfl rfl hl.1 (Nat.le_of_ble_eq_true rfl) dL_lines_121 (by show _ + 0 ≤ 3000 ∧ _ + 0 ≤ 18000; omega) ?_
            intro z121_3 g121_2 H locs hp9 hP hD hS
            have q121 := hp9.2
            try rw [hr.2.1] at q121
            have hr := RDO_trans hr hp9.1
            clear hp9
            refine zz_icmp_ge (tgt := 238) hx hb dL_lines_124 (by decide) (by omega) (by omega) (fun c_124 => ?_) (fun c_124 => ?_)
            · refine lv_aload_n hx hb dL_lines_238 rfl (lv_at hl 1 rfl) ?_
              refine lv_aload_n hx hb dL_lines_239 rfl (lv_at hl 1 rfl) ?_
              refine zt_callVi (As := []) (rest := [.ref (ad 0)]) (L := [zW tA K ad g121_2]) (Lc := [zW tA K ad g121_2]) (Lr := []) (Lc' := fun (u : GL) => [zW tA K ad u]) (Lf := fun (u : GL) => [zW tA K ad u]) (is := [0]) (isF := [0]) ⟨hx, hb, hml, hown, hts⟩ (q_X10_subscriberCount hst hB hr.1  ) (cwV 0 hts (goodIn_wid gL_lines_X10_subscriberCount) rfl rfl rfl (by decide +kernel) ⟨Nat.le_of_ble_eq_true rfl, Nat.le_of_ble_eq_true rfl⟩) hK hP hD hS hA hZ (zCut_1 _) (zBack_1 _) (ci := 12) (q0 := 0) rfl rfl (zW_0 tA K ad g121_2) rfl rfl hl.1 (Nat.le_of_ble_eq_true rfl) dL_lines_240 (by show _ + 0 ≤ 3000 ∧ _ + 0 ≤ 18000; omega) ?_
              intro z240_5 g240_4 H locs hp9 hP hD hS
              have q240 := hp9.2
              try rw [hr.2.1] at q240
              have hr := RDO_trans hr hp9.1
              clear hp9
              refine zh_callSi_ch (As := [.ref (ad 0), .int (iI z240_5)]) (rest := []) (L := [zW tA K ad g240_4]) (Lc := [zW tA K ad g240_4]) (Lr := []) (Lc' := fun (u : GL) => [zW tA K ad u]) (Lf := fun (u : GL) => [zW tA K ad u]) (is := [0]) (isF := [0]) ⟨hx, hb, hml, hown, hts⟩ (q_L_writeSubscriber hst hB hr.1 z240_5 (by omega)) (vx_cwSW 2 hts (gx_ww gL_lines_L_writeSubscriber) rfl rfl rfl (by decide +kernel) ⟨Nat.le_of_ble_eq_true rfl, Nat.le_of_ble_eq_true rfl⟩) hK hP hD hS hA hZ (zCut_1 _) (zBack_1 _) rfl rfl hl.1 (Nat.le_of_ble_eq_true rfl) dL_lines_243 (by show _ + 1 ≤ 3000 ∧ _ + 6 ≤ 18000; omega) ?_
              intro z243_7 g243_6 H locs hp9 hP hD hS
              have q243 := hp9.2
              try rw [hr.2.1] at q243
              have hr := RDO_trans hr hp9.1
              clear hp9
              have q243 := q243.elim (fun h => h.2) (fun h => absurd h.1 (by omega))
              refine zz_bipush hx hb dL_lines_246 (by decide) ?_
              refine zz_icmp_ne (tgt := 278) hx hb dL_lines_248 (by decide) (by omega) (by decide) (fun c_248 => ?_) (fun c_248 => ?_)
              · exfalso
                omega
              · refine lv_aload_n hx hb dL_lines_251 rfl (lv_at hl 1 rfl) ?_
                refine lv_aload_n hx hb dL_lines_252 rfl (lv_at hl 1 rfl) ?_
                refine zt_callVi (As := []) (rest := [.ref (ad 0)]) (L := [zW tA K ad g243_6]) (Lc := [zW tA K ad g243_6]) (Lr := []) (Lc' := fun (u : GL) => [zW tA K ad u]) (Lf := fun (u : GL) => [zW tA K ad u]) (is := [0]) (isF := [0]) ⟨hx, hb, hml, hown, hts⟩ (q_X10_legCount hst hB hr.1  ) (cwV 0 hts (goodIn_wid gL_lines_X10_legCount) rfl rfl rfl (by decide +kernel) ⟨Nat.le_of_ble_eq_true rfl, Nat.le_of_ble_eq_true rfl⟩) hK hP hD hS hA hZ (zCut_1 _) (zBack_1 _) (ci := 12) (q0 := 0) rfl rfl (zW_0 tA K ad g243_6) rfl rfl hl.1 (Nat.le_of_ble_eq_true rfl) dL_lines_253 (by show _ + 0 ≤ 3000 ∧ _ + 0 ≤ 18000; omega) ?_
                intro z253_9 g253_8 H locs hp9 hP hD hS
                have q253 := hp9.2
                try rw [hr.2.1] at q253
                have hr := RDO_trans hr hp9.1
                clear hp9
                refine zh_callSi_ch (As := [.ref (ad 0), .int (iI z253_9)]) (rest := []) (L := [zW tA K ad g253_8]) (Lc := [zW tA K ad g253_8]) (Lr := []) (Lc' := fun (u : GL) => [zW tA K ad u]) (Lf := fun (u : GL) => [zW tA K ad u]) (is := [0]) (isF := [0]) ⟨hx, hb, hml, hown, hts⟩ (q_L_writeLeg hst hB hr.1 z253_9 (by omega)) (vx_cwSW 2 hts (gx_ww gL_lines_L_writeLeg) rfl rfl rfl (by decide +kernel) ⟨Nat.le_of_ble_eq_true rfl, Nat.le_of_ble_eq_true rfl⟩) hK hP hD hS hA hZ (zCut_1 _) (zBack_1 _) rfl rfl hl.1 (Nat.le_of_ble_eq_true rfl) dL_lines_256 (by show _ + 1 ≤ 3000 ∧ _ + 6 ≤ 18000; omega) ?_
                intro z256_11 g256_10 H locs hp9 hP hD hS
                have q256 := hp9.2
                try rw [hr.2.1] at q256
                have hr := RDO_trans hr hp9.1
                clear hp9
                have q256 := q256.elim (fun h => h.2) (fun h => absurd h.1 (by omega))
                refine zz_bipush hx hb dL_lines_259 (by decide) ?_
                refine zz_icmp_ne (tgt := 278) hx hb dL_lines_261 (by decide) (by omega) (by decide) (fun c_261 => ?_) (fun c_261 => ?_)
                · exfalso
                  omega
                · refine lv_aload_n hx hb dL_lines_264 rfl (lv_at hl 1 rfl) ?_
                  refine zz_iconst hx hb dL_lines_265 ?_
                  refine zh_callSi_ch (As := [.ref (ad 0), .int (iI (-1))]) (rest := []) (L := [zW tA K ad g256_10]) (Lc := [zW tA K ad g256_10]) (Lr := []) (Lc' := fun (u : GL) => [zW tA K ad u]) (Lf := fun (u : GL) => [zW tA K ad u]) (is := [0]) (isF := [0]) ⟨hx, hb, hml, hown, hts⟩ (q_L_writeLeg hst hB hr.1 (-1) (by decide)) (vx_cwSW 2 hts (gx_ww gL_lines_L_writeLeg) rfl rfl rfl (by decide +kernel) ⟨Nat.le_of_ble_eq_true rfl, Nat.le_of_ble_eq_true rfl⟩) hK hP hD hS hA hZ (zCut_1 _) (zBack_1 _) rfl rfl hl.1 (Nat.le_of_ble_eq_true rfl) dL_lines_266 (by show _ + 1 ≤ 3000 ∧ _ + 6 ≤ 18000; omega) ?_
                  intro z266_13 g266_12 H locs hp9 hP hD hS
                  have q266 := hp9.2
                  try rw [hr.2.1] at q266
                  have hr := RDO_trans hr hp9.1
                  clear hp9
                  have q266 := q266.elim (fun h => h.2) (fun h => absurd h.1 (by omega))
                  refine zz_bipush hx hb dL_lines_269 (by decide) ?_
                  refine zz_icmp_ne (tgt := 278) hx hb dL_lines_271 (by decide) (by omega) (by decide) (fun c_271 => ?_) (fun c_271 => ?_)
                  · exfalso
                    omega
                  · refine zz_iconst hx hb dL_lines_274 ?_
                    refine lv_goto (tgt := 279) hx hb dL_lines_275 (by decide) ?_
                    have hfin : (fun (z : Int) (g' : GL) => RDO B N g g' ∧ z = 1) (1 : Int) g266_12 := by
                      exact ⟨hr, rfl⟩
                    exact hret (1) g266_12 H locs _ _ _ _ (by omega) (by omega) dL_lines_279 hfin (zP_o hP) (zD_o hD) hS
            · refine lv_aload_n hx hb dL_lines_127 rfl (lv_at hl 1 rfl) ?_
              refine lv_iload_n hx hb dL_lines_128 rfl (lv_at hl 0 rfl) ?_
              refine zt_callVi (As := [.int (iI k_)]) (rest := []) (L := [zW tA K ad g121_2]) (Lc := [zW tA K ad g121_2]) (Lr := []) (Lc' := fun (u : GL) => [zW tA K ad u]) (Lf := fun (u : GL) => [zW tA K ad u]) (is := [0]) (isF := [0]) ⟨hx, hb, hml, hown, hts⟩ (q_X10_lowerPortAt_t hst hB hr.1 k_ (by omega) (by rw [hr.2.1]; exact ⟨by omega, by omega⟩)) (cwV 1 hts (goodIn_wid gL_lines_X10_lowerPortAt) rfl rfl rfl (by decide +kernel) ⟨Nat.le_of_ble_eq_true rfl, Nat.le_of_ble_eq_true rfl⟩) hK hP hD hS hA hZ (zCut_1 _) (zBack_1 _) (ci := 12) (q0 := 0) rfl rfl (zW_0 tA K ad g121_2) rfl rfl hl.1 (Nat.le_of_ble_eq_true rfl) dL_lines_129 (by show _ + 1 ≤ 3000 ∧ _ + 6 ≤ 18000; omega) ?_
              intro z129_15 g129_14 H locs hp9 hP hD hS
              have q129 := hp9.2
              try rw [hr.2.1] at q129
              have hr := RDO_trans hr hp9.1
              clear hp9
              have hz129 : z129_15 = (GL_v g 2 k_) := by exact q129.2.2
              subst hz129
              refine lv_istore_n (lv' := [(2, .int (iI (GL_v g 2 k_))), (1, .int (iI k_)), (0, .ref (ad 0))]) hx hb dL_lines_132 rfl hl (by decide) rfl (fun ls hl => ?_)
              refine lv_aload_n hx hb dL_lines_133 rfl (lv_at hl 2 rfl) ?_
              refine lv_iload_n hx hb dL_lines_134 rfl (lv_at hl 1 rfl) ?_
              refine zt_callVi (As := [.int (iI k_)]) (rest := []) (L := [zW tA K ad g129_14]) (Lc := [zW tA K ad g129_14]) (Lr := []) (Lc' := fun (u : GL) => [zW tA K ad u]) (Lf := fun (u : GL) => [zW tA K ad u]) (is := [0]) (isF := [0]) ⟨hx, hb, hml, hown, hts⟩ (q_X10_upperPortAt_t hst hB hr.1 k_ (by omega) (by rw [hr.2.1]; exact ⟨by omega, by omega⟩)) (cwV 1 hts (goodIn_wid gL_lines_X10_upperPortAt) rfl rfl rfl (by decide +kernel) ⟨Nat.le_of_ble_eq_true rfl, Nat.le_of_ble_eq_true rfl⟩) hK hP hD hS hA hZ (zCut_1 _) (zBack_1 _) (ci := 12) (q0 := 0) rfl rfl (zW_0 tA K ad g129_14) rfl rfl hl.1 (Nat.le_of_ble_eq_true rfl) dL_lines_135 (by show _ + 1 ≤ 3000 ∧ _ + 6 ≤ 18000; omega) ?_
              intro z135_17 g135_16 H locs hp9 hP hD hS
              have q135 := hp9.2
              try rw [hr.2.1] at q135
              have hr := RDO_trans hr hp9.1
              clear hp9
              obtain ⟨e1, e2, e3, e4, e5, e6⟩ := lg_k hokv (k := k_) (by omega) (by omega)
              have hin9 : inP (GL_v g 0 0) (GL_v g 2 k_) (GL_v g 3 k_) := ⟨by omega, by omega, by omega, by omega⟩
              have hle9 : hasL (GL_v g 1 0) (GL_v g 2) (GL_v g 3) (GL_v g 2 k_) (GL_v g 3 k_) := ⟨k_, by omega, by omega, by omega, by omega⟩
              have h4f := lgk hu (k := k_) (by omega) (by omega) (by omega)
              have hdA := dgN_1 (x := GL_v g 2 k_) (by omega) (by omega)
              have hdC := dgN_1 (x := GL_v g 3 k_) (by omega) (by omega)
              have hdM := dgN_le2 (x := GL_v g 4 k_) (by omega) (by omega)
              have hdM5 := dgN_le2 (x := GL_v g 5 k_) (by omega) (by omega)
              unfold dgN at hdA hdC hdM hdM5
              have hz135 : z135_17 = (GL_v g 3 k_) := by exact q135.2.2
              subst hz135
              refine lv_istore_n (lv' := [(3, .int (iI (GL_v g 3 k_))), (2, .int (iI (GL_v g 2 k_))), (1, .int (iI k_)), (0, .ref (ad 0))]) hx hb dL_lines_138 rfl hl (by decide) rfl (fun ls hl => ?_)
              refine zt_new (ci := 1) (fs := [.null, .int (iI 0), .int (iI 0), .int (iI 0)]) (C := RJ4) (T := TJ4) (N := 4) (L := [zW tA K ad g135_16]) (rest := []) ⟨hx, hb, hml, hown, hts⟩ (by decide +kernel) tyJ4 tyJ4_ok (hts (.classLink RL 310 RJ4) (by decide +kernel)) (hts (.instantiable RJ4 4) (by decide +kernel)) (hts (.initialized RJ4) (by decide +kernel)) rfl (fun j hj => by rcases (show j = 0 ∨ j = 1 ∨ j = 2 ∨ j = 3 by omega) with rfl | rfl | rfl | rfl <;> rfl) (fun q sz => c_J4_init_da8c8 l K D tA q sz) (cwI 0 hts (goodIn_wid gL_lines_J4_init_da8c8) rfl rfl rfl (hts (.initialized RJ4) (by decide +kernel)) (hts (.methodLink RL 312 yJ4_init_da8c8) (by decide +kernel)) (hts (.instanceMethod yJ4_init_da8c8) (by decide +kernel)) rfl (by decide +kernel) ⟨Nat.le_of_ble_eq_true rfl, Nat.le_of_ble_eq_true rfl⟩) hK hP hD hS hA hZ.2.2.2 hl.1 dL_lines_139 dL_lines_142 dL_lines_143 (by show _ + 1 + 1 ≤ 3000 ∧ _ + 4 + 16 ≤ 18000; omega) (Nat.le_of_ble_eq_true rfl) ?_
              intro q139_18 u H locs hp9 hP hD hS
              generalize u.getD 0 0 = a139_18 at hP hD
              have hP : va_P D vwCl [zW tA K ad g135_16, bLine tA q139_18 a139_18 z0F 0 0].flatten H := hP
              have hD : va_D A [zW tA K ad g135_16, bLine tA q139_18 a139_18 z0F 0 0].flatten := hD
              rw [sb_new] at hP hD
              refine lv_iload_n hx hb dL_lines_146 rfl (lv_at hl 1 rfl) ?_
              refine zc_callVr_ch (As := [.int (iI (GL_v g 2 k_))]) (rest := []) (L := [zW tA K ad g135_16, bSB tA 16 q139_18 a139_18 0 z0F []]) (Lc := [bSB tA 16 q139_18 a139_18 0 z0F []]) (Lr := [zW tA K ad g135_16]) (Lc' := fun (u : Unit) => [bSB tA 16 q139_18 a139_18 0 z0F ([] ++ dgL (GL_v g 2 k_))]) (Lf := fun (u : Unit) => [zW tA K ad g135_16, bSB tA 16 q139_18 a139_18 0 z0F ([] ++ dgL (GL_v g 2 k_))]) (is := [1, 0]) (isF := [0, 1]) ⟨hx, hb, hml, hown, hts⟩ (c_apI l K D tA q139_18 a139_18 H.size 0 z0F ([]) (GL_v g 2 k_) (by omega) (by omega) (by unfold dgN; simp only [List.length_append, List.length_cons, List.length_nil]; omega)) (cwV 1 hts (goodIn_wid gL_lines_J4_append_bf812) rfl rfl rfl (by decide +kernel) ⟨Nat.le_of_ble_eq_true rfl, Nat.le_of_ble_eq_true rfl⟩) hK hP hD hS hA hZ.2.2.2 ⟨rfl, rfl, (by decide)⟩ ⟨fun _ => rfl, fun _ => rfl, (by decide)⟩ (ci := 1) (q0 := 0) rfl rfl rfl rfl rfl hl.1 (Nat.le_of_ble_eq_true rfl) dL_lines_147 (by show _ + 0 ≤ 3000 ∧ _ + 0 ≤ 18000; omega) ?_
              intro u H locs hp9 hP hD hS
              have hP : va_P D vwCl [zW tA K ad g135_16, bSB tA 16 q139_18 a139_18 0 z0F ([] ++ dgL (GL_v g 2 k_))].flatten H := hP
              have hD : va_D A [zW tA K ad g135_16, bSB tA 16 q139_18 a139_18 0 z0F ([] ++ dgL (GL_v g 2 k_))].flatten := hD
              refine zz_ldcwS hx hb hown (hZ.2.2.2.2.1 (324, "-", 16) (by decide)) dL_lines_150 ?_
              refine zc_callVr_ch (As := [.ref (K (100 + 16))]) (rest := []) (L := [zW tA K ad g135_16, bSB tA 16 q139_18 a139_18 0 z0F ([] ++ dgL (GL_v g 2 k_))]) (Lc := [bSB tA 16 q139_18 a139_18 0 z0F ([] ++ dgL (GL_v g 2 k_))]) (Lr := [zW tA K ad g135_16]) (Lc' := fun (u : Unit) => [bSB tA 16 q139_18 a139_18 0 z0F (([] ++ dgL (GL_v g 2 k_)) ++ sTx.getD 16 [])]) (Lf := fun (u : Unit) => [zW tA K ad g135_16, bSB tA 16 q139_18 a139_18 0 z0F (([] ++ dgL (GL_v g 2 k_)) ++ sTx.getD 16 [])]) (is := [1, 0]) (isF := [0, 1]) ⟨hx, hb, hml, hown, hts⟩ (c_apK l K D tA q139_18 a139_18 H.size 0 z0F ([] ++ dgL (GL_v g 2 k_)) 16 16 (by decide) (by decide) (by rw [show sLn 16 = 1 from rfl]; simp only [List.length_append, List.length_cons, List.length_nil]; omega)) (cwV 1 hts (goodIn_wid gL_lines_J4_append_15ec4) rfl rfl rfl (by decide +kernel) ⟨Nat.le_of_ble_eq_true rfl, Nat.le_of_ble_eq_true rfl⟩) hK hP hD hS hA hZ.2.2.2 ⟨rfl, rfl, (by decide)⟩ ⟨fun _ => rfl, fun _ => rfl, (by decide)⟩ (ci := 1) (q0 := 0) rfl rfl rfl rfl rfl hl.1 (Nat.le_of_ble_eq_true rfl) dL_lines_153 (by show _ + 0 ≤ 3000 ∧ _ + 0 ≤ 18000; omega) ?_
              intro u H locs hp9 hP hD hS
              have hP : va_P D vwCl [zW tA K ad g135_16, bSB tA 16 q139_18 a139_18 0 z0F (([] ++ dgL (GL_v g 2 k_)) ++ [45])].flatten H := hP
              have hD : va_D A [zW tA K ad g135_16, bSB tA 16 q139_18 a139_18 0 z0F (([] ++ dgL (GL_v g 2 k_)) ++ [45])].flatten := hD
              refine lv_iload_n hx hb dL_lines_156 rfl (lv_at hl 0 rfl) ?_
              refine zc_callVr_ch (As := [.int (iI (GL_v g 3 k_))]) (rest := []) (L := [zW tA K ad g135_16, bSB tA 16 q139_18 a139_18 0 z0F (([] ++ dgL (GL_v g 2 k_)) ++ [45])]) (Lc := [bSB tA 16 q139_18 a139_18 0 z0F (([] ++ dgL (GL_v g 2 k_)) ++ [45])]) (Lr := [zW tA K ad g135_16]) (Lc' := fun (u : Unit) => [bSB tA 16 q139_18 a139_18 0 z0F ((([] ++ dgL (GL_v g 2 k_)) ++ [45]) ++ dgL (GL_v g 3 k_))]) (Lf := fun (u : Unit) => [zW tA K ad g135_16, bSB tA 16 q139_18 a139_18 0 z0F ((([] ++ dgL (GL_v g 2 k_)) ++ [45]) ++ dgL (GL_v g 3 k_))]) (is := [1, 0]) (isF := [0, 1]) ⟨hx, hb, hml, hown, hts⟩ (c_apI l K D tA q139_18 a139_18 H.size 0 z0F (([] ++ dgL (GL_v g 2 k_)) ++ [45]) (GL_v g 3 k_) (by omega) (by omega) (by unfold dgN; simp only [List.length_append, List.length_cons, List.length_nil]; omega)) (cwV 1 hts (goodIn_wid gL_lines_J4_append_bf812) rfl rfl rfl (by decide +kernel) ⟨Nat.le_of_ble_eq_true rfl, Nat.le_of_ble_eq_true rfl⟩) hK hP hD hS hA hZ.2.2.2 ⟨rfl, rfl, (by decide)⟩ ⟨fun _ => rfl, fun _ => rfl, (by decide)⟩ (ci := 1) (q0 := 0) rfl rfl rfl rfl rfl hl.1 (Nat.le_of_ble_eq_true rfl) dL_lines_157 (by show _ + 0 ≤ 3000 ∧ _ + 0 ≤ 18000; omega) ?_
              intro u H locs hp9 hP hD hS
              have hP : va_P D vwCl [zW tA K ad g135_16, bSB tA 16 q139_18 a139_18 0 z0F ((([] ++ dgL (GL_v g 2 k_)) ++ [45]) ++ dgL (GL_v g 3 k_))].flatten H := hP
              have hD : va_D A [zW tA K ad g135_16, bSB tA 16 q139_18 a139_18 0 z0F ((([] ++ dgL (GL_v g 2 k_)) ++ [45]) ++ dgL (GL_v g 3 k_))].flatten := hD
              refine zz_ldcwS hx hb hown (hZ.2.2.2.2.1 (322, ":", 15) (by decide)) dL_lines_160 ?_
              refine zc_callVr_ch (As := [.ref (K (100 + 15))]) (rest := []) (L := [zW tA K ad g135_16, bSB tA 16 q139_18 a139_18 0 z0F ((([] ++ dgL (GL_v g 2 k_)) ++ [45]) ++ dgL (GL_v g 3 k_))]) (Lc := [bSB tA 16 q139_18 a139_18 0 z0F ((([] ++ dgL (GL_v g 2 k_)) ++ [45]) ++ dgL (GL_v g 3 k_))]) (Lr := [zW tA K ad g135_16]) (Lc' := fun (u : Unit) => [bSB tA 16 q139_18 a139_18 0 z0F (((([] ++ dgL (GL_v g 2 k_)) ++ [45]) ++ dgL (GL_v g 3 k_)) ++ sTx.getD 15 [])]) (Lf := fun (u : Unit) => [zW tA K ad g135_16, bSB tA 16 q139_18 a139_18 0 z0F (((([] ++ dgL (GL_v g 2 k_)) ++ [45]) ++ dgL (GL_v g 3 k_)) ++ sTx.getD 15 [])]) (is := [1, 0]) (isF := [0, 1]) ⟨hx, hb, hml, hown, hts⟩ (c_apK l K D tA q139_18 a139_18 H.size 0 z0F ((([] ++ dgL (GL_v g 2 k_)) ++ [45]) ++ dgL (GL_v g 3 k_)) 16 15 (by decide) (by decide) (by rw [show sLn 15 = 1 from rfl]; simp only [List.length_append, List.length_cons, List.length_nil]; omega)) (cwV 1 hts (goodIn_wid gL_lines_J4_append_15ec4) rfl rfl rfl (by decide +kernel) ⟨Nat.le_of_ble_eq_true rfl, Nat.le_of_ble_eq_true rfl⟩) hK hP hD hS hA hZ.2.2.2 ⟨rfl, rfl, (by decide)⟩ ⟨fun _ => rfl, fun _ => rfl, (by decide)⟩ (ci := 1) (q0 := 0) rfl rfl rfl rfl rfl hl.1 (Nat.le_of_ble_eq_true rfl) dL_lines_163 (by show _ + 0 ≤ 3000 ∧ _ + 0 ≤ 18000; omega) ?_
              intro u H locs hp9 hP hD hS
              have hP : va_P D vwCl [zW tA K ad g135_16, bSB tA 16 q139_18 a139_18 0 z0F (((([] ++ dgL (GL_v g 2 k_)) ++ [45]) ++ dgL (GL_v g 3 k_)) ++ [58])].flatten H := hP
              have hD : va_D A [zW tA K ad g135_16, bSB tA 16 q139_18 a139_18 0 z0F (((([] ++ dgL (GL_v g 2 k_)) ++ [45]) ++ dgL (GL_v g 3 k_)) ++ [58])].flatten := hD
              refine lv_aload_n hx hb dL_lines_166 rfl (lv_at hl 3 rfl) ?_
              refine lv_iload_n hx hb dL_lines_167 rfl (lv_at hl 1 rfl) ?_
              refine lv_iload_n hx hb dL_lines_168 rfl (lv_at hl 0 rfl) ?_
              refine zt_callVi (As := [.int (iI (GL_v g 2 k_)), .int (iI (GL_v g 3 k_))]) (rest := [.ref q139_18]) (L := [zW tA K ad g135_16, bSB tA 16 q139_18 a139_18 0 z0F (((([] ++ dgL (GL_v g 2 k_)) ++ [45]) ++ dgL (GL_v g 3 k_)) ++ [58])]) (Lc := [zW tA K ad g135_16]) (Lr := [bSB tA 16 q139_18 a139_18 0 z0F (((([] ++ dgL (GL_v g 2 k_)) ++ [45]) ++ dgL (GL_v g 3 k_)) ++ [58])]) (Lc' := fun (u : GL) => [zW tA K ad u]) (Lf := fun (u : GL) => [zW tA K ad u, bSB tA 16 q139_18 a139_18 0 z0F (((([] ++ dgL (GL_v g 2 k_)) ++ [45]) ++ dgL (GL_v g 3 k_)) ++ [58])]) (is := [0, 1]) (isF := [1, 0]) ⟨hx, hb, hml, hown, hts⟩ (q_X10_lengthOf_n hst hB hr.1 (GL_v g 2 k_) (GL_v g 3 k_) (by omega) (by omega) (by rw [hr.2.1]; exact hin9) (by rw [hr.2.1]; exact hle9)) (cwV 2 hts (goodIn_wid gL_lines_X10_lengthOf) rfl rfl rfl (by decide +kernel) ⟨Nat.le_of_ble_eq_true rfl, Nat.le_of_ble_eq_true rfl⟩) hK hP hD hS hA hZ ⟨(List.append_nil _).symm, rfl, (by decide)⟩ ⟨fun _ => (List.append_nil _).symm, fun _ => rfl, (by decide)⟩ (ci := 12) (q0 := 0) rfl rfl (zW_0 tA K ad g135_16) rfl rfl hl.1 (Nat.le_of_ble_eq_true rfl) dL_lines_169 (by show _ + 0 ≤ 3000 ∧ _ + 0 ≤ 18000; omega) ?_
              intro z169_20 g169_19 H locs hp9 hP hD hS
              have q169 := hp9.2
              try rw [hr.2.1] at q169
              have hr := RDO_trans hr hp9.1
              clear hp9
              have hz169 : z169_20 = (GL_v g 4 k_) := by exact lgp h4f q169
              subst hz169
              refine zc_callVr_ch (As := [.int (iI (GL_v g 4 k_))]) (rest := []) (L := [zW tA K ad g169_19, bSB tA 16 q139_18 a139_18 0 z0F (((([] ++ dgL (GL_v g 2 k_)) ++ [45]) ++ dgL (GL_v g 3 k_)) ++ [58])]) (Lc := [bSB tA 16 q139_18 a139_18 0 z0F (((([] ++ dgL (GL_v g 2 k_)) ++ [45]) ++ dgL (GL_v g 3 k_)) ++ [58])]) (Lr := [zW tA K ad g169_19]) (Lc' := fun (u : Unit) => [bSB tA 16 q139_18 a139_18 0 z0F ((((([] ++ dgL (GL_v g 2 k_)) ++ [45]) ++ dgL (GL_v g 3 k_)) ++ [58]) ++ dgL (GL_v g 4 k_))]) (Lf := fun (u : Unit) => [zW tA K ad g169_19, bSB tA 16 q139_18 a139_18 0 z0F ((((([] ++ dgL (GL_v g 2 k_)) ++ [45]) ++ dgL (GL_v g 3 k_)) ++ [58]) ++ dgL (GL_v g 4 k_))]) (is := [1, 0]) (isF := [0, 1]) ⟨hx, hb, hml, hown, hts⟩ (c_apI l K D tA q139_18 a139_18 H.size 0 z0F (((([] ++ dgL (GL_v g 2 k_)) ++ [45]) ++ dgL (GL_v g 3 k_)) ++ [58]) (GL_v g 4 k_) (by omega) (by omega) (by unfold dgN; simp only [List.length_append, List.length_cons, List.length_nil]; omega)) (cwV 1 hts (goodIn_wid gL_lines_J4_append_bf812) rfl rfl rfl (by decide +kernel) ⟨Nat.le_of_ble_eq_true rfl, Nat.le_of_ble_eq_true rfl⟩) hK hP hD hS hA hZ.2.2.2 ⟨rfl, rfl, (by decide)⟩ ⟨fun _ => rfl, fun _ => rfl, (by decide)⟩ (ci := 1) (q0 := 0) rfl rfl rfl rfl rfl hl.1 (Nat.le_of_ble_eq_true rfl) dL_lines_172 (by show _ + 0 ≤ 3000 ∧ _ + 0 ≤ 18000; omega) ?_
              intro u H locs hp9 hP hD hS
              have hP : va_P D vwCl [zW tA K ad g169_19, bSB tA 16 q139_18 a139_18 0 z0F ((((([] ++ dgL (GL_v g 2 k_)) ++ [45]) ++ dgL (GL_v g 3 k_)) ++ [58]) ++ dgL (GL_v g 4 k_))].flatten H := hP
              have hD : va_D A [zW tA K ad g169_19, bSB tA 16 q139_18 a139_18 0 z0F ((((([] ++ dgL (GL_v g 2 k_)) ++ [45]) ++ dgL (GL_v g 3 k_)) ++ [58]) ++ dgL (GL_v g 4 k_))].flatten := hD
              refine zz_ldcwS hx hb hown (hZ.2.2.2.2.1 (338, "/", 18) (by decide)) dL_lines_175 ?_
              refine zc_callVr_ch (As := [.ref (K (100 + 18))]) (rest := []) (L := [zW tA K ad g169_19, bSB tA 16 q139_18 a139_18 0 z0F ((((([] ++ dgL (GL_v g 2 k_)) ++ [45]) ++ dgL (GL_v g 3 k_)) ++ [58]) ++ dgL (GL_v g 4 k_))]) (Lc := [bSB tA 16 q139_18 a139_18 0 z0F ((((([] ++ dgL (GL_v g 2 k_)) ++ [45]) ++ dgL (GL_v g 3 k_)) ++ [58]) ++ dgL (GL_v g 4 k_))]) (Lr := [zW tA K ad g169_19]) (Lc' := fun (u : Unit) => [bSB tA 16 q139_18 a139_18 0 z0F (((((([] ++ dgL (GL_v g 2 k_)) ++ [45]) ++ dgL (GL_v g 3 k_)) ++ [58]) ++ dgL (GL_v g 4 k_)) ++ sTx.getD 18 [])]) (Lf := fun (u : Unit) => [zW tA K ad g169_19, bSB tA 16 q139_18 a139_18 0 z0F (((((([] ++ dgL (GL_v g 2 k_)) ++ [45]) ++ dgL (GL_v g 3 k_)) ++ [58]) ++ dgL (GL_v g 4 k_)) ++ sTx.getD 18 [])]) (is := [1, 0]) (isF := [0, 1]) ⟨hx, hb, hml, hown, hts⟩ (c_apK l K D tA q139_18 a139_18 H.size 0 z0F ((((([] ++ dgL (GL_v g 2 k_)) ++ [45]) ++ dgL (GL_v g 3 k_)) ++ [58]) ++ dgL (GL_v g 4 k_)) 16 18 (by decide) (by decide) (by rw [show sLn 18 = 1 from rfl]; simp only [List.length_append, List.length_cons, List.length_nil]; omega)) (cwV 1 hts (goodIn_wid gL_lines_J4_append_15ec4) rfl rfl rfl (by decide +kernel) ⟨Nat.le_of_ble_eq_true rfl, Nat.le_of_ble_eq_true rfl⟩) hK hP hD hS hA hZ.2.2.2 ⟨rfl, rfl, (by decide)⟩ ⟨fun _ => rfl, fun _ => rfl, (by decide)⟩ (ci := 1) (q0 := 0) rfl rfl rfl rfl rfl hl.1 (Nat.le_of_ble_eq_true rfl) dL_lines_178 (by show _ + 0 ≤ 3000 ∧ _ + 0 ≤ 18000; omega) ?_
              intro u H locs hp9 hP hD hS
              have hP : va_P D vwCl [zW tA K ad g169_19, bSB tA 16 q139_18 a139_18 0 z0F (((((([] ++ dgL (GL_v g 2 k_)) ++ [45]) ++ dgL (GL_v g 3 k_)) ++ [58]) ++ dgL (GL_v g 4 k_)) ++ [47])].flatten H := hP
              have hD : va_D A [zW tA K ad g169_19, bSB tA 16 q139_18 a139_18 0 z0F (((((([] ++ dgL (GL_v g 2 k_)) ++ [45]) ++ dgL (GL_v g 3 k_)) ++ [58]) ++ dgL (GL_v g 4 k_)) ++ [47])].flatten := hD
              refine lv_aload_n hx hb dL_lines_181 rfl (lv_at hl 3 rfl) ?_
              refine lv_iload_n hx hb dL_lines_182 rfl (lv_at hl 1 rfl) ?_
              refine lv_iload_n hx hb dL_lines_183 rfl (lv_at hl 0 rfl) ?_
              refine zt_callVi (As := [.int (iI (GL_v g 2 k_)), .int (iI (GL_v g 3 k_))]) (rest := [.ref q139_18]) (L := [zW tA K ad g169_19, bSB tA 16 q139_18 a139_18 0 z0F (((((([] ++ dgL (GL_v g 2 k_)) ++ [45]) ++ dgL (GL_v g 3 k_)) ++ [58]) ++ dgL (GL_v g 4 k_)) ++ [47])]) (Lc := [zW tA K ad g169_19]) (Lr := [bSB tA 16 q139_18 a139_18 0 z0F (((((([] ++ dgL (GL_v g 2 k_)) ++ [45]) ++ dgL (GL_v g 3 k_)) ++ [58]) ++ dgL (GL_v g 4 k_)) ++ [47])]) (Lc' := fun (u : GL) => [zW tA K ad u]) (Lf := fun (u : GL) => [zW tA K ad u, bSB tA 16 q139_18 a139_18 0 z0F (((((([] ++ dgL (GL_v g 2 k_)) ++ [45]) ++ dgL (GL_v g 3 k_)) ++ [58]) ++ dgL (GL_v g 4 k_)) ++ [47])]) (is := [0, 1]) (isF := [1, 0]) ⟨hx, hb, hml, hown, hts⟩ (q_X10_reachOf_n hst hB hr.1 (GL_v g 2 k_) (GL_v g 3 k_) (by omega) (by omega) (by rw [hr.2.1]; exact hin9) (by rw [hr.2.1]; exact hle9)) (cwV 2 hts (goodIn_wid gL_lines_X10_reachOf) rfl rfl rfl (by decide +kernel) ⟨Nat.le_of_ble_eq_true rfl, Nat.le_of_ble_eq_true rfl⟩) hK hP hD hS hA hZ ⟨(List.append_nil _).symm, rfl, (by decide)⟩ ⟨fun _ => (List.append_nil _).symm, fun _ => rfl, (by decide)⟩ (ci := 12) (q0 := 0) rfl rfl (zW_0 tA K ad g169_19) rfl rfl hl.1 (Nat.le_of_ble_eq_true rfl) dL_lines_184 (by show _ + 0 ≤ 3000 ∧ _ + 0 ≤ 18000; omega) ?_
              intro z184_22 g184_21 H locs hp9 hP hD hS
              have q184 := hp9.2
              try rw [hr.2.1] at q184
              have hr := RDO_trans hr hp9.1
              clear hp9
              have hz184 : z184_22 = (GL_v g 5 k_) := by exact lgp h4f q184
              subst hz184
              refine zc_callVr_ch (As := [.int (iI (GL_v g 5 k_))]) (rest := []) (L := [zW tA K ad g184_21, bSB tA 16 q139_18 a139_18 0 z0F (((((([] ++ dgL (GL_v g 2 k_)) ++ [45]) ++ dgL (GL_v g 3 k_)) ++ [58]) ++ dgL (GL_v g 4 k_)) ++ [47])]) (Lc := [bSB tA 16 q139_18 a139_18 0 z0F (((((([] ++ dgL (GL_v g 2 k_)) ++ [45]) ++ dgL (GL_v g 3 k_)) ++ [58]) ++ dgL (GL_v g 4 k_)) ++ [47])]) (Lr := [zW tA K ad g184_21]) (Lc' := fun (u : Unit) => [bSB tA 16 q139_18 a139_18 0 z0F ((((((([] ++ dgL (GL_v g 2 k_)) ++ [45]) ++ dgL (GL_v g 3 k_)) ++ [58]) ++ dgL (GL_v g 4 k_)) ++ [47]) ++ dgL (GL_v g 5 k_))]) (Lf := fun (u : Unit) => [zW tA K ad g184_21, bSB tA 16 q139_18 a139_18 0 z0F ((((((([] ++ dgL (GL_v g 2 k_)) ++ [45]) ++ dgL (GL_v g 3 k_)) ++ [58]) ++ dgL (GL_v g 4 k_)) ++ [47]) ++ dgL (GL_v g 5 k_))]) (is := [1, 0]) (isF := [0, 1]) ⟨hx, hb, hml, hown, hts⟩ (c_apI l K D tA q139_18 a139_18 H.size 0 z0F (((((([] ++ dgL (GL_v g 2 k_)) ++ [45]) ++ dgL (GL_v g 3 k_)) ++ [58]) ++ dgL (GL_v g 4 k_)) ++ [47]) (GL_v g 5 k_) (by omega) (by omega) (by unfold dgN; simp only [List.length_append, List.length_cons, List.length_nil]; omega)) (cwV 1 hts (goodIn_wid gL_lines_J4_append_bf812) rfl rfl rfl (by decide +kernel) ⟨Nat.le_of_ble_eq_true rfl, Nat.le_of_ble_eq_true rfl⟩) hK hP hD hS hA hZ.2.2.2 ⟨rfl, rfl, (by decide)⟩ ⟨fun _ => rfl, fun _ => rfl, (by decide)⟩ (ci := 1) (q0 := 0) rfl rfl rfl rfl rfl hl.1 (Nat.le_of_ble_eq_true rfl) dL_lines_187 (by show _ + 0 ≤ 3000 ∧ _ + 0 ≤ 18000; omega) ?_
              intro u H locs hp9 hP hD hS
              have hP : va_P D vwCl [zW tA K ad g184_21, bSB tA 16 q139_18 a139_18 0 z0F ((((((([] ++ dgL (GL_v g 2 k_)) ++ [45]) ++ dgL (GL_v g 3 k_)) ++ [58]) ++ dgL (GL_v g 4 k_)) ++ [47]) ++ dgL (GL_v g 5 k_))].flatten H := hP
              have hD : va_D A [zW tA K ad g184_21, bSB tA 16 q139_18 a139_18 0 z0F ((((((([] ++ dgL (GL_v g 2 k_)) ++ [45]) ++ dgL (GL_v g 3 k_)) ++ [58]) ++ dgL (GL_v g 4 k_)) ++ [47]) ++ dgL (GL_v g 5 k_))].flatten := hD
              refine lv_aload_n hx hb dL_lines_190 rfl (lv_at hl 3 rfl) ?_
              refine lv_iload_n hx hb dL_lines_191 rfl (lv_at hl 1 rfl) ?_
              refine lv_iload_n hx hb dL_lines_192 rfl (lv_at hl 0 rfl) ?_
              refine zt_callVi (As := [.int (iI (GL_v g 2 k_)), .int (iI (GL_v g 3 k_))]) (rest := [.ref q139_18]) (L := [zW tA K ad g184_21, bSB tA 16 q139_18 a139_18 0 z0F ((((((([] ++ dgL (GL_v g 2 k_)) ++ [45]) ++ dgL (GL_v g 3 k_)) ++ [58]) ++ dgL (GL_v g 4 k_)) ++ [47]) ++ dgL (GL_v g 5 k_))]) (Lc := [zW tA K ad g184_21]) (Lr := [bSB tA 16 q139_18 a139_18 0 z0F ((((((([] ++ dgL (GL_v g 2 k_)) ++ [45]) ++ dgL (GL_v g 3 k_)) ++ [58]) ++ dgL (GL_v g 4 k_)) ++ [47]) ++ dgL (GL_v g 5 k_))]) (Lc' := fun (u : GL) => [zW tA K ad u]) (Lf := fun (u : GL) => [zW tA K ad u, bSB tA 16 q139_18 a139_18 0 z0F ((((((([] ++ dgL (GL_v g 2 k_)) ++ [45]) ++ dgL (GL_v g 3 k_)) ++ [58]) ++ dgL (GL_v g 4 k_)) ++ [47]) ++ dgL (GL_v g 5 k_))]) (is := [0, 1]) (isF := [1, 0]) ⟨hx, hb, hml, hown, hts⟩ (q_X10_isLit_t hst hB hr.1 (GL_v g 2 k_) (GL_v g 3 k_) (by omega) (by omega) (by rw [hr.2.1]; exact hin9) (by rw [hr.2.1]; exact hle9)) (cwV 2 hts (goodIn_wid gL_lines_X10_isLit) rfl rfl rfl (by decide +kernel) ⟨Nat.le_of_ble_eq_true rfl, Nat.le_of_ble_eq_true rfl⟩) hK hP hD hS hA hZ ⟨(List.append_nil _).symm, rfl, (by decide)⟩ ⟨fun _ => (List.append_nil _).symm, fun _ => rfl, (by decide)⟩ (ci := 12) (q0 := 0) rfl rfl (zW_0 tA K ad g184_21) rfl rfl hl.1 (Nat.le_of_ble_eq_true rfl) dL_lines_193 (by show _ + 2 ≤ 3000 ∧ _ + 12 ≤ 18000; omega) ?_
              intro z193_24 g193_23 H locs hp9 hP hD hS
              have q193 := hp9.2
              try rw [hr.2.1] at q193
              have hr := RDO_trans hr hp9.1
              clear hp9
              have q193 := lgl h4f q193.2
              refine zz_if_eq (tgt := 205) hx hb dL_lines_196 (by decide) (by omega) (fun c_196 => ?_) (fun c_196 => ?_)
              · refine zz_ldcwS hx hb hown (hZ.2.2.2.2.1 (342, "", 23) (by decide)) dL_lines_205 ?_
                refine zc_callVr_ch (As := [.ref (K (100 + 23))]) (rest := []) (L := [zW tA K ad g193_23, bSB tA 16 q139_18 a139_18 0 z0F ((((((([] ++ dgL (GL_v g 2 k_)) ++ [45]) ++ dgL (GL_v g 3 k_)) ++ [58]) ++ dgL (GL_v g 4 k_)) ++ [47]) ++ dgL (GL_v g 5 k_))]) (Lc := [bSB tA 16 q139_18 a139_18 0 z0F ((((((([] ++ dgL (GL_v g 2 k_)) ++ [45]) ++ dgL (GL_v g 3 k_)) ++ [58]) ++ dgL (GL_v g 4 k_)) ++ [47]) ++ dgL (GL_v g 5 k_))]) (Lr := [zW tA K ad g193_23]) (Lc' := fun (u : Unit) => [bSB tA 16 q139_18 a139_18 0 z0F (((((((([] ++ dgL (GL_v g 2 k_)) ++ [45]) ++ dgL (GL_v g 3 k_)) ++ [58]) ++ dgL (GL_v g 4 k_)) ++ [47]) ++ dgL (GL_v g 5 k_)) ++ sTx.getD 23 [])]) (Lf := fun (u : Unit) => [zW tA K ad g193_23, bSB tA 16 q139_18 a139_18 0 z0F (((((((([] ++ dgL (GL_v g 2 k_)) ++ [45]) ++ dgL (GL_v g 3 k_)) ++ [58]) ++ dgL (GL_v g 4 k_)) ++ [47]) ++ dgL (GL_v g 5 k_)) ++ sTx.getD 23 [])]) (is := [1, 0]) (isF := [0, 1]) ⟨hx, hb, hml, hown, hts⟩ (c_apK l K D tA q139_18 a139_18 H.size 0 z0F ((((((([] ++ dgL (GL_v g 2 k_)) ++ [45]) ++ dgL (GL_v g 3 k_)) ++ [58]) ++ dgL (GL_v g 4 k_)) ++ [47]) ++ dgL (GL_v g 5 k_)) 16 23 (by decide) (by decide) (by rw [show sLn 23 = 0 from rfl]; simp only [List.length_append, List.length_cons, List.length_nil]; omega)) (cwV 1 hts (goodIn_wid gL_lines_J4_append_15ec4) rfl rfl rfl (by decide +kernel) ⟨Nat.le_of_ble_eq_true rfl, Nat.le_of_ble_eq_true rfl⟩) hK hP hD hS hA hZ.2.2.2 ⟨rfl, rfl, (by decide)⟩ ⟨fun _ => rfl, fun _ => rfl, (by decide)⟩ (ci := 1) (q0 := 0) rfl rfl rfl rfl rfl hl.1 (Nat.le_of_ble_eq_true rfl) dL_lines_208 (by show _ + 0 ≤ 3000 ∧ _ + 0 ≤ 18000; omega) ?_
                intro u H locs hp9 hP hD hS
                have hP : va_P D vwCl [zW tA K ad g193_23, bSB tA 16 q139_18 a139_18 0 z0F (((((((([] ++ dgL (GL_v g 2 k_)) ++ [45]) ++ dgL (GL_v g 3 k_)) ++ [58]) ++ dgL (GL_v g 4 k_)) ++ [47]) ++ dgL (GL_v g 5 k_)) ++ [])].flatten H := hP
                have hD : va_D A [zW tA K ad g193_23, bSB tA 16 q139_18 a139_18 0 z0F (((((((([] ++ dgL (GL_v g 2 k_)) ++ [45]) ++ dgL (GL_v g 3 k_)) ++ [58]) ++ dgL (GL_v g 4 k_)) ++ [47]) ++ dgL (GL_v g 5 k_)) ++ [])].flatten := hD
                refine zc_callVA_ch (As := []) (rest := []) (L := [zW tA K ad g193_23, bSB tA 16 q139_18 a139_18 0 z0F (((((((([] ++ dgL (GL_v g 2 k_)) ++ [45]) ++ dgL (GL_v g 3 k_)) ++ [58]) ++ dgL (GL_v g 4 k_)) ++ [47]) ++ dgL (GL_v g 5 k_)) ++ [])]) (Lc := [bSB tA 16 q139_18 a139_18 0 z0F (((((((([] ++ dgL (GL_v g 2 k_)) ++ [45]) ++ dgL (GL_v g 3 k_)) ++ [58]) ++ dgL (GL_v g 4 k_)) ++ [47]) ++ dgL (GL_v g 5 k_)) ++ [])]) (Lr := [zW tA K ad g193_23]) (Lc' := fun (u : Nat × Nat) => [bSB tA 16 q139_18 a139_18 0 z0F (((((((([] ++ dgL (GL_v g 2 k_)) ++ [45]) ++ dgL (GL_v g 3 k_)) ++ [58]) ++ dgL (GL_v g 4 k_)) ++ [47]) ++ dgL (GL_v g 5 k_)) ++ []), bStr tA u.1 u.2 (((((((([] ++ dgL (GL_v g 2 k_)) ++ [45]) ++ dgL (GL_v g 3 k_)) ++ [58]) ++ dgL (GL_v g 4 k_)) ++ [47]) ++ dgL (GL_v g 5 k_)) ++ [])]) (Lf := fun (u : Nat × Nat) => [zW tA K ad g193_23, bStr tA u.1 u.2 (((((((([] ++ dgL (GL_v g 2 k_)) ++ [45]) ++ dgL (GL_v g 3 k_)) ++ [58]) ++ dgL (GL_v g 4 k_)) ++ [47]) ++ dgL (GL_v g 5 k_)) ++ [])]) (is := [1, 0]) (isF := [0, 2]) ⟨hx, hb, hml, hown, hts⟩ (c_toS l K D tA q139_18 a139_18 H.size 0 z0F (((((((([] ++ dgL (GL_v g 2 k_)) ++ [45]) ++ dgL (GL_v g 3 k_)) ++ [58]) ++ dgL (GL_v g 4 k_)) ++ [47]) ++ dgL (GL_v g 5 k_)) ++ []) 16 (by repeat' first | exact ch_0 | exact ch_dg _ | exact ch_1 (by decide) | exact ch_lit (by decide) | refine ch_app ?_ ?_) (by decide) (by simp only [List.length_append, List.length_cons, List.length_nil]; omega)) (cwV 0 hts (goodIn_wid gL_lines_J4_toString_0e30d) rfl rfl rfl (by decide +kernel) ⟨Nat.le_of_ble_eq_true rfl, Nat.le_of_ble_eq_true rfl⟩) hK hP hD hS hA hZ.2.2.2 ⟨rfl, rfl, (by decide)⟩ ⟨fun _ => rfl, fun _ => rfl, (by decide)⟩ (ci := 1) (q0 := 0) rfl rfl rfl rfl rfl hl.1 (Nat.le_of_ble_eq_true rfl) dL_lines_211 (by show _ + 2 ≤ 3000 ∧ _ + 68 ≤ 18000; omega) ?_
                intro u H locs hp9 hP hD hS
                obtain ⟨s211_25, v211_25⟩ := u
                have hP : va_P D vwCl [zW tA K ad g193_23, bStr tA s211_25 v211_25 (((((((([] ++ dgL (GL_v g 2 k_)) ++ [45]) ++ dgL (GL_v g 3 k_)) ++ [58]) ++ dgL (GL_v g 4 k_)) ++ [47]) ++ dgL (GL_v g 5 k_)) ++ [])].flatten H := hP
                have hD : va_D A [zW tA K ad g193_23, bStr tA s211_25 v211_25 (((((((([] ++ dgL (GL_v g 2 k_)) ++ [45]) ++ dgL (GL_v g 3 k_)) ++ [58]) ++ dgL (GL_v g 4 k_)) ++ [47]) ++ dgL (GL_v g 5 k_)) ++ [])].flatten := hD
                refine lv_astore (lv' := [(4, .ref s211_25), (3, .int (iI (GL_v g 3 k_))), (2, .int (iI (GL_v g 2 k_))), (1, .int (iI k_)), (0, .ref (ad 0))]) hx hb dL_lines_214 hl (by decide) rfl (fun ls hl => ?_)
                refine lv_aload_n hx hb dL_lines_216 rfl (lv_at hl 4 rfl) ?_
                refine lv_aload_n hx hb dL_lines_217 rfl (lv_at hl 4 rfl) ?_
                refine lv_iload_n hx hb dL_lines_218 rfl (lv_at hl 3 rfl) ?_
                refine zh_callSi_ch (As := [.ref (ad 0), .int (iI k_)]) (rest := [.ref (ad 0)]) (L := [zW tA K ad g193_23, bStr tA s211_25 v211_25 (((((((([] ++ dgL (GL_v g 2 k_)) ++ [45]) ++ dgL (GL_v g 3 k_)) ++ [58]) ++ dgL (GL_v g 4 k_)) ++ [47]) ++ dgL (GL_v g 5 k_)) ++ [])]) (Lc := [zW tA K ad g193_23]) (Lr := [bStr tA s211_25 v211_25 (((((((([] ++ dgL (GL_v g 2 k_)) ++ [45]) ++ dgL (GL_v g 3 k_)) ++ [58]) ++ dgL (GL_v g 4 k_)) ++ [47]) ++ dgL (GL_v g 5 k_)) ++ [])]) (Lc' := fun (u : GL) => [zW tA K ad u]) (Lf := fun (u : GL) => [zW tA K ad u, bStr tA s211_25 v211_25 (((((((([] ++ dgL (GL_v g 2 k_)) ++ [45]) ++ dgL (GL_v g 3 k_)) ++ [58]) ++ dgL (GL_v g 4 k_)) ++ [47]) ++ dgL (GL_v g 5 k_)) ++ [])]) (is := [0, 1]) (isF := [1, 0]) ⟨hx, hb, hml, hown, hts⟩ (q_L_writeLeg hst hB hr.1 k_ (by omega)) (vx_cwSW 2 hts (gx_ww gL_lines_L_writeLeg) rfl rfl rfl (by decide +kernel) ⟨Nat.le_of_ble_eq_true rfl, Nat.le_of_ble_eq_true rfl⟩) hK hP hD hS hA hZ ⟨(List.append_nil _).symm, rfl, (by decide)⟩ ⟨fun _ => (List.append_nil _).symm, fun _ => rfl, (by decide)⟩ rfl rfl hl.1 (Nat.le_of_ble_eq_true rfl) dL_lines_219 (by show _ + 1 ≤ 3000 ∧ _ + 6 ≤ 18000; omega) ?_
                intro z219_27 g219_26 H locs hp9 hP hD hS
                have q219 := hp9.2
                try rw [hr.2.1] at q219
                have hr := RDO_trans hr hp9.1
                clear hp9
                obtain ⟨hz9, hc9, hb9, h169⟩ := q219.elim (fun h => absurd ⟨by omega, by omega⟩ h.1) (fun h => h.2)
                refine lv_aload hx hb dL_lines_222 (lv_at hl 0 rfl) ?_
                have htxt : (((((((([] ++ dgL (GL_v g 2 k_)) ++ [45]) ++ dgL (GL_v g 3 k_)) ++ [58]) ++ dgL (GL_v g 4 k_)) ++ [47]) ++ dgL (GL_v g 5 k_)) ++ []) = legLn (GL_v g 2 k_) (GL_v g 3 k_) (GL_v g 4 k_) (GL_v g 5 k_) (GL_v g 13 0) := by
                  unfold legLn
                  rw [if_neg (by omega), List.append_nil]
                have hchr : ∀ v ∈ (((((((([] ++ dgL (GL_v g 2 k_)) ++ [45]) ++ dgL (GL_v g 3 k_)) ++ [58]) ++ dgL (GL_v g 4 k_)) ++ [47]) ++ dgL (GL_v g 5 k_)) ++ []), 0 ≤ v ∧ v ≤ 127 := by rw [htxt]; exact legLn_ch _ _ _ _ _
                have hlen : z219_27 = ((((((((((([] ++ dgL (GL_v g 2 k_)) ++ [45]) ++ dgL (GL_v g 3 k_)) ++ [58]) ++ dgL (GL_v g 4 k_)) ++ [47]) ++ dgL (GL_v g 5 k_)) ++ [])).length : Nat) : Int) := by rw [htxt]; exact hz9
                have hsn : ((((((((([] ++ dgL (GL_v g 2 k_)) ++ [45]) ++ dgL (GL_v g 3 k_)) ++ [58]) ++ dgL (GL_v g 4 k_)) ++ [47]) ++ dgL (GL_v g 5 k_)) ++ [])).length ≤ 64 := by omega
                have hag : GL_lct g219_26 = ((((((((((([] ++ dgL (GL_v g 2 k_)) ++ [45]) ++ dgL (GL_v g 3 k_)) ++ [58]) ++ dgL (GL_v g 4 k_)) ++ [47]) ++ dgL (GL_v g 5 k_)) ++ [])).length : Nat) : Int) ∧ ∀ j : Int, 0 ≤ j → j < ((((((((((([] ++ dgL (GL_v g 2 k_)) ++ [45]) ++ dgL (GL_v g 3 k_)) ++ [58]) ++ dgL (GL_v g 4 k_)) ++ [47]) ++ dgL (GL_v g 5 k_)) ++ [])).length : Nat) : Int) → GL_lnb g219_26 j = tF (((((((([] ++ dgL (GL_v g 2 k_)) ++ [45]) ++ dgL (GL_v g 3 k_)) ++ [58]) ++ dgL (GL_v g 4 k_)) ++ [47]) ++ dgL (GL_v g 5 k_)) ++ []) j := ⟨hc9.trans hlen, fun j j0 j1 => by rw [hb9, ← htxt]; exact wrL_tF j j0 j1⟩
                refine zt_callSi (As := [.ref (ad 0), .int (iI z219_27), .ref s211_25]) (rest := []) (L := [zW tA K ad g219_26, bStr tA s211_25 v211_25 (((((((([] ++ dgL (GL_v g 2 k_)) ++ [45]) ++ dgL (GL_v g 3 k_)) ++ [58]) ++ dgL (GL_v g 4 k_)) ++ [47]) ++ dgL (GL_v g 5 k_)) ++ [])]) (Lc := [zW tA K ad g219_26, bStr tA s211_25 v211_25 (((((((([] ++ dgL (GL_v g 2 k_)) ++ [45]) ++ dgL (GL_v g 3 k_)) ++ [58]) ++ dgL (GL_v g 4 k_)) ++ [47]) ++ dgL (GL_v g 5 k_)) ++ [])]) (Lr := []) (Lc' := fun (u : GL) => [zW tA K ad u]) (Lf := fun (u : GL) => [zW tA K ad u]) (is := [0, 1]) (isF := [0]) ⟨hx, hb, hml, hown, hts⟩ (q_L_spells hst hB hr.1 s211_25 v211_25 z219_27 (((((((([] ++ dgL (GL_v g 2 k_)) ++ [45]) ++ dgL (GL_v g 3 k_)) ++ [58]) ++ dgL (GL_v g 4 k_)) ++ [47]) ++ dgL (GL_v g 5 k_)) ++ []) hchr hsn hlen hag) (va_cwS 3 hts (gx_ww gL_lines_L_spells) rfl rfl rfl (by decide +kernel) ⟨Nat.le_of_ble_eq_true rfl, Nat.le_of_ble_eq_true rfl⟩) hK hP hD hS hA hZ ⟨rfl, rfl, (by decide)⟩ ⟨fun _ => (List.append_nil _).symm, fun _ => rfl, (by decide)⟩ rfl rfl hl.1 (Nat.le_of_ble_eq_true rfl) dL_lines_224 (by show _ + 70 ≤ 3000 ∧ _ + 420 ≤ 18000; omega) ?_
                intro z224_28 g224_28 H locs hp9 hP hD hS
                have q224 := hp9.2
                have hr := RDO_trans hr hp9.1
                clear hp9
                refine zz_if_ne (tgt := 232) hx hb dL_lines_227 (by decide) (by omega) (fun c_227 => ?_) (fun c_227 => ?_)
                · refine zz_iinc (lv' := [(1, .int (iI (k_ + 1))), (4, .ref s211_25), (3, .int (iI (GL_v g 3 k_))), (2, .int (iI (GL_v g 2 k_))), (0, .ref (ad 0))]) hx hb dL_lines_232 hl (k := 3) rfl (by decide) rfl (fun ls hl => ?_)
                  refine lv_goto (tgt := 119) hx hb dL_lines_235 (by decide) ?_
                  exact ih119 (k_ + 1) g224_28 _ _ _ _ _ (by exact hr) (by omega) (by omega) (by omega) hP hD hS (lv_sub hl [0, 4] rfl)
                · exfalso
                  omega
              · refine zz_ldcwS hx hb hown (hZ.2.2.2.2.1 (340, "*", 19) (by decide)) dL_lines_199 ?_
                refine lv_goto (tgt := 208) hx hb dL_lines_202 (by decide) ?_
                refine zc_callVr_ch (As := [.ref (K (100 + 19))]) (rest := []) (L := [zW tA K ad g193_23, bSB tA 16 q139_18 a139_18 0 z0F ((((((([] ++ dgL (GL_v g 2 k_)) ++ [45]) ++ dgL (GL_v g 3 k_)) ++ [58]) ++ dgL (GL_v g 4 k_)) ++ [47]) ++ dgL (GL_v g 5 k_))]) (Lc := [bSB tA 16 q139_18 a139_18 0 z0F ((((((([] ++ dgL (GL_v g 2 k_)) ++ [45]) ++ dgL (GL_v g 3 k_)) ++ [58]) ++ dgL (GL_v g 4 k_)) ++ [47]) ++ dgL (GL_v g 5 k_))]) (Lr := [zW tA K ad g193_23]) (Lc' := fun (u : Unit) => [bSB tA 16 q139_18 a139_18 0 z0F (((((((([] ++ dgL (GL_v g 2 k_)) ++ [45]) ++ dgL (GL_v g 3 k_)) ++ [58]) ++ dgL (GL_v g 4 k_)) ++ [47]) ++ dgL (GL_v g 5 k_)) ++ sTx.getD 19 [])]) (Lf := fun (u : Unit) => [zW tA K ad g193_23, bSB tA 16 q139_18 a139_18 0 z0F (((((((([] ++ dgL (GL_v g 2 k_)) ++ [45]) ++ dgL (GL_v g 3 k_)) ++ [58]) ++ dgL (GL_v g 4 k_)) ++ [47]) ++ dgL (GL_v g 5 k_)) ++ sTx.getD 19 [])]) (is := [1, 0]) (isF := [0, 1]) ⟨hx, hb, hml, hown, hts⟩ (c_apK l K D tA q139_18 a139_18 H.size 0 z0F ((((((([] ++ dgL (GL_v g 2 k_)) ++ [45]) ++ dgL (GL_v g 3 k_)) ++ [58]) ++ dgL (GL_v g 4 k_)) ++ [47]) ++ dgL (GL_v g 5 k_)) 16 19 (by decide) (by decide) (by rw [show sLn 19 = 1 from rfl]; simp only [List.length_append, List.length_cons, List.length_nil]; omega)) (cwV 1 hts (goodIn_wid gL_lines_J4_append_15ec4) rfl rfl rfl (by decide +kernel) ⟨Nat.le_of_ble_eq_true rfl, Nat.le_of_ble_eq_true rfl⟩) hK hP hD hS hA hZ.2.2.2 ⟨rfl, rfl, (by decide)⟩ ⟨fun _ => rfl, fun _ => rfl, (by decide)⟩ (ci := 1) (q0 := 0) rfl rfl rfl rfl rfl hl.1 (Nat.le_of_ble_eq_true rfl) dL_lines_208 (by show _ + 0 ≤ 3000 ∧ _ + 0 ≤ 18000; omega) ?_
                intro u H locs hp9 hP hD hS
                have hP : va_P D vwCl [zW tA K ad g193_23, bSB tA 16 q139_18 a139_18 0 z0F (((((((([] ++ dgL (GL_v g 2 k_)) ++ [45]) ++ dgL (GL_v g 3 k_)) ++ [58]) ++ dgL (GL_v g 4 k_)) ++ [47]) ++ dgL (GL_v g 5 k_)) ++ [42])].flatten H := hP
                have hD : va_D A [zW tA K ad g193_23, bSB tA 16 q139_18 a139_18 0 z0F (((((((([] ++ dgL (GL_v g 2 k_)) ++ [45]) ++ dgL (GL_v g 3 k_)) ++ [58]) ++ dgL (GL_v g 4 k_)) ++ [47]) ++ dgL (GL_v g 5 k_)) ++ [42])].flatten := hD
                refine zc_callVA_ch (As := []) (rest := []) (L := [zW tA K ad g193_23, bSB tA 16 q139_18 a139_18 0 z0F (((((((([] ++ dgL (GL_v g 2 k_)) ++ [45]) ++ dgL (GL_v g 3 k_)) ++ [58]) ++ dgL (GL_v g 4 k_)) ++ [47]) ++ dgL (GL_v g 5 k_)) ++ [42])]) (Lc := [bSB tA 16 q139_18 a139_18 0 z0F (((((((([] ++ dgL (GL_v g 2 k_)) ++ [45]) ++ dgL (GL_v g 3 k_)) ++ [58]) ++ dgL (GL_v g 4 k_)) ++ [47]) ++ dgL (GL_v g 5 k_)) ++ [42])]) (Lr := [zW tA K ad g193_23]) (Lc' := fun (u : Nat × Nat) => [bSB tA 16 q139_18 a139_18 0 z0F (((((((([] ++ dgL (GL_v g 2 k_)) ++ [45]) ++ dgL (GL_v g 3 k_)) ++ [58]) ++ dgL (GL_v g 4 k_)) ++ [47]) ++ dgL (GL_v g 5 k_)) ++ [42]), bStr tA u.1 u.2 (((((((([] ++ dgL (GL_v g 2 k_)) ++ [45]) ++ dgL (GL_v g 3 k_)) ++ [58]) ++ dgL (GL_v g 4 k_)) ++ [47]) ++ dgL (GL_v g 5 k_)) ++ [42])]) (Lf := fun (u : Nat × Nat) => [zW tA K ad g193_23, bStr tA u.1 u.2 (((((((([] ++ dgL (GL_v g 2 k_)) ++ [45]) ++ dgL (GL_v g 3 k_)) ++ [58]) ++ dgL (GL_v g 4 k_)) ++ [47]) ++ dgL (GL_v g 5 k_)) ++ [42])]) (is := [1, 0]) (isF := [0, 2]) ⟨hx, hb, hml, hown, hts⟩ (c_toS l K D tA q139_18 a139_18 H.size 0 z0F (((((((([] ++ dgL (GL_v g 2 k_)) ++ [45]) ++ dgL (GL_v g 3 k_)) ++ [58]) ++ dgL (GL_v g 4 k_)) ++ [47]) ++ dgL (GL_v g 5 k_)) ++ [42]) 16 (by repeat' first | exact ch_0 | exact ch_dg _ | exact ch_1 (by decide) | exact ch_lit (by decide) | refine ch_app ?_ ?_) (by decide) (by simp only [List.length_append, List.length_cons, List.length_nil]; omega)) (cwV 0 hts (goodIn_wid gL_lines_J4_toString_0e30d) rfl rfl rfl (by decide +kernel) ⟨Nat.le_of_ble_eq_true rfl, Nat.le_of_ble_eq_true rfl⟩) hK hP hD hS hA hZ.2.2.2 ⟨rfl, rfl, (by decide)⟩ ⟨fun _ => rfl, fun _ => rfl, (by decide)⟩ (ci := 1) (q0 := 0) rfl rfl rfl rfl rfl hl.1 (Nat.le_of_ble_eq_true rfl) dL_lines_211 (by show _ + 2 ≤ 3000 ∧ _ + 68 ≤ 18000; omega) ?_
                intro u H locs hp9 hP hD hS
                obtain ⟨s211_29, v211_29⟩ := u
                have hP : va_P D vwCl [zW tA K ad g193_23, bStr tA s211_29 v211_29 (((((((([] ++ dgL (GL_v g 2 k_)) ++ [45]) ++ dgL (GL_v g 3 k_)) ++ [58]) ++ dgL (GL_v g 4 k_)) ++ [47]) ++ dgL (GL_v g 5 k_)) ++ [42])].flatten H := hP
                have hD : va_D A [zW tA K ad g193_23, bStr tA s211_29 v211_29 (((((((([] ++ dgL (GL_v g 2 k_)) ++ [45]) ++ dgL (GL_v g 3 k_)) ++ [58]) ++ dgL (GL_v g 4 k_)) ++ [47]) ++ dgL (GL_v g 5 k_)) ++ [42])].flatten := hD
                refine lv_astore (lv' := [(4, .ref s211_29), (3, .int (iI (GL_v g 3 k_))), (2, .int (iI (GL_v g 2 k_))), (1, .int (iI k_)), (0, .ref (ad 0))]) hx hb dL_lines_214 hl (by decide) rfl (fun ls hl => ?_)
                refine lv_aload_n hx hb dL_lines_216 rfl (lv_at hl 4 rfl) ?_
                refine lv_aload_n hx hb dL_lines_217 rfl (lv_at hl 4 rfl) ?_
                refine lv_iload_n hx hb dL_lines_218 rfl (lv_at hl 3 rfl) ?_
                refine zh_callSi_ch (As := [.ref (ad 0), .int (iI k_)]) (rest := [.ref (ad 0)]) (L := [zW tA K ad g193_23, bStr tA s211_29 v211_29 (((((((([] ++ dgL (GL_v g 2 k_)) ++ [45]) ++ dgL (GL_v g 3 k_)) ++ [58]) ++ dgL (GL_v g 4 k_)) ++ [47]) ++ dgL (GL_v g 5 k_)) ++ [42])]) (Lc := [zW tA K ad g193_23]) (Lr := [bStr tA s211_29 v211_29 (((((((([] ++ dgL (GL_v g 2 k_)) ++ [45]) ++ dgL (GL_v g 3 k_)) ++ [58]) ++ dgL (GL_v g 4 k_)) ++ [47]) ++ dgL (GL_v g 5 k_)) ++ [42])]) (Lc' := fun (u : GL) => [zW tA K ad u]) (Lf := fun (u : GL) => [zW tA K ad u, bStr tA s211_29 v211_29 (((((((([] ++ dgL (GL_v g 2 k_)) ++ [45]) ++ dgL (GL_v g 3 k_)) ++ [58]) ++ dgL (GL_v g 4 k_)) ++ [47]) ++ dgL (GL_v g 5 k_)) ++ [42])]) (is := [0, 1]) (isF := [1, 0]) ⟨hx, hb, hml, hown, hts⟩ (q_L_writeLeg hst hB hr.1 k_ (by omega)) (vx_cwSW 2 hts (gx_ww gL_lines_L_writeLeg) rfl rfl rfl (by decide +kernel) ⟨Nat.le_of_ble_eq_true rfl, Nat.le_of_ble_eq_true rfl⟩) hK hP hD hS hA hZ ⟨(List.append_nil _).symm, rfl, (by decide)⟩ ⟨fun _ => (List.append_nil _).symm, fun _ => rfl, (by decide)⟩ rfl rfl hl.1 (Nat.le_of_ble_eq_true rfl) dL_lines_219 (by show _ + 1 ≤ 3000 ∧ _ + 6 ≤ 18000; omega) ?_
                intro z219_31 g219_30 H locs hp9 hP hD hS
                have q219 := hp9.2
                try rw [hr.2.1] at q219
                have hr := RDO_trans hr hp9.1
                clear hp9
                obtain ⟨hz9, hc9, hb9, h169⟩ := q219.elim (fun h => absurd ⟨by omega, by omega⟩ h.1) (fun h => h.2)
                refine lv_aload hx hb dL_lines_222 (lv_at hl 0 rfl) ?_
                have htxt : (((((((([] ++ dgL (GL_v g 2 k_)) ++ [45]) ++ dgL (GL_v g 3 k_)) ++ [58]) ++ dgL (GL_v g 4 k_)) ++ [47]) ++ dgL (GL_v g 5 k_)) ++ [42]) = legLn (GL_v g 2 k_) (GL_v g 3 k_) (GL_v g 4 k_) (GL_v g 5 k_) (GL_v g 13 0) := by
                  unfold legLn
                  rw [if_pos (by omega)]
                have hchr : ∀ v ∈ (((((((([] ++ dgL (GL_v g 2 k_)) ++ [45]) ++ dgL (GL_v g 3 k_)) ++ [58]) ++ dgL (GL_v g 4 k_)) ++ [47]) ++ dgL (GL_v g 5 k_)) ++ [42]), 0 ≤ v ∧ v ≤ 127 := by rw [htxt]; exact legLn_ch _ _ _ _ _
                have hlen : z219_31 = ((((((((((([] ++ dgL (GL_v g 2 k_)) ++ [45]) ++ dgL (GL_v g 3 k_)) ++ [58]) ++ dgL (GL_v g 4 k_)) ++ [47]) ++ dgL (GL_v g 5 k_)) ++ [42])).length : Nat) : Int) := by rw [htxt]; exact hz9
                have hsn : ((((((((([] ++ dgL (GL_v g 2 k_)) ++ [45]) ++ dgL (GL_v g 3 k_)) ++ [58]) ++ dgL (GL_v g 4 k_)) ++ [47]) ++ dgL (GL_v g 5 k_)) ++ [42])).length ≤ 64 := by omega
                have hag : GL_lct g219_30 = ((((((((((([] ++ dgL (GL_v g 2 k_)) ++ [45]) ++ dgL (GL_v g 3 k_)) ++ [58]) ++ dgL (GL_v g 4 k_)) ++ [47]) ++ dgL (GL_v g 5 k_)) ++ [42])).length : Nat) : Int) ∧ ∀ j : Int, 0 ≤ j → j < ((((((((((([] ++ dgL (GL_v g 2 k_)) ++ [45]) ++ dgL (GL_v g 3 k_)) ++ [58]) ++ dgL (GL_v g 4 k_)) ++ [47]) ++ dgL (GL_v g 5 k_)) ++ [42])).length : Nat) : Int) → GL_lnb g219_30 j = tF (((((((([] ++ dgL (GL_v g 2 k_)) ++ [45]) ++ dgL (GL_v g 3 k_)) ++ [58]) ++ dgL (GL_v g 4 k_)) ++ [47]) ++ dgL (GL_v g 5 k_)) ++ [42]) j := ⟨hc9.trans hlen, fun j j0 j1 => by rw [hb9, ← htxt]; exact wrL_tF j j0 j1⟩
                refine zt_callSi (As := [.ref (ad 0), .int (iI z219_31), .ref s211_29]) (rest := []) (L := [zW tA K ad g219_30, bStr tA s211_29 v211_29 (((((((([] ++ dgL (GL_v g 2 k_)) ++ [45]) ++ dgL (GL_v g 3 k_)) ++ [58]) ++ dgL (GL_v g 4 k_)) ++ [47]) ++ dgL (GL_v g 5 k_)) ++ [42])]) (Lc := [zW tA K ad g219_30, bStr tA s211_29 v211_29 (((((((([] ++ dgL (GL_v g 2 k_)) ++ [45]) ++ dgL (GL_v g 3 k_)) ++ [58]) ++ dgL (GL_v g 4 k_)) ++ [47]) ++ dgL (GL_v g 5 k_)) ++ [42])]) (Lr := []) (Lc' := fun (u : GL) => [zW tA K ad u]) (Lf := fun (u : GL) => [zW tA K ad u]) (is := [0, 1]) (isF := [0]) ⟨hx, hb, hml, hown, hts⟩ (q_L_spells hst hB hr.1 s211_29 v211_29 z219_31 (((((((([] ++ dgL (GL_v g 2 k_)) ++ [45]) ++ dgL (GL_v g 3 k_)) ++ [58]) ++ dgL (GL_v g 4 k_)) ++ [47]) ++ dgL (GL_v g 5 k_)) ++ [42]) hchr hsn hlen hag) (va_cwS 3 hts (gx_ww gL_lines_L_spells) rfl rfl rfl (by decide +kernel) ⟨Nat.le_of_ble_eq_true rfl, Nat.le_of_ble_eq_true rfl⟩) hK hP hD hS hA hZ ⟨rfl, rfl, (by decide)⟩ ⟨fun _ => (List.append_nil _).symm, fun _ => rfl, (by decide)⟩ rfl rfl hl.1 (Nat.le_of_ble_eq_true rfl) dL_lines_224 (by show _ + 70 ≤ 3000 ∧ _ + 420 ≤ 18000; omega) ?_
                intro z224_32 g224_32 H locs hp9 hP hD hS
                have q224 := hp9.2
                have hr := RDO_trans hr hp9.1
                clear hp9
                refine zz_if_ne (tgt := 232) hx hb dL_lines_227 (by decide) (by omega) (fun c_227 => ?_) (fun c_227 => ?_)
                · refine zz_iinc (lv' := [(1, .int (iI (k_ + 1))), (4, .ref s211_29), (3, .int (iI (GL_v g 3 k_))), (2, .int (iI (GL_v g 2 k_))), (0, .ref (ad 0))]) hx hb dL_lines_232 hl (k := 3) rfl (by decide) rfl (fun ls hl => ?_)
                  refine lv_goto (tgt := 119) hx hb dL_lines_235 (by decide) ?_
                  exact ih119 (k_ + 1) g224_32 _ _ _ _ _ (by exact hr) (by omega) (by omega) (by omega) hP hD hS (lv_sub hl [0, 4] rfl)
                · exfalso
                  omega
        exact L119 _ 0 g4_0 _ _ _ _ _ (by exact hr) (by omega) (by omega) (Nat.lt_succ_self _) hP hD hS (lv_sub hl [0, 1] rfl)
      · refine lv_aload_n hx hb dL_lines_10 rfl (lv_at hl 1 rfl) ?_
        refine lv_iload_n hx hb dL_lines_11 rfl (lv_at hl 0 rfl) ?_
        refine zh_callSi_ch (As := [.ref (ad 0), .int (iI k_)]) (rest := []) (L := [zW tA K ad g4_0]) (Lc := [zW tA K ad g4_0]) (Lr := []) (Lc' := fun (u : GL) => [zW tA K ad u]) (Lf := fun (u : GL) => [zW tA K ad u]) (is := [0]) (isF := [0]) ⟨hx, hb, hml, hown, hts⟩ (q_L_needOf hst hB hr.1 k_ (by omega)) (vx_cwSW 2 hts (gx_ww gL_lines_L_needOf) rfl rfl rfl (by decide +kernel) ⟨Nat.le_of_ble_eq_true rfl, Nat.le_of_ble_eq_true rfl⟩) hK hP hD hS hA hZ (zCut_1 _) (zBack_1 _) rfl rfl hl.1 (Nat.le_of_ble_eq_true rfl) dL_lines_12 (by show _ + 2 ≤ 3000 ∧ _ + 12 ≤ 18000; omega) ?_
        intro need_ g12_33 H locs hp9 hP hD hS
        have q12 := hp9.2
        try rw [hr.2.1] at q12
        have hr := RDO_trans hr hp9.1
        clear hp9
        have q12 := wNof_v hokv hgat ⟨by omega, by omega⟩ q12
        have nf := noF_f hokv hgat (k := k_) ⟨by omega, by omega⟩
        have hnd := (hgat.1 k_ (by omega) (by omega) (by omega)).1
        have hs8 := hsp k_ (by omega) (by omega)
        have hm9 := hmo k_ (by omega) (by omega)
        have hdA := dgN_1 (x := GL_v g 8 k_) (by omega) (by omega)
        have hdC := dgN_1 (x := GL_v g 9 k_) (by omega) (by omega)
        have hdM := dgN_8le (x := GL_v g 10 k_) (by omega) (by omega)
        unfold dgN at hdA hdC hdM
        refine lv_istore_n (lv' := [(2, .int (iI need_)), (1, .int (iI k_)), (0, .ref (ad 0))]) hx hb dL_lines_15 rfl hl (by decide) rfl (fun ls hl => ?_)
        refine zt_new (ci := 1) (fs := [.null, .int (iI 0), .int (iI 0), .int (iI 0)]) (C := RJ4) (T := TJ4) (N := 4) (L := [zW tA K ad g12_33]) (rest := []) ⟨hx, hb, hml, hown, hts⟩ (by decide +kernel) tyJ4 tyJ4_ok (hts (.classLink RL 310 RJ4) (by decide +kernel)) (hts (.instantiable RJ4 4) (by decide +kernel)) (hts (.initialized RJ4) (by decide +kernel)) rfl (fun j hj => by rcases (show j = 0 ∨ j = 1 ∨ j = 2 ∨ j = 3 by omega) with rfl | rfl | rfl | rfl <;> rfl) (fun q sz => c_J4_init_da8c8 l K D tA q sz) (cwI 0 hts (goodIn_wid gL_lines_J4_init_da8c8) rfl rfl rfl (hts (.initialized RJ4) (by decide +kernel)) (hts (.methodLink RL 312 yJ4_init_da8c8) (by decide +kernel)) (hts (.instanceMethod yJ4_init_da8c8) (by decide +kernel)) rfl (by decide +kernel) ⟨Nat.le_of_ble_eq_true rfl, Nat.le_of_ble_eq_true rfl⟩) hK hP hD hS hA hZ.2.2.2 hl.1 dL_lines_16 dL_lines_19 dL_lines_20 (by show _ + 1 + 1 ≤ 3000 ∧ _ + 4 + 16 ≤ 18000; omega) (Nat.le_of_ble_eq_true rfl) ?_
        intro q16_35 u H locs hp9 hP hD hS
        generalize u.getD 0 0 = a16_35 at hP hD
        have hP : va_P D vwCl [zW tA K ad g12_33, bLine tA q16_35 a16_35 z0F 0 0].flatten H := hP
        have hD : va_D A [zW tA K ad g12_33, bLine tA q16_35 a16_35 z0F 0 0].flatten := hD
        rw [sb_new] at hP hD
        refine lv_aload_n hx hb dL_lines_23 rfl (lv_at hl 2 rfl) ?_
        refine lv_iload_n hx hb dL_lines_24 rfl (lv_at hl 1 rfl) ?_
        refine zt_callVi (As := [.int (iI k_)]) (rest := [.ref q16_35]) (L := [zW tA K ad g12_33, bSB tA 16 q16_35 a16_35 0 z0F []]) (Lc := [zW tA K ad g12_33]) (Lr := [bSB tA 16 q16_35 a16_35 0 z0F []]) (Lc' := fun (u : GL) => [zW tA K ad u]) (Lf := fun (u : GL) => [zW tA K ad u, bSB tA 16 q16_35 a16_35 0 z0F []]) (is := [0, 1]) (isF := [1, 0]) ⟨hx, hb, hml, hown, hts⟩ (q_X10_startOf_t hst hB hr.1 k_ (by omega) (by rw [hr.2.1]; exact ⟨by omega, by omega⟩)) (cwV 1 hts (goodIn_wid gL_lines_X10_startOf) rfl rfl rfl (by decide +kernel) ⟨Nat.le_of_ble_eq_true rfl, Nat.le_of_ble_eq_true rfl⟩) hK hP hD hS hA hZ ⟨(List.append_nil _).symm, rfl, (by decide)⟩ ⟨fun _ => (List.append_nil _).symm, fun _ => rfl, (by decide)⟩ (ci := 12) (q0 := 0) rfl rfl (zW_0 tA K ad g12_33) rfl rfl hl.1 (Nat.le_of_ble_eq_true rfl) dL_lines_25 (by show _ + 1 ≤ 3000 ∧ _ + 6 ≤ 18000; omega) ?_
        intro z25_37 g25_36 H locs hp9 hP hD hS
        have q25 := hp9.2
        try rw [hr.2.1] at q25
        have hr := RDO_trans hr hp9.1
        clear hp9
        have q25 := q25.2
        have hz25 : z25_37 = (GL_v g 8 k_) := by exact q25
        subst hz25
        refine zc_callVr_ch (As := [.int (iI (GL_v g 8 k_))]) (rest := []) (L := [zW tA K ad g25_36, bSB tA 16 q16_35 a16_35 0 z0F []]) (Lc := [bSB tA 16 q16_35 a16_35 0 z0F []]) (Lr := [zW tA K ad g25_36]) (Lc' := fun (u : Unit) => [bSB tA 16 q16_35 a16_35 0 z0F ([] ++ dgL (GL_v g 8 k_))]) (Lf := fun (u : Unit) => [zW tA K ad g25_36, bSB tA 16 q16_35 a16_35 0 z0F ([] ++ dgL (GL_v g 8 k_))]) (is := [1, 0]) (isF := [0, 1]) ⟨hx, hb, hml, hown, hts⟩ (c_apI l K D tA q16_35 a16_35 H.size 0 z0F ([]) (GL_v g 8 k_) (by omega) (by omega) (by unfold dgN; simp only [List.length_append, List.length_cons, List.length_nil]; omega)) (cwV 1 hts (goodIn_wid gL_lines_J4_append_bf812) rfl rfl rfl (by decide +kernel) ⟨Nat.le_of_ble_eq_true rfl, Nat.le_of_ble_eq_true rfl⟩) hK hP hD hS hA hZ.2.2.2 ⟨rfl, rfl, (by decide)⟩ ⟨fun _ => rfl, fun _ => rfl, (by decide)⟩ (ci := 1) (q0 := 0) rfl rfl rfl rfl rfl hl.1 (Nat.le_of_ble_eq_true rfl) dL_lines_28 (by show _ + 0 ≤ 3000 ∧ _ + 0 ≤ 18000; omega) ?_
        intro u H locs hp9 hP hD hS
        have hP : va_P D vwCl [zW tA K ad g25_36, bSB tA 16 q16_35 a16_35 0 z0F ([] ++ dgL (GL_v g 8 k_))].flatten H := hP
        have hD : va_D A [zW tA K ad g25_36, bSB tA 16 q16_35 a16_35 0 z0F ([] ++ dgL (GL_v g 8 k_))].flatten := hD
        refine zz_ldcwS hx hb hown (hZ.2.2.2.2.1 (317, ">", 14) (by decide)) dL_lines_31 ?_
        refine zc_callVr_ch (As := [.ref (K (100 + 14))]) (rest := []) (L := [zW tA K ad g25_36, bSB tA 16 q16_35 a16_35 0 z0F ([] ++ dgL (GL_v g 8 k_))]) (Lc := [bSB tA 16 q16_35 a16_35 0 z0F ([] ++ dgL (GL_v g 8 k_))]) (Lr := [zW tA K ad g25_36]) (Lc' := fun (u : Unit) => [bSB tA 16 q16_35 a16_35 0 z0F (([] ++ dgL (GL_v g 8 k_)) ++ sTx.getD 14 [])]) (Lf := fun (u : Unit) => [zW tA K ad g25_36, bSB tA 16 q16_35 a16_35 0 z0F (([] ++ dgL (GL_v g 8 k_)) ++ sTx.getD 14 [])]) (is := [1, 0]) (isF := [0, 1]) ⟨hx, hb, hml, hown, hts⟩ (c_apK l K D tA q16_35 a16_35 H.size 0 z0F ([] ++ dgL (GL_v g 8 k_)) 16 14 (by decide) (by decide) (by rw [show sLn 14 = 1 from rfl]; simp only [List.length_append, List.length_cons, List.length_nil]; omega)) (cwV 1 hts (goodIn_wid gL_lines_J4_append_15ec4) rfl rfl rfl (by decide +kernel) ⟨Nat.le_of_ble_eq_true rfl, Nat.le_of_ble_eq_true rfl⟩) hK hP hD hS hA hZ.2.2.2 ⟨rfl, rfl, (by decide)⟩ ⟨fun _ => rfl, fun _ => rfl, (by decide)⟩ (ci := 1) (q0 := 0) rfl rfl rfl rfl rfl hl.1 (Nat.le_of_ble_eq_true rfl) dL_lines_34 (by show _ + 0 ≤ 3000 ∧ _ + 0 ≤ 18000; omega) ?_
        intro u H locs hp9 hP hD hS
        have hP : va_P D vwCl [zW tA K ad g25_36, bSB tA 16 q16_35 a16_35 0 z0F (([] ++ dgL (GL_v g 8 k_)) ++ [62])].flatten H := hP
        have hD : va_D A [zW tA K ad g25_36, bSB tA 16 q16_35 a16_35 0 z0F (([] ++ dgL (GL_v g 8 k_)) ++ [62])].flatten := hD
        refine lv_aload_n hx hb dL_lines_37 rfl (lv_at hl 2 rfl) ?_
        refine lv_iload_n hx hb dL_lines_38 rfl (lv_at hl 1 rfl) ?_
        refine zt_callVi (As := [.int (iI k_)]) (rest := [.ref q16_35]) (L := [zW tA K ad g25_36, bSB tA 16 q16_35 a16_35 0 z0F (([] ++ dgL (GL_v g 8 k_)) ++ [62])]) (Lc := [zW tA K ad g25_36]) (Lr := [bSB tA 16 q16_35 a16_35 0 z0F (([] ++ dgL (GL_v g 8 k_)) ++ [62])]) (Lc' := fun (u : GL) => [zW tA K ad u]) (Lf := fun (u : GL) => [zW tA K ad u, bSB tA 16 q16_35 a16_35 0 z0F (([] ++ dgL (GL_v g 8 k_)) ++ [62])]) (is := [0, 1]) (isF := [1, 0]) ⟨hx, hb, hml, hown, hts⟩ (q_X10_goalOf_t hst hB hr.1 k_ (by omega) (by rw [hr.2.1]; exact ⟨by omega, by omega⟩)) (cwV 1 hts (goodIn_wid gL_lines_X10_goalOf) rfl rfl rfl (by decide +kernel) ⟨Nat.le_of_ble_eq_true rfl, Nat.le_of_ble_eq_true rfl⟩) hK hP hD hS hA hZ ⟨(List.append_nil _).symm, rfl, (by decide)⟩ ⟨fun _ => (List.append_nil _).symm, fun _ => rfl, (by decide)⟩ (ci := 12) (q0 := 0) rfl rfl (zW_0 tA K ad g25_36) rfl rfl hl.1 (Nat.le_of_ble_eq_true rfl) dL_lines_39 (by show _ + 1 ≤ 3000 ∧ _ + 6 ≤ 18000; omega) ?_
        intro z39_39 g39_38 H locs hp9 hP hD hS
        have q39 := hp9.2
        try rw [hr.2.1] at q39
        have hr := RDO_trans hr hp9.1
        clear hp9
        have q39 := q39.2
        have hz39 : z39_39 = (GL_v g 9 k_) := by exact q39
        subst hz39
        refine zc_callVr_ch (As := [.int (iI (GL_v g 9 k_))]) (rest := []) (L := [zW tA K ad g39_38, bSB tA 16 q16_35 a16_35 0 z0F (([] ++ dgL (GL_v g 8 k_)) ++ [62])]) (Lc := [bSB tA 16 q16_35 a16_35 0 z0F (([] ++ dgL (GL_v g 8 k_)) ++ [62])]) (Lr := [zW tA K ad g39_38]) (Lc' := fun (u : Unit) => [bSB tA 16 q16_35 a16_35 0 z0F ((([] ++ dgL (GL_v g 8 k_)) ++ [62]) ++ dgL (GL_v g 9 k_))]) (Lf := fun (u : Unit) => [zW tA K ad g39_38, bSB tA 16 q16_35 a16_35 0 z0F ((([] ++ dgL (GL_v g 8 k_)) ++ [62]) ++ dgL (GL_v g 9 k_))]) (is := [1, 0]) (isF := [0, 1]) ⟨hx, hb, hml, hown, hts⟩ (c_apI l K D tA q16_35 a16_35 H.size 0 z0F (([] ++ dgL (GL_v g 8 k_)) ++ [62]) (GL_v g 9 k_) (by omega) (by omega) (by unfold dgN; simp only [List.length_append, List.length_cons, List.length_nil]; omega)) (cwV 1 hts (goodIn_wid gL_lines_J4_append_bf812) rfl rfl rfl (by decide +kernel) ⟨Nat.le_of_ble_eq_true rfl, Nat.le_of_ble_eq_true rfl⟩) hK hP hD hS hA hZ.2.2.2 ⟨rfl, rfl, (by decide)⟩ ⟨fun _ => rfl, fun _ => rfl, (by decide)⟩ (ci := 1) (q0 := 0) rfl rfl rfl rfl rfl hl.1 (Nat.le_of_ble_eq_true rfl) dL_lines_42 (by show _ + 0 ≤ 3000 ∧ _ + 0 ≤ 18000; omega) ?_
        intro u H locs hp9 hP hD hS
        have hP : va_P D vwCl [zW tA K ad g39_38, bSB tA 16 q16_35 a16_35 0 z0F ((([] ++ dgL (GL_v g 8 k_)) ++ [62]) ++ dgL (GL_v g 9 k_))].flatten H := hP
        have hD : va_D A [zW tA K ad g39_38, bSB tA 16 q16_35 a16_35 0 z0F ((([] ++ dgL (GL_v g 8 k_)) ++ [62]) ++ dgL (GL_v g 9 k_))].flatten := hD
        refine zz_ldcwS hx hb hown (hZ.2.2.2.2.1 (322, ":", 15) (by decide)) dL_lines_45 ?_
        refine zc_callVr_ch (As := [.ref (K (100 + 15))]) (rest := []) (L := [zW tA K ad g39_38, bSB tA 16 q16_35 a16_35 0 z0F ((([] ++ dgL (GL_v g 8 k_)) ++ [62]) ++ dgL (GL_v g 9 k_))]) (Lc := [bSB tA 16 q16_35 a16_35 0 z0F ((([] ++ dgL (GL_v g 8 k_)) ++ [62]) ++ dgL (GL_v g 9 k_))]) (Lr := [zW tA K ad g39_38]) (Lc' := fun (u : Unit) => [bSB tA 16 q16_35 a16_35 0 z0F (((([] ++ dgL (GL_v g 8 k_)) ++ [62]) ++ dgL (GL_v g 9 k_)) ++ sTx.getD 15 [])]) (Lf := fun (u : Unit) => [zW tA K ad g39_38, bSB tA 16 q16_35 a16_35 0 z0F (((([] ++ dgL (GL_v g 8 k_)) ++ [62]) ++ dgL (GL_v g 9 k_)) ++ sTx.getD 15 [])]) (is := [1, 0]) (isF := [0, 1]) ⟨hx, hb, hml, hown, hts⟩ (c_apK l K D tA q16_35 a16_35 H.size 0 z0F ((([] ++ dgL (GL_v g 8 k_)) ++ [62]) ++ dgL (GL_v g 9 k_)) 16 15 (by decide) (by decide) (by rw [show sLn 15 = 1 from rfl]; simp only [List.length_append, List.length_cons, List.length_nil]; omega)) (cwV 1 hts (goodIn_wid gL_lines_J4_append_15ec4) rfl rfl rfl (by decide +kernel) ⟨Nat.le_of_ble_eq_true rfl, Nat.le_of_ble_eq_true rfl⟩) hK hP hD hS hA hZ.2.2.2 ⟨rfl, rfl, (by decide)⟩ ⟨fun _ => rfl, fun _ => rfl, (by decide)⟩ (ci := 1) (q0 := 0) rfl rfl rfl rfl rfl hl.1 (Nat.le_of_ble_eq_true rfl) dL_lines_48 (by show _ + 0 ≤ 3000 ∧ _ + 0 ≤ 18000; omega) ?_
        intro u H locs hp9 hP hD hS
        have hP : va_P D vwCl [zW tA K ad g39_38, bSB tA 16 q16_35 a16_35 0 z0F (((([] ++ dgL (GL_v g 8 k_)) ++ [62]) ++ dgL (GL_v g 9 k_)) ++ [58])].flatten H := hP
        have hD : va_D A [zW tA K ad g39_38, bSB tA 16 q16_35 a16_35 0 z0F (((([] ++ dgL (GL_v g 8 k_)) ++ [62]) ++ dgL (GL_v g 9 k_)) ++ [58])].flatten := hD
        refine lv_aload_n hx hb dL_lines_51 rfl (lv_at hl 2 rfl) ?_
        refine lv_iload_n hx hb dL_lines_52 rfl (lv_at hl 1 rfl) ?_
        refine zt_callVi (As := [.int (iI k_)]) (rest := [.ref q16_35]) (L := [zW tA K ad g39_38, bSB tA 16 q16_35 a16_35 0 z0F (((([] ++ dgL (GL_v g 8 k_)) ++ [62]) ++ dgL (GL_v g 9 k_)) ++ [58])]) (Lc := [zW tA K ad g39_38]) (Lr := [bSB tA 16 q16_35 a16_35 0 z0F (((([] ++ dgL (GL_v g 8 k_)) ++ [62]) ++ dgL (GL_v g 9 k_)) ++ [58])]) (Lc' := fun (u : GL) => [zW tA K ad u]) (Lf := fun (u : GL) => [zW tA K ad u, bSB tA 16 q16_35 a16_35 0 z0F (((([] ++ dgL (GL_v g 8 k_)) ++ [62]) ++ dgL (GL_v g 9 k_)) ++ [58])]) (is := [0, 1]) (isF := [1, 0]) ⟨hx, hb, hml, hown, hts⟩ (q_X10_moneyOf_t hst hB hr.1 k_ (by omega) (by rw [hr.2.1]; exact ⟨by omega, by omega⟩)) (cwV 1 hts (goodIn_wid gL_lines_X10_moneyOf) rfl rfl rfl (by decide +kernel) ⟨Nat.le_of_ble_eq_true rfl, Nat.le_of_ble_eq_true rfl⟩) hK hP hD hS hA hZ ⟨(List.append_nil _).symm, rfl, (by decide)⟩ ⟨fun _ => (List.append_nil _).symm, fun _ => rfl, (by decide)⟩ (ci := 12) (q0 := 0) rfl rfl (zW_0 tA K ad g39_38) rfl rfl hl.1 (Nat.le_of_ble_eq_true rfl) dL_lines_53 (by show _ + 1 ≤ 3000 ∧ _ + 6 ≤ 18000; omega) ?_
        intro z53_41 g53_40 H locs hp9 hP hD hS
        have q53 := hp9.2
        try rw [hr.2.1] at q53
        have hr := RDO_trans hr hp9.1
        clear hp9
        have q53 := q53.2
        have hz53 : z53_41 = (GL_v g 10 k_) := by exact q53
        subst hz53
        refine zc_callVr_ch (As := [.int (iI (GL_v g 10 k_))]) (rest := []) (L := [zW tA K ad g53_40, bSB tA 16 q16_35 a16_35 0 z0F (((([] ++ dgL (GL_v g 8 k_)) ++ [62]) ++ dgL (GL_v g 9 k_)) ++ [58])]) (Lc := [bSB tA 16 q16_35 a16_35 0 z0F (((([] ++ dgL (GL_v g 8 k_)) ++ [62]) ++ dgL (GL_v g 9 k_)) ++ [58])]) (Lr := [zW tA K ad g53_40]) (Lc' := fun (u : Unit) => [bSB tA 16 q16_35 a16_35 0 z0F ((((([] ++ dgL (GL_v g 8 k_)) ++ [62]) ++ dgL (GL_v g 9 k_)) ++ [58]) ++ dgL (GL_v g 10 k_))]) (Lf := fun (u : Unit) => [zW tA K ad g53_40, bSB tA 16 q16_35 a16_35 0 z0F ((((([] ++ dgL (GL_v g 8 k_)) ++ [62]) ++ dgL (GL_v g 9 k_)) ++ [58]) ++ dgL (GL_v g 10 k_))]) (is := [1, 0]) (isF := [0, 1]) ⟨hx, hb, hml, hown, hts⟩ (c_apI l K D tA q16_35 a16_35 H.size 0 z0F (((([] ++ dgL (GL_v g 8 k_)) ++ [62]) ++ dgL (GL_v g 9 k_)) ++ [58]) (GL_v g 10 k_) (by omega) (by omega) (by unfold dgN; simp only [List.length_append, List.length_cons, List.length_nil]; omega)) (cwV 1 hts (goodIn_wid gL_lines_J4_append_bf812) rfl rfl rfl (by decide +kernel) ⟨Nat.le_of_ble_eq_true rfl, Nat.le_of_ble_eq_true rfl⟩) hK hP hD hS hA hZ.2.2.2 ⟨rfl, rfl, (by decide)⟩ ⟨fun _ => rfl, fun _ => rfl, (by decide)⟩ (ci := 1) (q0 := 0) rfl rfl rfl rfl rfl hl.1 (Nat.le_of_ble_eq_true rfl) dL_lines_56 (by show _ + 0 ≤ 3000 ∧ _ + 0 ≤ 18000; omega) ?_
        intro u H locs hp9 hP hD hS
        have hP : va_P D vwCl [zW tA K ad g53_40, bSB tA 16 q16_35 a16_35 0 z0F ((((([] ++ dgL (GL_v g 8 k_)) ++ [62]) ++ dgL (GL_v g 9 k_)) ++ [58]) ++ dgL (GL_v g 10 k_))].flatten H := hP
        have hD : va_D A [zW tA K ad g53_40, bSB tA 16 q16_35 a16_35 0 z0F ((((([] ++ dgL (GL_v g 8 k_)) ++ [62]) ++ dgL (GL_v g 9 k_)) ++ [58]) ++ dgL (GL_v g 10 k_))].flatten := hD
        refine lv_iload_n hx hb dL_lines_59 rfl (lv_at hl 0 rfl) ?_
        refine zz_if_ge (tgt := 69) hx hb dL_lines_60 (by decide) (by omega) (fun c_60 => ?_) (fun c_60 => ?_)
        · refine zt_new (ci := 1) (fs := [.null, .int (iI 0), .int (iI 0), .int (iI 0)]) (C := RJ4) (T := TJ4) (N := 4) (L := [zW tA K ad g53_40, bSB tA 16 q16_35 a16_35 0 z0F ((((([] ++ dgL (GL_v g 8 k_)) ++ [62]) ++ dgL (GL_v g 9 k_)) ++ [58]) ++ dgL (GL_v g 10 k_))]) (rest := [.ref q16_35]) ⟨hx, hb, hml, hown, hts⟩ (by decide +kernel) tyJ4 tyJ4_ok (hts (.classLink RL 310 RJ4) (by decide +kernel)) (hts (.instantiable RJ4 4) (by decide +kernel)) (hts (.initialized RJ4) (by decide +kernel)) rfl (fun j hj => by rcases (show j = 0 ∨ j = 1 ∨ j = 2 ∨ j = 3 by omega) with rfl | rfl | rfl | rfl <;> rfl) (fun q sz => c_J4_init_da8c8 l K D tA q sz) (cwI 0 hts (goodIn_wid gL_lines_J4_init_da8c8) rfl rfl rfl (hts (.initialized RJ4) (by decide +kernel)) (hts (.methodLink RL 312 yJ4_init_da8c8) (by decide +kernel)) (hts (.instanceMethod yJ4_init_da8c8) (by decide +kernel)) rfl (by decide +kernel) ⟨Nat.le_of_ble_eq_true rfl, Nat.le_of_ble_eq_true rfl⟩) hK hP hD hS hA hZ.2.2.2 hl.1 dL_lines_69 dL_lines_72 dL_lines_73 (by show _ + 1 + 1 ≤ 3000 ∧ _ + 4 + 16 ≤ 18000; omega) (Nat.le_of_ble_eq_true rfl) ?_
          intro q69_42 u H locs hp9 hP hD hS
          generalize u.getD 0 0 = a69_42 at hP hD
          have hP : va_P D vwCl [zW tA K ad g53_40, bSB tA 16 q16_35 a16_35 0 z0F ((((([] ++ dgL (GL_v g 8 k_)) ++ [62]) ++ dgL (GL_v g 9 k_)) ++ [58]) ++ dgL (GL_v g 10 k_)), bLine tA q69_42 a69_42 z0F 0 0].flatten H := hP
          have hD : va_D A [zW tA K ad g53_40, bSB tA 16 q16_35 a16_35 0 z0F ((((([] ++ dgL (GL_v g 8 k_)) ++ [62]) ++ dgL (GL_v g 9 k_)) ++ [58]) ++ dgL (GL_v g 10 k_)), bLine tA q69_42 a69_42 z0F 0 0].flatten := hD
          rw [sb_new] at hP hD
          refine zz_ldcwS hx hb hown (hZ.2.2.2.2.1 (326, "n", 17) (by decide)) dL_lines_76 ?_
          refine zc_callVr_ch (As := [.ref (K (100 + 17))]) (rest := [.ref q16_35]) (L := [zW tA K ad g53_40, bSB tA 16 q16_35 a16_35 0 z0F ((((([] ++ dgL (GL_v g 8 k_)) ++ [62]) ++ dgL (GL_v g 9 k_)) ++ [58]) ++ dgL (GL_v g 10 k_)), bSB tA 16 q69_42 a69_42 0 z0F []]) (Lc := [bSB tA 16 q69_42 a69_42 0 z0F []]) (Lr := [zW tA K ad g53_40, bSB tA 16 q16_35 a16_35 0 z0F ((((([] ++ dgL (GL_v g 8 k_)) ++ [62]) ++ dgL (GL_v g 9 k_)) ++ [58]) ++ dgL (GL_v g 10 k_))]) (Lc' := fun (u : Unit) => [bSB tA 16 q69_42 a69_42 0 z0F ([] ++ sTx.getD 17 [])]) (Lf := fun (u : Unit) => [zW tA K ad g53_40, bSB tA 16 q16_35 a16_35 0 z0F ((((([] ++ dgL (GL_v g 8 k_)) ++ [62]) ++ dgL (GL_v g 9 k_)) ++ [58]) ++ dgL (GL_v g 10 k_)), bSB tA 16 q69_42 a69_42 0 z0F ([] ++ sTx.getD 17 [])]) (is := [2, 0, 1]) (isF := [0, 1, 2]) ⟨hx, hb, hml, hown, hts⟩ (c_apK l K D tA q69_42 a69_42 H.size 0 z0F ([]) 16 17 (by decide) (by decide) (by rw [show sLn 17 = 1 from rfl]; simp only [List.length_append, List.length_cons, List.length_nil]; omega)) (cwV 1 hts (goodIn_wid gL_lines_J4_append_15ec4) rfl rfl rfl (by decide +kernel) ⟨Nat.le_of_ble_eq_true rfl, Nat.le_of_ble_eq_true rfl⟩) hK hP hD hS hA hZ.2.2.2 ⟨rfl, rfl, (by decide)⟩ ⟨fun _ => rfl, fun _ => rfl, (by decide)⟩ (ci := 1) (q0 := 0) rfl rfl rfl rfl rfl hl.1 (Nat.le_of_ble_eq_true rfl) dL_lines_79 (by show _ + 0 ≤ 3000 ∧ _ + 0 ≤ 18000; omega) ?_
          intro u H locs hp9 hP hD hS
          have hP : va_P D vwCl [zW tA K ad g53_40, bSB tA 16 q16_35 a16_35 0 z0F ((((([] ++ dgL (GL_v g 8 k_)) ++ [62]) ++ dgL (GL_v g 9 k_)) ++ [58]) ++ dgL (GL_v g 10 k_)), bSB tA 16 q69_42 a69_42 0 z0F ([] ++ [110])].flatten H := hP
          have hD : va_D A [zW tA K ad g53_40, bSB tA 16 q16_35 a16_35 0 z0F ((((([] ++ dgL (GL_v g 8 k_)) ++ [62]) ++ dgL (GL_v g 9 k_)) ++ [58]) ++ dgL (GL_v g 10 k_)), bSB tA 16 q69_42 a69_42 0 z0F ([] ++ [110])].flatten := hD
          refine lv_iload_n hx hb dL_lines_82 rfl (lv_at hl 0 rfl) ?_
          have hdE := dgN_le2 (x := need_) (by omega) (by omega)
          unfold dgN at hdE
          refine zc_callVr_ch (As := [.int (iI need_)]) (rest := [.ref q16_35]) (L := [zW tA K ad g53_40, bSB tA 16 q16_35 a16_35 0 z0F ((((([] ++ dgL (GL_v g 8 k_)) ++ [62]) ++ dgL (GL_v g 9 k_)) ++ [58]) ++ dgL (GL_v g 10 k_)), bSB tA 16 q69_42 a69_42 0 z0F ([] ++ [110])]) (Lc := [bSB tA 16 q69_42 a69_42 0 z0F ([] ++ [110])]) (Lr := [zW tA K ad g53_40, bSB tA 16 q16_35 a16_35 0 z0F ((((([] ++ dgL (GL_v g 8 k_)) ++ [62]) ++ dgL (GL_v g 9 k_)) ++ [58]) ++ dgL (GL_v g 10 k_))]) (Lc' := fun (u : Unit) => [bSB tA 16 q69_42 a69_42 0 z0F (([] ++ [110]) ++ dgL need_)]) (Lf := fun (u : Unit) => [zW tA K ad g53_40, bSB tA 16 q16_35 a16_35 0 z0F ((((([] ++ dgL (GL_v g 8 k_)) ++ [62]) ++ dgL (GL_v g 9 k_)) ++ [58]) ++ dgL (GL_v g 10 k_)), bSB tA 16 q69_42 a69_42 0 z0F (([] ++ [110]) ++ dgL need_)]) (is := [2, 0, 1]) (isF := [0, 1, 2]) ⟨hx, hb, hml, hown, hts⟩ (c_apI l K D tA q69_42 a69_42 H.size 0 z0F ([] ++ [110]) need_ (by omega) (by omega) (by unfold dgN; simp only [List.length_append, List.length_cons, List.length_nil]; omega)) (cwV 1 hts (goodIn_wid gL_lines_J4_append_bf812) rfl rfl rfl (by decide +kernel) ⟨Nat.le_of_ble_eq_true rfl, Nat.le_of_ble_eq_true rfl⟩) hK hP hD hS hA hZ.2.2.2 ⟨rfl, rfl, (by decide)⟩ ⟨fun _ => rfl, fun _ => rfl, (by decide)⟩ (ci := 1) (q0 := 0) rfl rfl rfl rfl rfl hl.1 (Nat.le_of_ble_eq_true rfl) dL_lines_83 (by show _ + 0 ≤ 3000 ∧ _ + 0 ≤ 18000; omega) ?_
          intro u H locs hp9 hP hD hS
          have hP : va_P D vwCl [zW tA K ad g53_40, bSB tA 16 q16_35 a16_35 0 z0F ((((([] ++ dgL (GL_v g 8 k_)) ++ [62]) ++ dgL (GL_v g 9 k_)) ++ [58]) ++ dgL (GL_v g 10 k_)), bSB tA 16 q69_42 a69_42 0 z0F (([] ++ [110]) ++ dgL need_)].flatten H := hP
          have hD : va_D A [zW tA K ad g53_40, bSB tA 16 q16_35 a16_35 0 z0F ((((([] ++ dgL (GL_v g 8 k_)) ++ [62]) ++ dgL (GL_v g 9 k_)) ++ [58]) ++ dgL (GL_v g 10 k_)), bSB tA 16 q69_42 a69_42 0 z0F (([] ++ [110]) ++ dgL need_)].flatten := hD
          refine zc_callVA_ch (As := []) (rest := [.ref q16_35]) (L := [zW tA K ad g53_40, bSB tA 16 q16_35 a16_35 0 z0F ((((([] ++ dgL (GL_v g 8 k_)) ++ [62]) ++ dgL (GL_v g 9 k_)) ++ [58]) ++ dgL (GL_v g 10 k_)), bSB tA 16 q69_42 a69_42 0 z0F (([] ++ [110]) ++ dgL need_)]) (Lc := [bSB tA 16 q69_42 a69_42 0 z0F (([] ++ [110]) ++ dgL need_)]) (Lr := [zW tA K ad g53_40, bSB tA 16 q16_35 a16_35 0 z0F ((((([] ++ dgL (GL_v g 8 k_)) ++ [62]) ++ dgL (GL_v g 9 k_)) ++ [58]) ++ dgL (GL_v g 10 k_))]) (Lc' := fun (u : Nat × Nat) => [bSB tA 16 q69_42 a69_42 0 z0F (([] ++ [110]) ++ dgL need_), bStr tA u.1 u.2 (([] ++ [110]) ++ dgL need_)]) (Lf := fun (u : Nat × Nat) => [zW tA K ad g53_40, bSB tA 16 q16_35 a16_35 0 z0F ((((([] ++ dgL (GL_v g 8 k_)) ++ [62]) ++ dgL (GL_v g 9 k_)) ++ [58]) ++ dgL (GL_v g 10 k_)), bStr tA u.1 u.2 (([] ++ [110]) ++ dgL need_)]) (is := [2, 0, 1]) (isF := [0, 1, 3]) ⟨hx, hb, hml, hown, hts⟩ (c_toS l K D tA q69_42 a69_42 H.size 0 z0F (([] ++ [110]) ++ dgL need_) 16 (by repeat' first | exact ch_0 | exact ch_dg _ | exact ch_1 (by decide) | exact ch_lit (by decide) | refine ch_app ?_ ?_) (by decide) (by simp only [List.length_append, List.length_cons, List.length_nil]; omega)) (cwV 0 hts (goodIn_wid gL_lines_J4_toString_0e30d) rfl rfl rfl (by decide +kernel) ⟨Nat.le_of_ble_eq_true rfl, Nat.le_of_ble_eq_true rfl⟩) hK hP hD hS hA hZ.2.2.2 ⟨rfl, rfl, (by decide)⟩ ⟨fun _ => rfl, fun _ => rfl, (by decide)⟩ (ci := 1) (q0 := 0) rfl rfl rfl rfl rfl hl.1 (Nat.le_of_ble_eq_true rfl) dL_lines_86 (by show _ + 2 ≤ 3000 ∧ _ + 68 ≤ 18000; omega) ?_
          intro u H locs hp9 hP hD hS
          obtain ⟨s86_43, v86_43⟩ := u
          have hP : va_P D vwCl [zW tA K ad g53_40, bSB tA 16 q16_35 a16_35 0 z0F ((((([] ++ dgL (GL_v g 8 k_)) ++ [62]) ++ dgL (GL_v g 9 k_)) ++ [58]) ++ dgL (GL_v g 10 k_)), bStr tA s86_43 v86_43 (([] ++ [110]) ++ dgL need_)].flatten H := hP
          have hD : va_D A [zW tA K ad g53_40, bSB tA 16 q16_35 a16_35 0 z0F ((((([] ++ dgL (GL_v g 8 k_)) ++ [62]) ++ dgL (GL_v g 9 k_)) ++ [58]) ++ dgL (GL_v g 10 k_)), bStr tA s86_43 v86_43 (([] ++ [110]) ++ dgL need_)].flatten := hD
          refine zc_callVr_ch (As := [.ref s86_43]) (rest := []) (L := [zW tA K ad g53_40, bSB tA 16 q16_35 a16_35 0 z0F ((((([] ++ dgL (GL_v g 8 k_)) ++ [62]) ++ dgL (GL_v g 9 k_)) ++ [58]) ++ dgL (GL_v g 10 k_)), bStr tA s86_43 v86_43 (([] ++ [110]) ++ dgL need_)]) (Lc := [bSB tA 16 q16_35 a16_35 0 z0F ((((([] ++ dgL (GL_v g 8 k_)) ++ [62]) ++ dgL (GL_v g 9 k_)) ++ [58]) ++ dgL (GL_v g 10 k_)), bStr tA s86_43 v86_43 (([] ++ [110]) ++ dgL need_)]) (Lr := [zW tA K ad g53_40]) (Lc' := fun (u : Unit) => [bSB tA 16 q16_35 a16_35 0 z0F (((((([] ++ dgL (GL_v g 8 k_)) ++ [62]) ++ dgL (GL_v g 9 k_)) ++ [58]) ++ dgL (GL_v g 10 k_)) ++ (([] ++ [110]) ++ dgL need_)), bStr tA s86_43 v86_43 (([] ++ [110]) ++ dgL need_)]) (Lf := fun (u : Unit) => [zW tA K ad g53_40, bSB tA 16 q16_35 a16_35 0 z0F (((((([] ++ dgL (GL_v g 8 k_)) ++ [62]) ++ dgL (GL_v g 9 k_)) ++ [58]) ++ dgL (GL_v g 10 k_)) ++ (([] ++ [110]) ++ dgL need_))]) (is := [1, 2, 0]) (isF := [0, 1]) ⟨hx, hb, hml, hown, hts⟩ (c_apS l K D tA q16_35 a16_35 s86_43 v86_43 H.size 0 z0F ((((([] ++ dgL (GL_v g 8 k_)) ++ [62]) ++ dgL (GL_v g 9 k_)) ++ [58]) ++ dgL (GL_v g 10 k_)) 16 (([] ++ [110]) ++ dgL need_) (by decide) (by repeat' first | exact ch_0 | exact ch_dg _ | exact ch_1 (by decide) | exact ch_lit (by decide) | refine ch_app ?_ ?_) (by simp only [List.length_append, List.length_cons, List.length_nil]; omega) (by simp only [List.length_append, List.length_cons, List.length_nil]; omega)) (cwV 1 hts (goodIn_wid gL_lines_J4_append_15ec4) rfl rfl rfl (by decide +kernel) ⟨Nat.le_of_ble_eq_true rfl, Nat.le_of_ble_eq_true rfl⟩) hK hP hD hS hA hZ.2.2.2 ⟨rfl, rfl, (by decide)⟩ ⟨fun _ => rfl, fun _ => rfl, (by decide)⟩ (ci := 1) (q0 := 0) rfl rfl rfl rfl rfl hl.1 (Nat.le_of_ble_eq_true rfl) dL_lines_89 (by show _ + 0 ≤ 3000 ∧ _ + 0 ≤ 18000; omega) ?_
          intro u H locs hp9 hP hD hS
          have hP : va_P D vwCl [zW tA K ad g53_40, bSB tA 16 q16_35 a16_35 0 z0F (((((([] ++ dgL (GL_v g 8 k_)) ++ [62]) ++ dgL (GL_v g 9 k_)) ++ [58]) ++ dgL (GL_v g 10 k_)) ++ (([] ++ [110]) ++ dgL need_))].flatten H := hP
          have hD : va_D A [zW tA K ad g53_40, bSB tA 16 q16_35 a16_35 0 z0F (((((([] ++ dgL (GL_v g 8 k_)) ++ [62]) ++ dgL (GL_v g 9 k_)) ++ [58]) ++ dgL (GL_v g 10 k_)) ++ (([] ++ [110]) ++ dgL need_))].flatten := hD
          refine zc_callVA_ch (As := []) (rest := []) (L := [zW tA K ad g53_40, bSB tA 16 q16_35 a16_35 0 z0F (((((([] ++ dgL (GL_v g 8 k_)) ++ [62]) ++ dgL (GL_v g 9 k_)) ++ [58]) ++ dgL (GL_v g 10 k_)) ++ (([] ++ [110]) ++ dgL need_))]) (Lc := [bSB tA 16 q16_35 a16_35 0 z0F (((((([] ++ dgL (GL_v g 8 k_)) ++ [62]) ++ dgL (GL_v g 9 k_)) ++ [58]) ++ dgL (GL_v g 10 k_)) ++ (([] ++ [110]) ++ dgL need_))]) (Lr := [zW tA K ad g53_40]) (Lc' := fun (u : Nat × Nat) => [bSB tA 16 q16_35 a16_35 0 z0F (((((([] ++ dgL (GL_v g 8 k_)) ++ [62]) ++ dgL (GL_v g 9 k_)) ++ [58]) ++ dgL (GL_v g 10 k_)) ++ (([] ++ [110]) ++ dgL need_)), bStr tA u.1 u.2 (((((([] ++ dgL (GL_v g 8 k_)) ++ [62]) ++ dgL (GL_v g 9 k_)) ++ [58]) ++ dgL (GL_v g 10 k_)) ++ (([] ++ [110]) ++ dgL need_))]) (Lf := fun (u : Nat × Nat) => [zW tA K ad g53_40, bStr tA u.1 u.2 (((((([] ++ dgL (GL_v g 8 k_)) ++ [62]) ++ dgL (GL_v g 9 k_)) ++ [58]) ++ dgL (GL_v g 10 k_)) ++ (([] ++ [110]) ++ dgL need_))]) (is := [1, 0]) (isF := [0, 2]) ⟨hx, hb, hml, hown, hts⟩ (c_toS l K D tA q16_35 a16_35 H.size 0 z0F (((((([] ++ dgL (GL_v g 8 k_)) ++ [62]) ++ dgL (GL_v g 9 k_)) ++ [58]) ++ dgL (GL_v g 10 k_)) ++ (([] ++ [110]) ++ dgL need_)) 16 (by repeat' first | exact ch_0 | exact ch_dg _ | exact ch_1 (by decide) | exact ch_lit (by decide) | refine ch_app ?_ ?_) (by decide) (by simp only [List.length_append, List.length_cons, List.length_nil]; omega)) (cwV 0 hts (goodIn_wid gL_lines_J4_toString_0e30d) rfl rfl rfl (by decide +kernel) ⟨Nat.le_of_ble_eq_true rfl, Nat.le_of_ble_eq_true rfl⟩) hK hP hD hS hA hZ.2.2.2 ⟨rfl, rfl, (by decide)⟩ ⟨fun _ => rfl, fun _ => rfl, (by decide)⟩ (ci := 1) (q0 := 0) rfl rfl rfl rfl rfl hl.1 (Nat.le_of_ble_eq_true rfl) dL_lines_92 (by show _ + 2 ≤ 3000 ∧ _ + 68 ≤ 18000; omega) ?_
          intro u H locs hp9 hP hD hS
          obtain ⟨s92_44, v92_44⟩ := u
          have hP : va_P D vwCl [zW tA K ad g53_40, bStr tA s92_44 v92_44 (((((([] ++ dgL (GL_v g 8 k_)) ++ [62]) ++ dgL (GL_v g 9 k_)) ++ [58]) ++ dgL (GL_v g 10 k_)) ++ (([] ++ [110]) ++ dgL need_))].flatten H := hP
          have hD : va_D A [zW tA K ad g53_40, bStr tA s92_44 v92_44 (((((([] ++ dgL (GL_v g 8 k_)) ++ [62]) ++ dgL (GL_v g 9 k_)) ++ [58]) ++ dgL (GL_v g 10 k_)) ++ (([] ++ [110]) ++ dgL need_))].flatten := hD
          refine lv_astore_n (lv' := [(3, .ref s92_44), (2, .int (iI need_)), (1, .int (iI k_)), (0, .ref (ad 0))]) hx hb dL_lines_95 rfl hl (by decide) rfl (fun ls hl => ?_)
          refine lv_aload_n hx hb dL_lines_96 rfl (lv_at hl 3 rfl) ?_
          refine lv_aload_n hx hb dL_lines_97 rfl (lv_at hl 3 rfl) ?_
          refine lv_iload_n hx hb dL_lines_98 rfl (lv_at hl 2 rfl) ?_
          refine zh_callSi_ch (As := [.ref (ad 0), .int (iI k_)]) (rest := [.ref (ad 0)]) (L := [zW tA K ad g53_40, bStr tA s92_44 v92_44 (((((([] ++ dgL (GL_v g 8 k_)) ++ [62]) ++ dgL (GL_v g 9 k_)) ++ [58]) ++ dgL (GL_v g 10 k_)) ++ (([] ++ [110]) ++ dgL need_))]) (Lc := [zW tA K ad g53_40]) (Lr := [bStr tA s92_44 v92_44 (((((([] ++ dgL (GL_v g 8 k_)) ++ [62]) ++ dgL (GL_v g 9 k_)) ++ [58]) ++ dgL (GL_v g 10 k_)) ++ (([] ++ [110]) ++ dgL need_))]) (Lc' := fun (u : GL) => [zW tA K ad u]) (Lf := fun (u : GL) => [zW tA K ad u, bStr tA s92_44 v92_44 (((((([] ++ dgL (GL_v g 8 k_)) ++ [62]) ++ dgL (GL_v g 9 k_)) ++ [58]) ++ dgL (GL_v g 10 k_)) ++ (([] ++ [110]) ++ dgL need_))]) (is := [0, 1]) (isF := [1, 0]) ⟨hx, hb, hml, hown, hts⟩ (q_L_writeSubscriber hst hB hr.1 k_ (by omega)) (vx_cwSW 2 hts (gx_ww gL_lines_L_writeSubscriber) rfl rfl rfl (by decide +kernel) ⟨Nat.le_of_ble_eq_true rfl, Nat.le_of_ble_eq_true rfl⟩) hK hP hD hS hA hZ ⟨(List.append_nil _).symm, rfl, (by decide)⟩ ⟨fun _ => (List.append_nil _).symm, fun _ => rfl, (by decide)⟩ rfl rfl hl.1 (Nat.le_of_ble_eq_true rfl) dL_lines_99 (by show _ + 1 ≤ 3000 ∧ _ + 6 ≤ 18000; omega) ?_
          intro z99_46 g99_45 H locs hp9 hP hD hS
          have q99 := hp9.2
          try rw [hr.2.1] at q99
          have hr := RDO_trans hr hp9.1
          clear hp9
          obtain ⟨nd9, hn9, hz9, hc9, hb9, h169⟩ := q99.elim (fun h => absurd ⟨by omega, by omega⟩ h.1) (fun h => h.2)
          have hnd9 : nd9 = nd k_ := needP_uniq hn9 hnd
          refine lv_aload_n hx hb dL_lines_102 rfl (lv_at hl 0 rfl) ?_
          have htxt : (((((([] ++ dgL (GL_v g 8 k_)) ++ [62]) ++ dgL (GL_v g 9 k_)) ++ [58]) ++ dgL (GL_v g 10 k_)) ++ (([] ++ [110]) ++ dgL need_)) = subLn (GL_v g 8 k_) (GL_v g 9 k_) (GL_v g 10 k_) nd9 := by
            unfold subLn
            rw [hnd9, if_neg (by omega)]; have hne : need_ = nd k_ := by omega
            rw [hne]
            simp only [List.nil_append, List.append_assoc, List.cons_append]
          have hchr : ∀ v ∈ (((((([] ++ dgL (GL_v g 8 k_)) ++ [62]) ++ dgL (GL_v g 9 k_)) ++ [58]) ++ dgL (GL_v g 10 k_)) ++ (([] ++ [110]) ++ dgL need_)), 0 ≤ v ∧ v ≤ 127 := by rw [htxt]; exact subLn_ch _ _ _ _
          have hlen : z99_46 = ((((((((([] ++ dgL (GL_v g 8 k_)) ++ [62]) ++ dgL (GL_v g 9 k_)) ++ [58]) ++ dgL (GL_v g 10 k_)) ++ (([] ++ [110]) ++ dgL need_))).length : Nat) : Int) := by rw [htxt]; exact hz9
          have hsn : ((((((([] ++ dgL (GL_v g 8 k_)) ++ [62]) ++ dgL (GL_v g 9 k_)) ++ [58]) ++ dgL (GL_v g 10 k_)) ++ (([] ++ [110]) ++ dgL need_))).length ≤ 64 := by omega
          have hag : GL_lct g99_45 = ((((((((([] ++ dgL (GL_v g 8 k_)) ++ [62]) ++ dgL (GL_v g 9 k_)) ++ [58]) ++ dgL (GL_v g 10 k_)) ++ (([] ++ [110]) ++ dgL need_))).length : Nat) : Int) ∧ ∀ j : Int, 0 ≤ j → j < ((((((((([] ++ dgL (GL_v g 8 k_)) ++ [62]) ++ dgL (GL_v g 9 k_)) ++ [58]) ++ dgL (GL_v g 10 k_)) ++ (([] ++ [110]) ++ dgL need_))).length : Nat) : Int) → GL_lnb g99_45 j = tF (((((([] ++ dgL (GL_v g 8 k_)) ++ [62]) ++ dgL (GL_v g 9 k_)) ++ [58]) ++ dgL (GL_v g 10 k_)) ++ (([] ++ [110]) ++ dgL need_)) j := ⟨hc9.trans hlen, fun j j0 j1 => by rw [hb9, ← htxt]; exact wrL_tF j j0 j1⟩
          refine zt_callSi (As := [.ref (ad 0), .int (iI z99_46), .ref s92_44]) (rest := []) (L := [zW tA K ad g99_45, bStr tA s92_44 v92_44 (((((([] ++ dgL (GL_v g 8 k_)) ++ [62]) ++ dgL (GL_v g 9 k_)) ++ [58]) ++ dgL (GL_v g 10 k_)) ++ (([] ++ [110]) ++ dgL need_))]) (Lc := [zW tA K ad g99_45, bStr tA s92_44 v92_44 (((((([] ++ dgL (GL_v g 8 k_)) ++ [62]) ++ dgL (GL_v g 9 k_)) ++ [58]) ++ dgL (GL_v g 10 k_)) ++ (([] ++ [110]) ++ dgL need_))]) (Lr := []) (Lc' := fun (u : GL) => [zW tA K ad u]) (Lf := fun (u : GL) => [zW tA K ad u]) (is := [0, 1]) (isF := [0]) ⟨hx, hb, hml, hown, hts⟩ (q_L_spells hst hB hr.1 s92_44 v92_44 z99_46 (((((([] ++ dgL (GL_v g 8 k_)) ++ [62]) ++ dgL (GL_v g 9 k_)) ++ [58]) ++ dgL (GL_v g 10 k_)) ++ (([] ++ [110]) ++ dgL need_)) hchr hsn hlen hag) (va_cwS 3 hts (gx_ww gL_lines_L_spells) rfl rfl rfl (by decide +kernel) ⟨Nat.le_of_ble_eq_true rfl, Nat.le_of_ble_eq_true rfl⟩) hK hP hD hS hA hZ ⟨rfl, rfl, (by decide)⟩ ⟨fun _ => (List.append_nil _).symm, fun _ => rfl, (by decide)⟩ rfl rfl hl.1 (Nat.le_of_ble_eq_true rfl) dL_lines_103 (by show _ + 70 ≤ 3000 ∧ _ + 420 ≤ 18000; omega) ?_
          intro z103_47 g103_47 H locs hp9 hP hD hS
          have q103 := hp9.2
          have hr := RDO_trans hr hp9.1
          clear hp9
          refine zz_if_ne (tgt := 111) hx hb dL_lines_106 (by decide) (by omega) (fun c_106 => ?_) (fun c_106 => ?_)
          · refine zz_iinc (lv' := [(1, .int (iI (k_ + 1))), (3, .ref s92_44), (2, .int (iI need_)), (0, .ref (ad 0))]) hx hb dL_lines_111 hl (k := 2) rfl (by decide) rfl (fun ls hl => ?_)
            refine lv_goto (tgt := 2) hx hb dL_lines_114 (by decide) ?_
            exact ih2 (k_ + 1) g103_47 _ _ _ _ _ (by exact hr) (by omega) (by omega) (by omega) hP hD hS (lv_sub hl [0, 3] rfl)
          · exfalso
            omega
        · refine zz_ldcwS hx hb hown (hZ.2.2.2.2.1 (324, "-", 16) (by decide)) dL_lines_63 ?_
          refine lv_goto (tgt := 89) hx hb dL_lines_66 (by decide) ?_
          refine zc_callVr_ch (As := [.ref (K (100 + 16))]) (rest := []) (L := [zW tA K ad g53_40, bSB tA 16 q16_35 a16_35 0 z0F ((((([] ++ dgL (GL_v g 8 k_)) ++ [62]) ++ dgL (GL_v g 9 k_)) ++ [58]) ++ dgL (GL_v g 10 k_))]) (Lc := [bSB tA 16 q16_35 a16_35 0 z0F ((((([] ++ dgL (GL_v g 8 k_)) ++ [62]) ++ dgL (GL_v g 9 k_)) ++ [58]) ++ dgL (GL_v g 10 k_))]) (Lr := [zW tA K ad g53_40]) (Lc' := fun (u : Unit) => [bSB tA 16 q16_35 a16_35 0 z0F (((((([] ++ dgL (GL_v g 8 k_)) ++ [62]) ++ dgL (GL_v g 9 k_)) ++ [58]) ++ dgL (GL_v g 10 k_)) ++ sTx.getD 16 [])]) (Lf := fun (u : Unit) => [zW tA K ad g53_40, bSB tA 16 q16_35 a16_35 0 z0F (((((([] ++ dgL (GL_v g 8 k_)) ++ [62]) ++ dgL (GL_v g 9 k_)) ++ [58]) ++ dgL (GL_v g 10 k_)) ++ sTx.getD 16 [])]) (is := [1, 0]) (isF := [0, 1]) ⟨hx, hb, hml, hown, hts⟩ (c_apK l K D tA q16_35 a16_35 H.size 0 z0F ((((([] ++ dgL (GL_v g 8 k_)) ++ [62]) ++ dgL (GL_v g 9 k_)) ++ [58]) ++ dgL (GL_v g 10 k_)) 16 16 (by decide) (by decide) (by rw [show sLn 16 = 1 from rfl]; simp only [List.length_append, List.length_cons, List.length_nil]; omega)) (cwV 1 hts (goodIn_wid gL_lines_J4_append_15ec4) rfl rfl rfl (by decide +kernel) ⟨Nat.le_of_ble_eq_true rfl, Nat.le_of_ble_eq_true rfl⟩) hK hP hD hS hA hZ.2.2.2 ⟨rfl, rfl, (by decide)⟩ ⟨fun _ => rfl, fun _ => rfl, (by decide)⟩ (ci := 1) (q0 := 0) rfl rfl rfl rfl rfl hl.1 (Nat.le_of_ble_eq_true rfl) dL_lines_89 (by show _ + 0 ≤ 3000 ∧ _ + 0 ≤ 18000; omega) ?_
          intro u H locs hp9 hP hD hS
          have hP : va_P D vwCl [zW tA K ad g53_40, bSB tA 16 q16_35 a16_35 0 z0F (((((([] ++ dgL (GL_v g 8 k_)) ++ [62]) ++ dgL (GL_v g 9 k_)) ++ [58]) ++ dgL (GL_v g 10 k_)) ++ [45])].flatten H := hP
          have hD : va_D A [zW tA K ad g53_40, bSB tA 16 q16_35 a16_35 0 z0F (((((([] ++ dgL (GL_v g 8 k_)) ++ [62]) ++ dgL (GL_v g 9 k_)) ++ [58]) ++ dgL (GL_v g 10 k_)) ++ [45])].flatten := hD
          refine zc_callVA_ch (As := []) (rest := []) (L := [zW tA K ad g53_40, bSB tA 16 q16_35 a16_35 0 z0F (((((([] ++ dgL (GL_v g 8 k_)) ++ [62]) ++ dgL (GL_v g 9 k_)) ++ [58]) ++ dgL (GL_v g 10 k_)) ++ [45])]) (Lc := [bSB tA 16 q16_35 a16_35 0 z0F (((((([] ++ dgL (GL_v g 8 k_)) ++ [62]) ++ dgL (GL_v g 9 k_)) ++ [58]) ++ dgL (GL_v g 10 k_)) ++ [45])]) (Lr := [zW tA K ad g53_40]) (Lc' := fun (u : Nat × Nat) => [bSB tA 16 q16_35 a16_35 0 z0F (((((([] ++ dgL (GL_v g 8 k_)) ++ [62]) ++ dgL (GL_v g 9 k_)) ++ [58]) ++ dgL (GL_v g 10 k_)) ++ [45]), bStr tA u.1 u.2 (((((([] ++ dgL (GL_v g 8 k_)) ++ [62]) ++ dgL (GL_v g 9 k_)) ++ [58]) ++ dgL (GL_v g 10 k_)) ++ [45])]) (Lf := fun (u : Nat × Nat) => [zW tA K ad g53_40, bStr tA u.1 u.2 (((((([] ++ dgL (GL_v g 8 k_)) ++ [62]) ++ dgL (GL_v g 9 k_)) ++ [58]) ++ dgL (GL_v g 10 k_)) ++ [45])]) (is := [1, 0]) (isF := [0, 2]) ⟨hx, hb, hml, hown, hts⟩ (c_toS l K D tA q16_35 a16_35 H.size 0 z0F (((((([] ++ dgL (GL_v g 8 k_)) ++ [62]) ++ dgL (GL_v g 9 k_)) ++ [58]) ++ dgL (GL_v g 10 k_)) ++ [45]) 16 (by repeat' first | exact ch_0 | exact ch_dg _ | exact ch_1 (by decide) | exact ch_lit (by decide) | refine ch_app ?_ ?_) (by decide) (by simp only [List.length_append, List.length_cons, List.length_nil]; omega)) (cwV 0 hts (goodIn_wid gL_lines_J4_toString_0e30d) rfl rfl rfl (by decide +kernel) ⟨Nat.le_of_ble_eq_true rfl, Nat.le_of_ble_eq_true rfl⟩) hK hP hD hS hA hZ.2.2.2 ⟨rfl, rfl, (by decide)⟩ ⟨fun _ => rfl, fun _ => rfl, (by decide)⟩ (ci := 1) (q0 := 0) rfl rfl rfl rfl rfl hl.1 (Nat.le_of_ble_eq_true rfl) dL_lines_92 (by show _ + 2 ≤ 3000 ∧ _ + 68 ≤ 18000; omega) ?_
          intro u H locs hp9 hP hD hS
          obtain ⟨s92_48, v92_48⟩ := u
          have hP : va_P D vwCl [zW tA K ad g53_40, bStr tA s92_48 v92_48 (((((([] ++ dgL (GL_v g 8 k_)) ++ [62]) ++ dgL (GL_v g 9 k_)) ++ [58]) ++ dgL (GL_v g 10 k_)) ++ [45])].flatten H := hP
          have hD : va_D A [zW tA K ad g53_40, bStr tA s92_48 v92_48 (((((([] ++ dgL (GL_v g 8 k_)) ++ [62]) ++ dgL (GL_v g 9 k_)) ++ [58]) ++ dgL (GL_v g 10 k_)) ++ [45])].flatten := hD
          refine lv_astore_n (lv' := [(3, .ref s92_48), (2, .int (iI need_)), (1, .int (iI k_)), (0, .ref (ad 0))]) hx hb dL_lines_95 rfl hl (by decide) rfl (fun ls hl => ?_)
          refine lv_aload_n hx hb dL_lines_96 rfl (lv_at hl 3 rfl) ?_
          refine lv_aload_n hx hb dL_lines_97 rfl (lv_at hl 3 rfl) ?_
          refine lv_iload_n hx hb dL_lines_98 rfl (lv_at hl 2 rfl) ?_
          refine zh_callSi_ch (As := [.ref (ad 0), .int (iI k_)]) (rest := [.ref (ad 0)]) (L := [zW tA K ad g53_40, bStr tA s92_48 v92_48 (((((([] ++ dgL (GL_v g 8 k_)) ++ [62]) ++ dgL (GL_v g 9 k_)) ++ [58]) ++ dgL (GL_v g 10 k_)) ++ [45])]) (Lc := [zW tA K ad g53_40]) (Lr := [bStr tA s92_48 v92_48 (((((([] ++ dgL (GL_v g 8 k_)) ++ [62]) ++ dgL (GL_v g 9 k_)) ++ [58]) ++ dgL (GL_v g 10 k_)) ++ [45])]) (Lc' := fun (u : GL) => [zW tA K ad u]) (Lf := fun (u : GL) => [zW tA K ad u, bStr tA s92_48 v92_48 (((((([] ++ dgL (GL_v g 8 k_)) ++ [62]) ++ dgL (GL_v g 9 k_)) ++ [58]) ++ dgL (GL_v g 10 k_)) ++ [45])]) (is := [0, 1]) (isF := [1, 0]) ⟨hx, hb, hml, hown, hts⟩ (q_L_writeSubscriber hst hB hr.1 k_ (by omega)) (vx_cwSW 2 hts (gx_ww gL_lines_L_writeSubscriber) rfl rfl rfl (by decide +kernel) ⟨Nat.le_of_ble_eq_true rfl, Nat.le_of_ble_eq_true rfl⟩) hK hP hD hS hA hZ ⟨(List.append_nil _).symm, rfl, (by decide)⟩ ⟨fun _ => (List.append_nil _).symm, fun _ => rfl, (by decide)⟩ rfl rfl hl.1 (Nat.le_of_ble_eq_true rfl) dL_lines_99 (by show _ + 1 ≤ 3000 ∧ _ + 6 ≤ 18000; omega) ?_
          intro z99_50 g99_49 H locs hp9 hP hD hS
          have q99 := hp9.2
          try rw [hr.2.1] at q99
          have hr := RDO_trans hr hp9.1
          clear hp9
          obtain ⟨nd9, hn9, hz9, hc9, hb9, h169⟩ := q99.elim (fun h => absurd ⟨by omega, by omega⟩ h.1) (fun h => h.2)
          have hnd9 : nd9 = nd k_ := needP_uniq hn9 hnd
          refine lv_aload_n hx hb dL_lines_102 rfl (lv_at hl 0 rfl) ?_
          have htxt : (((((([] ++ dgL (GL_v g 8 k_)) ++ [62]) ++ dgL (GL_v g 9 k_)) ++ [58]) ++ dgL (GL_v g 10 k_)) ++ [45]) = subLn (GL_v g 8 k_) (GL_v g 9 k_) (GL_v g 10 k_) nd9 := by
            unfold subLn
            rw [hnd9, if_pos (by omega)]
          have hchr : ∀ v ∈ (((((([] ++ dgL (GL_v g 8 k_)) ++ [62]) ++ dgL (GL_v g 9 k_)) ++ [58]) ++ dgL (GL_v g 10 k_)) ++ [45]), 0 ≤ v ∧ v ≤ 127 := by rw [htxt]; exact subLn_ch _ _ _ _
          have hlen : z99_50 = ((((((((([] ++ dgL (GL_v g 8 k_)) ++ [62]) ++ dgL (GL_v g 9 k_)) ++ [58]) ++ dgL (GL_v g 10 k_)) ++ [45])).length : Nat) : Int) := by rw [htxt]; exact hz9
          have hsn : ((((((([] ++ dgL (GL_v g 8 k_)) ++ [62]) ++ dgL (GL_v g 9 k_)) ++ [58]) ++ dgL (GL_v g 10 k_)) ++ [45])).length ≤ 64 := by omega
          have hag : GL_lct g99_49 = ((((((((([] ++ dgL (GL_v g 8 k_)) ++ [62]) ++ dgL (GL_v g 9 k_)) ++ [58]) ++ dgL (GL_v g 10 k_)) ++ [45])).length : Nat) : Int) ∧ ∀ j : Int, 0 ≤ j → j < ((((((((([] ++ dgL (GL_v g 8 k_)) ++ [62]) ++ dgL (GL_v g 9 k_)) ++ [58]) ++ dgL (GL_v g 10 k_)) ++ [45])).length : Nat) : Int) → GL_lnb g99_49 j = tF (((((([] ++ dgL (GL_v g 8 k_)) ++ [62]) ++ dgL (GL_v g 9 k_)) ++ [58]) ++ dgL (GL_v g 10 k_)) ++ [45]) j := ⟨hc9.trans hlen, fun j j0 j1 => by rw [hb9, ← htxt]; exact wrL_tF j j0 j1⟩
          refine zt_callSi (As := [.ref (ad 0), .int (iI z99_50), .ref s92_48]) (rest := []) (L := [zW tA K ad g99_49, bStr tA s92_48 v92_48 (((((([] ++ dgL (GL_v g 8 k_)) ++ [62]) ++ dgL (GL_v g 9 k_)) ++ [58]) ++ dgL (GL_v g 10 k_)) ++ [45])]) (Lc := [zW tA K ad g99_49, bStr tA s92_48 v92_48 (((((([] ++ dgL (GL_v g 8 k_)) ++ [62]) ++ dgL (GL_v g 9 k_)) ++ [58]) ++ dgL (GL_v g 10 k_)) ++ [45])]) (Lr := []) (Lc' := fun (u : GL) => [zW tA K ad u]) (Lf := fun (u : GL) => [zW tA K ad u]) (is := [0, 1]) (isF := [0]) ⟨hx, hb, hml, hown, hts⟩ (q_L_spells hst hB hr.1 s92_48 v92_48 z99_50 (((((([] ++ dgL (GL_v g 8 k_)) ++ [62]) ++ dgL (GL_v g 9 k_)) ++ [58]) ++ dgL (GL_v g 10 k_)) ++ [45]) hchr hsn hlen hag) (va_cwS 3 hts (gx_ww gL_lines_L_spells) rfl rfl rfl (by decide +kernel) ⟨Nat.le_of_ble_eq_true rfl, Nat.le_of_ble_eq_true rfl⟩) hK hP hD hS hA hZ ⟨rfl, rfl, (by decide)⟩ ⟨fun _ => (List.append_nil _).symm, fun _ => rfl, (by decide)⟩ rfl rfl hl.1 (Nat.le_of_ble_eq_true rfl) dL_lines_103 (by show _ + 70 ≤ 3000 ∧ _ + 420 ≤ 18000; omega) ?_
          intro z103_51 g103_51 H locs hp9 hP hD hS
          have q103 := hp9.2
          have hr := RDO_trans hr hp9.1
          clear hp9
          refine zz_if_ne (tgt := 111) hx hb dL_lines_106 (by decide) (by omega) (fun c_106 => ?_) (fun c_106 => ?_)
          · refine zz_iinc (lv' := [(1, .int (iI (k_ + 1))), (3, .ref s92_48), (2, .int (iI need_)), (0, .ref (ad 0))]) hx hb dL_lines_111 hl (k := 2) rfl (by decide) rfl (fun ls hl => ?_)
            refine lv_goto (tgt := 2) hx hb dL_lines_114 (by decide) ?_
            exact ih2 (k_ + 1) g103_51 _ _ _ _ _ (by exact hr) (by omega) (by omega) (by omega) hP hD hS (lv_sub hl [0, 3] rfl)
          · exfalso
            omega
  exact L2 _ 0 g _ _ _ _ _ (by exact hr) (by omega) (by omega) (Nat.lt_succ_self _) hP hD hS (lv_sub hl [0, 1] rfl)
