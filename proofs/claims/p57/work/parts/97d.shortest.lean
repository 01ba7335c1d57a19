/-! ===== p57: the law's shortest way ===== -/
set_option maxHeartbeats 4000000 in
set_option maxRecDepth 20000 in
theorem q_L_shortest {l : Launch} (hst : l.stackTraces = false) {K : Nat → Nat} {D : va_G} {tA : Nat → ClassId} {B N : Int} (hB : (0 ≤ B ∧ B ≤ 100000000) ∧ (0 ≤ N ∧ N ≤ 100000)) : ∀ (d : Nat) {ad : Nat → Nat} {sz : Nat} {g : GL}, OKG B N g → GL_v g 0 0 ≤ 6 → ∀ (a dst rch gone : Int), inP (GL_v g 0 0) a dst → (-2147483648 ≤ rch ∧ rch ≤ 2147483647) → (0 ≤ gone ∧ gone < 64) → ¬ bitP gone a → (64 - gone).toNat ≤ d → zHi l yL_shortest (wsL_shortest ++ xL) ({ frames := 12 + d, cells := 0, slots := 0, locals := 250 + 60 * d }) K D tA [.ref (ad 0), .int (iI a), .int (iI dst), .int (iI rch), .int (iI gone)] (zW tA K ad g) sz (fun (z : Int) (g' : GL) => RDO B N g g' ∧ shW (sE (GL_v g) rch) (bitP gone) a dst z) (fun g' => zW tA K ad g') 0 0 := by
  intro d
  induction d with
  | zero => intro ad sz g hok hn6 a dst rch gone hin r_rch hgo hnot hd; exact absurd hd (by omega)
  | succ d ih =>
    intro ad sz g hok hn6 a dst rch gone hin r_rch hgo hnot hd
    obtain ⟨ha0, ha1, hd0, hd1⟩ := id hin
    have ha6 : 0 ≤ a ∧ a < 6 := by omega
    refine zHi_ofC (cc := cL_shortest) (maxL := 8) (by decide) rfl (fun z u h => rfl) (Nat.le_of_ble_eq_true rfl) ?_
    intro p e s m args below meth c A Q ls hx hb hml hts hown hK hP hD hA hZ hret hl
    obtain ⟨H, hHe⟩ : ∃ H : Heap, H = s.heap := ⟨_, rfl⟩
    have hS : va_S A s.heap H [] := by rw [hHe]; exact va_S.rf
    rw [← hHe] at hP ⊢
    have hP := zP_i hP
    have hD := zD_i hD
    have hr : RDO B N g g := RDO_refl hok
    have hl : lv_has ls 8 [(0, .ref (ad 0)), (1, .int (iI a)), (2, .int (iI dst)), (3, .int (iI rch)), (4, .int (iI gone))] := hl
    have l_243 := hts (.methodLink RL 243 Lib.Math.min.name) (by decide +kernel)
    have ls_243 := hts (.static Lib.Math.min.name) (by decide +kernel)
    have lc_243 := hts (.code Lib.Math.min.name Lib.Math.min.code 2 (some .int)) (by decide +kernel)
    have li_243 := hts (.initialized "java/lang/Math") (by decide +kernel)
    obtain ⟨hokv, hhn, hhc, hln, htx, hva, hcm, hlc, hlb⟩ := id hok
    obtain ⟨hsv, hnv⟩ := id hokv
    obtain ⟨hch, hu, hcc, hsp, hmo, hfg, hrg, hni, hfd, hmt, hld, hbr⟩ := SVk_out (show SVk B N (eSv (GL_v g)) from hsv)
    have hpp : 0 ≤ GL_v g 0 0 ∧ GL_v g 0 0 ≤ 10 := ⟨hch.1, hch.2.1⟩
    have hlg : 0 ≤ GL_v g 1 0 ∧ GL_v g 1 0 ≤ 20 := ⟨hch.2.2.1, hch.2.2.2.1⟩
    have L16 : ∀ (f9 : Nat) (nx_ : Int) (bst_ : Int) (g16 : GL) (H : Heap) (locs : List Loc) (ls : Array Slot), (RDO B N g g16) → (0 ≤ nx_ ∧ nx_ ≤ GL_v g 0 0) → (0 ≤ bst_ ∧ bst_ ≤ 99999) → ((a = dst ∧ bst_ = 0) ∨ (a ≠ dst ∧ shK (sE (GL_v g) rch) (bitP gone) a dst nx_ bst_)) → (GL_v g 0 0 - nx_).toNat < f9 → va_P D vwCl [zW tA K ad g16].flatten H → va_D A [zW tA K ad g16].flatten → va_S A s.heap H locs → lv_has ls 8 [(6, .int (iI nx_)), (5, .int (iI bst_)), (0, .ref (ad 0)), (1, .int (iI a)), (2, .int (iI dst)), (3, .int (iI rch)), (4, .int (iI gone))] → W p l e (headSpec (wsL_shortest ++ xL) ({ frames := 12 + (d + 1), cells := 0, slots := 0, locals := 250 + 60 * (d + 1) })).room s m args below meth c H locs 0 0 Q (F0 m 16 ls []) := by
      intro f9
      induction f9 with
      | zero => intro nx_ bst_ g16 H locs ls hr hnx hbr9 hbt hmz; exact absurd hmz (Nat.not_lt_zero _)
      | succ f9 ih16 =>
        intro nx_ bst_ g16 H locs ls hr hnx hbr9 hbt hmz hP hD hS hl
        refine lv_iload hx hb dL_shortest_16 (lv_at hl 0 rfl) ?_
        refine lv_aload_n hx hb dL_shortest_18 rfl (lv_at hl 2 rfl) ?_
        refine zt_callVi (As := []) (rest := [.int (iI nx_)]) (L := [zW tA K ad g16]) (Lc := [zW tA K ad g16]) (Lr := []) (Lc' := fun (u : GL) => [zW tA K ad u]) (Lf := fun (u : GL) => [zW tA K ad u]) (is := [0]) (isF := [0]) ⟨hx, hb, hml, hown, hts⟩ (q_X10_portCount hst hB hr.1  ) (cwV 0 hts (goodIn_wid gL_shortest_X10_portCount) rfl rfl rfl (by decide +kernel) ⟨(Nat.le_trans (m := 12) (Nat.le_of_ble_eq_true rfl) (Nat.le_add_right 12 (d + 1))), (Nat.le_trans (m := 250) (Nat.le_of_ble_eq_true rfl) (Nat.le_add_right 250 (60 * (d + 1))))⟩) hK hP hD hS hA hZ (zCut_1 _) (zBack_1 _) (ci := 12) (q0 := 0) rfl rfl (zW_0 tA K ad g16) rfl rfl hl.1 (Nat.le_of_ble_eq_true rfl) dL_shortest_19 ⟨Nat.le_of_ble_eq_true rfl, Nat.le_of_ble_eq_true rfl⟩ ?_
        intro z19_1 g19_0 H locs hp9 hP hD hS
        have q19 := hp9.2
        try rw [hr.2.1] at q19
        have hr := RDO_trans hr hp9.1
        clear hp9
        refine zz_icmp_ge (tgt := 120) hx hb dL_shortest_22 (by decide) (by omega) (by omega) (fun c_22 => ?_) (fun c_22 => ?_)
        · refine lv_iload hx hb dL_shortest_120 (lv_at hl 1 rfl) ?_
          have hfin : (fun (z : Int) (g' : GL) => RDO B N g g' ∧ shW (sE (GL_v g) rch) (bitP gone) a dst z) bst_ g19_0 := by
            refine ⟨hr, ?_⟩
            rcases hbt with ⟨h1, h2⟩ | ⟨h1, h2⟩
            · rw [h1, h2]
              exact shW_same (by omega)
            · first
              | exact shK_end (by omega) (hch.egOk rch) (by omega) (by omega) h1 h2 (by omega)
              | (have h3 := h2.1; exact absurd h3.1 (by omega))
          exact hret bst_ g19_0 H locs _ _ _ _ (by omega) (by omega) dL_shortest_122 hfin (zP_o hP) (zD_o hD) hS
        · refine lv_iload hx hb dL_shortest_25 (lv_at hl 1 rfl) ?_
          refine zz_if_le (tgt := 120) hx hb dL_shortest_27 (by decide) (by omega) (fun c_27 => ?_) (fun c_27 => ?_)
          · refine lv_iload hx hb dL_shortest_120 (lv_at hl 1 rfl) ?_
            have hfin : (fun (z : Int) (g' : GL) => RDO B N g g' ∧ shW (sE (GL_v g) rch) (bitP gone) a dst z) bst_ g19_0 := by
              refine ⟨hr, ?_⟩
              rcases hbt with ⟨h1, h2⟩ | ⟨h1, h2⟩
              · rw [h1, h2]
                exact shW_same (by omega)
              · first
                | exact shK_end (by omega) (hch.egOk rch) (by omega) (by omega) h1 h2 (by omega)
                | (have h3 := h2.1; exact absurd h3.1 (by omega))
            exact hret bst_ g19_0 H locs _ _ _ _ (by omega) (by omega) dL_shortest_122 hfin (zP_o hP) (zD_o hD) hS
          · have hnx6 : 0 ≤ nx_ ∧ nx_ < 6 := by omega
            have hne : a ≠ dst := by rcases hbt with h | h <;> omega
            have hbk : shK (sE (GL_v g) rch) (bitP gone) a dst nx_ bst_ := by
              rcases hbt with h | h
              · exact absurd h.1 hne
              · exact h.2
            have hbk1 := hbk.1
            refine lv_iload hx hb dL_shortest_30 (lv_at hl 6 rfl) ?_
            refine lv_iload hx hb dL_shortest_32 (lv_at hl 0 rfl) ?_
            refine zq_ishr hx hb dL_shortest_34 hgo hnx6 ?_
            have hsh := shI_in hgo hnx6
            refine zz_iconst hx hb dL_shortest_35 ?_
            refine zq_iand1 hx hb dL_shortest_36 hsh ?_
            refine zz_if_ne (tgt := 72) hx hb dL_shortest_37 (by decide) (by omega) (fun c_37 => ?_) (fun c_37 => ?_)
            · have hskip : bitP gone nx_ ∨ ∀ w9, ¬ (sE (GL_v g) rch) a nx_ w9 := by
                exact Or.inl ⟨hnx6.1, hnx6.2, by omega⟩
              refine zz_iconst hx hb dL_shortest_72 ?_
              refine lv_istore (lv' := [(7, .int (iI 0)), (6, .int (iI nx_)), (5, .int (iI bst_)), (0, .ref (ad 0)), (1, .int (iI a)), (2, .int (iI dst)), (3, .int (iI rch)), (4, .int (iI gone))]) hx hb dL_shortest_73 hl (by decide) rfl (fun ls hl => ?_)
              refine lv_iload hx hb dL_shortest_75 (lv_at hl 0 rfl) ?_
              refine zz_if_eq (tgt := 110) hx hb dL_shortest_77 (by decide) (by decide) (fun c_77 => ?_) (fun c_77 => ?_)
              · refine lv_iload hx hb dL_shortest_110 (lv_at hl 2 rfl) ?_
                refine lv_istore (lv' := [(5, .int (iI bst_)), (7, .int (iI 0)), (6, .int (iI nx_)), (0, .ref (ad 0)), (1, .int (iI a)), (2, .int (iI dst)), (3, .int (iI rch)), (4, .int (iI gone))]) hx hb dL_shortest_112 hl (by decide) rfl (fun ls hl => ?_)
                refine zz_iinc (lv' := [(6, .int (iI (nx_ + 1))), (5, .int (iI bst_)), (7, .int (iI 0)), (0, .ref (ad 0)), (1, .int (iI a)), (2, .int (iI dst)), (3, .int (iI rch)), (4, .int (iI gone))]) hx hb dL_shortest_114 hl (k := 2) rfl (by decide) rfl (fun ls hl => ?_)
                refine lv_goto (tgt := 16) hx hb dL_shortest_117 (by decide) ?_
                exact ih16 (nx_ + 1) bst_ g19_0 _ _ _ (by exact hr) (by omega) (by omega) (by exact Or.inr ⟨hne, shK_skip hbk hskip⟩) (by omega) hP hD hS (lv_sub hl [0, 1, 3, 4, 5, 6, 7] rfl)
              · exact absurd c_77 (by decide)
            · refine lv_iload hx hb dL_shortest_40 (lv_at hl 0 rfl) ?_
              refine lv_iload_n hx hb dL_shortest_42 rfl (lv_at hl 3 rfl) ?_
              refine zz_icmp_eq (tgt := 72) hx hb dL_shortest_43 (by decide) (by omega) (by omega) (fun c_43 => ?_) (fun c_43 => ?_)
              · have hskip : bitP gone nx_ ∨ ∀ w9, ¬ (sE (GL_v g) rch) a nx_ w9 := by
                  exact Or.inr (fun w9 h9 => by have h8 := (hch.egOk rch).1 a nx_ w9 h9; omega)
                refine zz_iconst hx hb dL_shortest_72 ?_
                refine lv_istore (lv' := [(7, .int (iI 0)), (6, .int (iI nx_)), (5, .int (iI bst_)), (0, .ref (ad 0)), (1, .int (iI a)), (2, .int (iI dst)), (3, .int (iI rch)), (4, .int (iI gone))]) hx hb dL_shortest_73 hl (by decide) rfl (fun ls hl => ?_)
                refine lv_iload hx hb dL_shortest_75 (lv_at hl 0 rfl) ?_
                refine zz_if_eq (tgt := 110) hx hb dL_shortest_77 (by decide) (by decide) (fun c_77 => ?_) (fun c_77 => ?_)
                · refine lv_iload hx hb dL_shortest_110 (lv_at hl 2 rfl) ?_
                  refine lv_istore (lv' := [(5, .int (iI bst_)), (7, .int (iI 0)), (6, .int (iI nx_)), (0, .ref (ad 0)), (1, .int (iI a)), (2, .int (iI dst)), (3, .int (iI rch)), (4, .int (iI gone))]) hx hb dL_shortest_112 hl (by decide) rfl (fun ls hl => ?_)
                  refine zz_iinc (lv' := [(6, .int (iI (nx_ + 1))), (5, .int (iI bst_)), (7, .int (iI 0)), (0, .ref (ad 0)), (1, .int (iI a)), (2, .int (iI dst)), (3, .int (iI rch)), (4, .int (iI gone))]) hx hb dL_shortest_114 hl (k := 2) rfl (by decide) rfl (fun ls hl => ?_)
                  refine lv_goto (tgt := 16) hx hb dL_shortest_117 (by decide) ?_
                  exact ih16 (nx_ + 1) bst_ g19_0 _ _ _ (by exact hr) (by omega) (by omega) (by exact Or.inr ⟨hne, shK_skip hbk hskip⟩) (by omega) hP hD hS (lv_sub hl [0, 1, 3, 4, 5, 6, 7] rfl)
                · exact absurd c_77 (by decide)
              · have hin9 : inP (GL_v g19_0 0 0) a nx_ := by
                  rw [hr.2.1]
                  exact ⟨by omega, by omega, by omega, by omega⟩
                have hnbit : ¬ bitP gone nx_ := fun q => by
                  have q2 := q.2.2
                  omega
                have hna : nx_ ≠ a := c_43
                refine lv_aload_n hx hb dL_shortest_46 rfl (lv_at hl 2 rfl) ?_
                refine lv_iload_n hx hb dL_shortest_47 rfl (lv_at hl 3 rfl) ?_
                refine lv_iload hx hb dL_shortest_48 (lv_at hl 0 rfl) ?_
                refine zh_callSi_ch (As := [.ref (ad 0), .int (iI a), .int (iI nx_)]) (rest := []) (L := [zW tA K ad g19_0]) (Lc := [zW tA K ad g19_0]) (Lr := []) (Lc' := fun (u : GL) => [zW tA K ad u]) (Lf := fun (u : GL) => [zW tA K ad u]) (is := [0]) (isF := [0]) ⟨hx, hb, hml, hown, hts⟩ (q_L_hasLeg_n hst hB hr.1 a nx_ (by omega) (by omega) hin9) (vx_cwSW 3 hts (gx_ww gL_shortest_L_hasLeg) rfl rfl rfl (by decide +kernel) ⟨(Nat.le_trans (m := 12) (Nat.le_of_ble_eq_true rfl) (Nat.le_add_right 12 (d + 1))), (Nat.le_trans (m := 250) (Nat.le_of_ble_eq_true rfl) (Nat.le_add_right 250 (60 * (d + 1))))⟩) hK hP hD hS hA hZ (zCut_1 _) (zBack_1 _) rfl rfl hl.1 (Nat.le_of_ble_eq_true rfl) dL_shortest_50 ⟨Nat.le_of_ble_eq_true rfl, Nat.le_of_ble_eq_true rfl⟩ ?_
                intro z50_3 g50_2 H locs hp9 hP hD hS
                have q50 := hp9.2
                try rw [hr.2.1] at q50
                have hr := RDO_trans hr hp9.1
                clear hp9
                have hle_d := q50
                refine zz_iconst hx hb dL_shortest_53 ?_
                refine zz_icmp_ne (tgt := 72) hx hb dL_shortest_54 (by decide) (by omega) (by decide) (fun c_54 => ?_) (fun c_54 => ?_)
                · have hskip : bitP gone nx_ ∨ ∀ w9, ¬ (sE (GL_v g) rch) a nx_ w9 := by
                    refine Or.inr (fun w9 h9 => ?_)
                    obtain ⟨k9, k90, k91, k92, k93, k94⟩ := h9
                    have h8 := hch.2.2.2.2.1 k9 k90 k91
                    rcases hle_d with h | h
                    · exact absurd h.1 (by omega)
                    · exact h.2 ⟨k9, k90, k91, by omega, by omega⟩
                  refine zz_iconst hx hb dL_shortest_72 ?_
                  refine lv_istore (lv' := [(7, .int (iI 0)), (6, .int (iI nx_)), (5, .int (iI bst_)), (0, .ref (ad 0)), (1, .int (iI a)), (2, .int (iI dst)), (3, .int (iI rch)), (4, .int (iI gone))]) hx hb dL_shortest_73 hl (by decide) rfl (fun ls hl => ?_)
                  refine lv_iload hx hb dL_shortest_75 (lv_at hl 0 rfl) ?_
                  refine zz_if_eq (tgt := 110) hx hb dL_shortest_77 (by decide) (by decide) (fun c_77 => ?_) (fun c_77 => ?_)
                  · refine lv_iload hx hb dL_shortest_110 (lv_at hl 2 rfl) ?_
                    refine lv_istore (lv' := [(5, .int (iI bst_)), (7, .int (iI 0)), (6, .int (iI nx_)), (0, .ref (ad 0)), (1, .int (iI a)), (2, .int (iI dst)), (3, .int (iI rch)), (4, .int (iI gone))]) hx hb dL_shortest_112 hl (by decide) rfl (fun ls hl => ?_)
                    refine zz_iinc (lv' := [(6, .int (iI (nx_ + 1))), (5, .int (iI bst_)), (7, .int (iI 0)), (0, .ref (ad 0)), (1, .int (iI a)), (2, .int (iI dst)), (3, .int (iI rch)), (4, .int (iI gone))]) hx hb dL_shortest_114 hl (k := 2) rfl (by decide) rfl (fun ls hl => ?_)
                    refine lv_goto (tgt := 16) hx hb dL_shortest_117 (by decide) ?_
                    exact ih16 (nx_ + 1) bst_ g50_2 _ _ _ (by exact hr) (by omega) (by omega) (by exact Or.inr ⟨hne, shK_skip hbk hskip⟩) (by omega) hP hD hS (lv_sub hl [0, 1, 3, 4, 5, 6, 7] rfl)
                  · exact absurd c_77 (by decide)
                · have hle1 : hasL (GL_v g 1 0) (GL_v g 2) (GL_v g 3) a nx_ := by
                    rcases hle_d with h | h
                    · exact h.2
                    · exact absurd h.1 (by omega)
                  have hle9 : hasL (GL_v g50_2 1 0) (GL_v g50_2 2) (GL_v g50_2 3) a nx_ := by
                    rw [hr.2.1]
                    exact hle1
                  have hin9 : inP (GL_v g50_2 0 0) a nx_ := by
                    rw [hr.2.1]
                    exact ⟨by omega, by omega, by omega, by omega⟩
                  refine lv_aload_n hx hb dL_shortest_57 rfl (lv_at hl 2 rfl) ?_
                  refine lv_iload_n hx hb dL_shortest_58 rfl (lv_at hl 3 rfl) ?_
                  refine lv_iload hx hb dL_shortest_59 (lv_at hl 0 rfl) ?_
                  refine zh_callSi_ch (As := [.ref (ad 0), .int (iI a), .int (iI nx_)]) (rest := []) (L := [zW tA K ad g50_2]) (Lc := [zW tA K ad g50_2]) (Lr := []) (Lc' := fun (u : GL) => [zW tA K ad u]) (Lf := fun (u : GL) => [zW tA K ad u]) (is := [0]) (isF := [0]) ⟨hx, hb, hml, hown, hts⟩ (q_L_reachOf_n hst hB hr.1 a nx_ (by omega) (by omega) hin9 hle9) (vx_cwSW 3 hts (gx_ww gL_shortest_L_reachOf) rfl rfl rfl (by decide +kernel) ⟨(Nat.le_trans (m := 12) (Nat.le_of_ble_eq_true rfl) (Nat.le_add_right 12 (d + 1))), (Nat.le_trans (m := 250) (Nat.le_of_ble_eq_true rfl) (Nat.le_add_right 250 (60 * (d + 1))))⟩) hK hP hD hS hA hZ (zCut_1 _) (zBack_1 _) rfl rfl hl.1 (Nat.le_of_ble_eq_true rfl) dL_shortest_61 ⟨Nat.le_of_ble_eq_true rfl, Nat.le_of_ble_eq_true rfl⟩ ?_
                  intro z61_5 g61_4 H locs hp9 hP hD hS
                  have q61 := hp9.2
                  try rw [hr.2.1] at q61
                  have hr := RDO_trans hr hp9.1
                  clear hp9
                  obtain ⟨p1, p10, p11, p12, p13, p14⟩ := q61
                  have hc1 := hch.2.2.2.2.1 p1 p10 p11
                  refine lv_iload_n hx hb dL_shortest_64 rfl (lv_at hl 5 rfl) ?_
                  refine zz_icmp_gt (tgt := 72) hx hb dL_shortest_65 (by decide) (by omega) (by omega) (fun c_65 => ?_) (fun c_65 => ?_)
                  · have hskip : bitP gone nx_ ∨ ∀ w9, ¬ (sE (GL_v g) rch) a nx_ w9 := by
                      refine Or.inr (fun w9 h9 => ?_)
                      obtain ⟨k9, k90, k91, k92, k93, k94⟩ := h9
                      have h8 := hch.2.2.2.2.1 k9 k90 k91
                      have e9 : k9 = p1 := hu k9 p1 k90 k91 p10 p11 (by omega) (by omega)
                      have e13 : GL_v g 5 k9 = GL_v g 5 p1 := by rw [e9]
                      omega
                    refine zz_iconst hx hb dL_shortest_72 ?_
                    refine lv_istore (lv' := [(7, .int (iI 0)), (6, .int (iI nx_)), (5, .int (iI bst_)), (0, .ref (ad 0)), (1, .int (iI a)), (2, .int (iI dst)), (3, .int (iI rch)), (4, .int (iI gone))]) hx hb dL_shortest_73 hl (by decide) rfl (fun ls hl => ?_)
                    refine lv_iload hx hb dL_shortest_75 (lv_at hl 0 rfl) ?_
                    refine zz_if_eq (tgt := 110) hx hb dL_shortest_77 (by decide) (by decide) (fun c_77 => ?_) (fun c_77 => ?_)
                    · refine lv_iload hx hb dL_shortest_110 (lv_at hl 2 rfl) ?_
                      refine lv_istore (lv' := [(5, .int (iI bst_)), (7, .int (iI 0)), (6, .int (iI nx_)), (0, .ref (ad 0)), (1, .int (iI a)), (2, .int (iI dst)), (3, .int (iI rch)), (4, .int (iI gone))]) hx hb dL_shortest_112 hl (by decide) rfl (fun ls hl => ?_)
                      refine zz_iinc (lv' := [(6, .int (iI (nx_ + 1))), (5, .int (iI bst_)), (7, .int (iI 0)), (0, .ref (ad 0)), (1, .int (iI a)), (2, .int (iI dst)), (3, .int (iI rch)), (4, .int (iI gone))]) hx hb dL_shortest_114 hl (k := 2) rfl (by decide) rfl (fun ls hl => ?_)
                      refine lv_goto (tgt := 16) hx hb dL_shortest_117 (by decide) ?_
                      exact ih16 (nx_ + 1) bst_ g61_4 _ _ _ (by exact hr) (by omega) (by omega) (by exact Or.inr ⟨hne, shK_skip hbk hskip⟩) (by omega) hP hD hS (lv_sub hl [0, 1, 3, 4, 5, 6, 7] rfl)
                    · exact absurd c_77 (by decide)
                  · refine zz_iconst hx hb dL_shortest_68 ?_
                    refine lv_goto (tgt := 73) hx hb dL_shortest_69 (by decide) ?_
                    refine lv_istore (lv' := [(7, .int (iI 1)), (6, .int (iI nx_)), (5, .int (iI bst_)), (0, .ref (ad 0)), (1, .int (iI a)), (2, .int (iI dst)), (3, .int (iI rch)), (4, .int (iI gone))]) hx hb dL_shortest_73 hl (by decide) rfl (fun ls hl => ?_)
                    refine lv_iload hx hb dL_shortest_75 (lv_at hl 0 rfl) ?_
                    refine zz_if_eq (tgt := 110) hx hb dL_shortest_77 (by decide) (by decide) (fun c_77 => ?_) (fun c_77 => ?_)
                    · exact absurd c_77 (by decide)
                    · have hin9 : inP (GL_v g61_4 0 0) a nx_ := by
                        rw [hr.2.1]
                        exact ⟨by omega, by omega, by omega, by omega⟩
                      have hle9 : hasL (GL_v g61_4 1 0) (GL_v g61_4 2) (GL_v g61_4 3) a nx_ := by
                        rw [hr.2.1]
                        exact hle1
                      refine lv_iload hx hb dL_shortest_80 (lv_at hl 2 rfl) ?_
                      refine lv_aload_n hx hb dL_shortest_82 rfl (lv_at hl 3 rfl) ?_
                      refine lv_iload_n hx hb dL_shortest_83 rfl (lv_at hl 4 rfl) ?_
                      refine lv_iload hx hb dL_shortest_84 (lv_at hl 1 rfl) ?_
                      refine zt_callVi (As := [.int (iI a), .int (iI nx_)]) (rest := [.int (iI bst_)]) (L := [zW tA K ad g61_4]) (Lc := [zW tA K ad g61_4]) (Lr := []) (Lc' := fun (u : GL) => [zW tA K ad u]) (Lf := fun (u : GL) => [zW tA K ad u]) (is := [0]) (isF := [0]) ⟨hx, hb, hml, hown, hts⟩ (q_X10_lengthOf_n hst hB hr.1 a nx_ (by omega) (by omega) hin9 hle9) (cwV 2 hts (goodIn_wid gL_shortest_X10_lengthOf) rfl rfl rfl (by decide +kernel) ⟨(Nat.le_trans (m := 12) (Nat.le_of_ble_eq_true rfl) (Nat.le_add_right 12 (d + 1))), (Nat.le_trans (m := 250) (Nat.le_of_ble_eq_true rfl) (Nat.le_add_right 250 (60 * (d + 1))))⟩) hK hP hD hS hA hZ (zCut_1 _) (zBack_1 _) (ci := 12) (q0 := 0) rfl rfl (zW_0 tA K ad g61_4) rfl rfl hl.1 (Nat.le_of_ble_eq_true rfl) dL_shortest_86 ⟨Nat.le_of_ble_eq_true rfl, Nat.le_of_ble_eq_true rfl⟩ ?_
                      intro z86_7 g86_6 H locs hp9 hP hD hS
                      have q86 := hp9.2
                      try rw [hr.2.1] at q86
                      have hr := RDO_trans hr hp9.1
                      clear hp9
                      obtain ⟨p2, p20, p21, p22, p23, p24⟩ := q86
                      have hc2 := hch.2.2.2.2.1 p2 p20 p21
                      have e12 : p2 = p1 := hu p2 p1 p20 p21 p10 p11 (by omega) (by omega)
                      have e13 : GL_v g 5 p2 = GL_v g 5 p1 := by rw [e12]
                      have hE9 : (sE (GL_v g) rch) a nx_ z86_7 := ⟨p2, p20, p21, by omega, p24.symm, by omega⟩
                      refine lv_aload_n hx hb dL_shortest_89 rfl (lv_at hl 3 rfl) ?_
                      refine lv_iload hx hb dL_shortest_90 (lv_at hl 1 rfl) ?_
                      refine lv_iload_n hx hb dL_shortest_92 rfl (lv_at hl 5 rfl) ?_
                      refine lv_iload_n hx hb dL_shortest_93 rfl (lv_at hl 6 rfl) ?_
                      refine lv_iload hx hb dL_shortest_94 (lv_at hl 7 rfl) ?_
                      refine zz_iconst hx hb dL_shortest_96 ?_
                      refine lv_iload_n hx hb dL_shortest_97 rfl (lv_at hl 4 rfl) ?_
                      refine zq_ishl1 hx hb dL_shortest_98 ha6 ?_
                      refine zq_ior hx hb dL_shortest_99 hgo ha6 ?_
                      have hof := orI_in hgo ha6
                      have hnb : ¬ bitP (orI gone a) nx_ := fun q => by
                        rcases (orI_mem hgo ha6 hnx6).mp q with q | q
                        · exact hnbit q
                        · exact hna q
                      refine zt_callSi (As := [.ref (ad 0), .int (iI nx_), .int (iI dst), .int (iI rch), .int (iI (orI gone a))]) (rest := [.int (iI z86_7), .int (iI bst_)]) (L := [zW tA K ad g86_6]) (Lc := [zW tA K ad g86_6]) (Lr := []) (Lc' := fun (u : GL) => [zW tA K ad u]) (Lf := fun (u : GL) => [zW tA K ad u]) (is := [0]) (isF := [0]) ⟨hx, hb, hml, hown, hts⟩ (ih (ad := ad) (sz := H.size) (g := g86_6) hr.1 (by rw [hr.2.1]; exact hn6) nx_ dst rch (orI gone a) (by rw [hr.2.1]; exact ⟨by omega, by omega, by omega, by omega⟩) r_rch hof.1 hnb (by have h9 := hof.2 hnot; omega)) (va_cwS 5 hts (gx_ww gL_shortest_L_shortest) rfl rfl rfl (by decide +kernel) ⟨(by show 12 + d + 1 ≤ 12 + (d + 1); omega), (by show 8 + (8 + 11) + (250 + 60 * d) ≤ 250 + 60 * (d + 1); omega)⟩) hK hP hD hS hA hZ (zCut_1 _) (zBack_1 _) rfl rfl hl.1 (Nat.le_of_ble_eq_true rfl) dL_shortest_100 ⟨Nat.le_of_ble_eq_true rfl, Nat.le_of_ble_eq_true rfl⟩ ?_
                      intro zr_9 g100_8 H locs hp9 hP hD hS
                      have hsw := hp9.2
                      rw [hr.2.1] at hsw
                      have hr := RDO_trans hr hp9.1
                      clear hp9
                      have hzb := hsw.1
                      refine zz_iadd hx hb dL_shortest_103 ?_
                      have hG9 : ∀ x, 0 ≤ x → x < 10 → (bitP (orI gone a) x ↔ bitP gone x ∨ x = a) := fun x x0 x1 => by
                        by_cases h6 : x < 6
                        · exact orI_mem hgo ha6 ⟨x0, h6⟩
                        · exact ⟨fun q => absurd q.2.1 h6, fun q => q.elim (fun q => absurd q.2.1 h6) (fun q => absurd q (by omega))⟩
                      have hbn := shK_take (best' := min bst_ (z86_7 + zr_9)) (hch.egOk rch) (hu.eq hch rch) hbk hE9 hG9 (fun x q => ⟨q.1, Int.lt_of_lt_of_le q.2.1 (by decide)⟩) hsw rfl
                      refine zz_mmin hx hb (by rw [hml]; exact hl.1.symm) hown l_243 ls_243 li_243 lc_243 (Nat.le_trans (m := 12) (Nat.le_of_ble_eq_true rfl) (Nat.le_add_right 12 (d + 1))) (Nat.le_trans (m := 250) (Nat.le_of_ble_eq_true rfl) (Nat.le_add_right 250 (60 * (d + 1)))) (Nat.le_of_ble_eq_true rfl) (Nat.le_of_ble_eq_true rfl) (by omega) (by omega) dL_shortest_104 ?_
                      refine lv_goto (tgt := 112) hx hb dL_shortest_107 (by decide) ?_
                      refine lv_istore (lv' := [(5, .int (iI (min bst_ (z86_7 + zr_9)))), (7, .int (iI 1)), (6, .int (iI nx_)), (0, .ref (ad 0)), (1, .int (iI a)), (2, .int (iI dst)), (3, .int (iI rch)), (4, .int (iI gone))]) hx hb dL_shortest_112 hl (by decide) rfl (fun ls hl => ?_)
                      refine zz_iinc (lv' := [(6, .int (iI (nx_ + 1))), (5, .int (iI (min bst_ (z86_7 + zr_9)))), (7, .int (iI 1)), (0, .ref (ad 0)), (1, .int (iI a)), (2, .int (iI dst)), (3, .int (iI rch)), (4, .int (iI gone))]) hx hb dL_shortest_114 hl (k := 2) rfl (by decide) rfl (fun ls hl => ?_)
                      refine lv_goto (tgt := 16) hx hb dL_shortest_117 (by decide) ?_
                      exact ih16 (nx_ + 1) (min bst_ (z86_7 + zr_9)) g100_8 _ _ _ (by exact hr) (by omega) (by omega) (by exact Or.inr ⟨hne, hbn⟩) (by omega) hP hD hS (lv_sub hl [0, 1, 3, 4, 5, 6, 7] rfl)
    refine lv_iload_n hx hb dL_shortest_0 rfl (lv_at hl 1 rfl) ?_
    refine lv_iload_n hx hb dL_shortest_1 rfl (lv_at hl 2 rfl) ?_
    refine zz_icmp_ne (tgt := 9) hx hb dL_shortest_2 (by decide) (by omega) (by omega) (fun c_2 => ?_) (fun c_2 => ?_)
    · refine zz_ldc hx hb hown (hts (.constant RL 239 (99999)) (by decide +kernel)) (n := 99999) (by decide +kernel) dL_shortest_9 ?_
      refine lv_istore (lv' := [(5, .int (iI 99999)), (0, .ref (ad 0)), (1, .int (iI a)), (2, .int (iI dst)), (3, .int (iI rch)), (4, .int (iI gone))]) hx hb dL_shortest_11 hl (by decide) rfl (fun ls hl => ?_)
      refine zz_iconst hx hb dL_shortest_13 ?_
      refine lv_istore (lv' := [(6, .int (iI 0)), (5, .int (iI 99999)), (0, .ref (ad 0)), (1, .int (iI a)), (2, .int (iI dst)), (3, .int (iI rch)), (4, .int (iI gone))]) hx hb dL_shortest_14 hl (by decide) rfl (fun ls hl => ?_)
      exact L16 _ 0 99999 g _ _ _ (by exact hr) (by omega) (by omega) (by first | exact Or.inl ⟨c_2, rfl⟩ | exact Or.inr ⟨c_2, shK_0⟩) (Nat.lt_succ_self _) hP hD hS (lv_sub hl [0, 1, 2, 3, 4, 5, 6] rfl)
    · refine zz_iconst hx hb dL_shortest_5 ?_
      refine lv_goto (tgt := 11) hx hb dL_shortest_6 (by decide) ?_
      refine lv_istore (lv' := [(5, .int (iI 0)), (0, .ref (ad 0)), (1, .int (iI a)), (2, .int (iI dst)), (3, .int (iI rch)), (4, .int (iI gone))]) hx hb dL_shortest_11 hl (by decide) rfl (fun ls hl => ?_)
      refine zz_iconst hx hb dL_shortest_13 ?_
      refine lv_istore (lv' := [(6, .int (iI 0)), (5, .int (iI 0)), (0, .ref (ad 0)), (1, .int (iI a)), (2, .int (iI dst)), (3, .int (iI rch)), (4, .int (iI gone))]) hx hb dL_shortest_14 hl (by decide) rfl (fun ls hl => ?_)
      exact L16 _ 0 0 g _ _ _ (by exact hr) (by omega) (by omega) (by first | exact Or.inl ⟨c_2, rfl⟩ | exact Or.inr ⟨c_2, shK_0⟩) (Nat.lt_succ_self _) hP hD hS (lv_sub hl [0, 1, 2, 3, 4, 5, 6] rfl)
