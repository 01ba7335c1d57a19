/-! ===== p57: the law's spells ===== -/
set_option maxHeartbeats 4000000 in
set_option maxRecDepth 20000 in
theorem q_L_spells {l : Launch} (hst : l.stackTraces = false) {K : Nat → Nat} {D : va_G} {tA : Nat → ClassId} {ad : Nat → Nat} {sz : Nat} {B N : Int} {g : GL} (hB : (0 ≤ B ∧ B ≤ 100000000) ∧ (0 ≤ N ∧ N ≤ 100000)) (hok : OKG B N g) (qs qa : Nat) (len : Int) (tx : List Int) (hchr : ∀ v ∈ tx, 0 ≤ v ∧ v ≤ 127) (hsn : tx.length ≤ 64) (hlen : len = ((tx.length : Nat) : Int)) (hag : GL_lct g = ((tx.length : Nat) : Int) ∧ ∀ j : Int, 0 ≤ j → j < ((tx.length : Nat) : Int) → GL_lnb g j = tF tx j) : zHi l yL_spells (wsL_spells ++ xL) ({ frames := 8, cells := 70, slots := 420, locals := 133 }) K D tA [.ref (ad 0), .int (iI len), .ref qs] [zW tA K ad g, bStr tA qs qa tx].flatten sz (fun (z : Int) (g' : GL) => RDO B N g g' ∧ z = 1) (fun g' => zW tA K ad g') 70 420 := by
  refine zHi_ofC (cc := cL_spells) (maxL := 5) (by decide) rfl (fun z u h => zbool z (by have := h.2; omega)) (Nat.le_of_ble_eq_true rfl) ?_
  intro p e s m args below meth c A Q ls hx hb hml hts hown hK hP hD hA hZ hret hl
  obtain ⟨H, hHe⟩ : ∃ H : Heap, H = s.heap := ⟨_, rfl⟩
  have hS : va_S A s.heap H [] := by rw [hHe]; exact va_S.rf
  rw [← hHe] at hP ⊢
  have hr : RDO B N g g := RDO_refl hok
  have hl : lv_has ls 5 [(0, .ref (ad 0)), (1, .int (iI len)), (2, .ref qs)] := hl
  obtain ⟨hokv, hhn, hhc, hln, htx, hva, hcm, hlc, hlb⟩ := id hok
  obtain ⟨hsv, hnv⟩ := id hokv
  obtain ⟨hch, hu, hcc, hsp, hmo, hfg, hrg, hni, hfd, hmt, hld, hbr⟩ := SVk_out (show SVk B N (eSv (GL_v g)) from hsv)
  have hpp : 0 ≤ GL_v g 0 0 ∧ GL_v g 0 0 ≤ 10 := ⟨hch.1, hch.2.1⟩
  have hlg : 0 ≤ GL_v g 1 0 ∧ GL_v g 1 0 ≤ 20 := ⟨hch.2.2.1, hch.2.2.2.1⟩
  refine lv_iload_n hx hb dL_spells_0 rfl (lv_at hl 1 rfl) ?_
  refine lv_aload_n hx hb dL_spells_1 rfl (lv_at hl 2 rfl) ?_
  refine zc_callVi_ch (As := []) (rest := [.int (iI len)]) (L := [zW tA K ad g, bStr tA qs qa tx]) (Lc := [bStr tA qs qa tx]) (Lr := [zW tA K ad g]) (Lc' := fun (u : Unit) => [bStr tA qs qa tx]) (Lf := fun (u : Unit) => [zW tA K ad g, bStr tA qs qa tx]) (is := [1, 0]) (isF := [0, 1]) ⟨hx, hb, hml, hown, hts⟩ (c_J0_length_8abf5_S l K D tA qs qa H.size tx hsn) (cwV 0 hts (goodIn_wid gL_spells_J0_length_8abf5) rfl rfl rfl (by decide +kernel) ⟨Nat.le_of_ble_eq_true rfl, Nat.le_of_ble_eq_true rfl⟩) hK hP hD hS hA hZ.2.2.2 ⟨rfl, rfl, (by decide)⟩ ⟨fun _ => rfl, fun _ => rfl, (by decide)⟩ (ci := 0) (q0 := 0) rfl rfl rfl rfl rfl hl.1 (Nat.le_of_ble_eq_true rfl) dL_spells_2 (by show _ + 0 ≤ 70 ∧ _ + 0 ≤ 420; omega) ?_
  intro z2_0 u H locs q2 hP hD hS
  have hz2 : z2_0 = ((tx.length : Nat) : Int) := q2
  subst hz2
  refine zz_icmp_ne (tgt := 12) hx hb dL_spells_5 (by decide) (by omega) (by omega) (fun c_5 => ?_) (fun c_5 => ?_)
  · exfalso
    omega
  · refine zz_iconst hx hb dL_spells_8 ?_
    refine lv_goto (tgt := 13) hx hb dL_spells_9 (by decide) ?_
    refine lv_istore_n (lv' := [(3, .int (iI 1)), (0, .ref (ad 0)), (1, .int (iI len)), (2, .ref qs)]) hx hb dL_spells_13 rfl hl (by decide) rfl (fun ls hl => ?_)
    refine zz_iconst hx hb dL_spells_14 ?_
    refine lv_istore (lv' := [(4, .int (iI 0)), (3, .int (iI 1)), (0, .ref (ad 0)), (1, .int (iI len)), (2, .ref qs)]) hx hb dL_spells_15 hl (by decide) rfl (fun ls hl => ?_)
    have L17 : ∀ (f9 : Nat) (k_ : Int) (g17 : GL) (k9 : Nat) (n9 : Nat) (H : Heap) (locs : List Loc) (ls : Array Slot), (RDO B N g g17) → (0 ≤ k_ ∧ k_ ≤ ((tx.length : Nat) : Int)) → (GL_lct g17 = ((tx.length : Nat) : Int) ∧ ∀ j : Int, 0 ≤ j → j < ((tx.length : Nat) : Int) → GL_lnb g17 j = tF tx j) → (((k9 : Nat) : Int) ≤ k_ ∧ ((n9 : Nat) : Int) ≤ 6 * (k_)) → (((tx.length : Nat) : Int) - k_).toNat < f9 → va_P D vwCl [zW tA K ad g17, bStr tA qs qa tx].flatten H → va_D A [zW tA K ad g17, bStr tA qs qa tx].flatten → va_S A s.heap H locs → lv_has ls 5 [(4, .int (iI k_)), (3, .int (iI 1)), (0, .ref (ad 0)), (1, .int (iI len)), (2, .ref qs)] → W p l e (headSpec (wsL_spells ++ xL) ({ frames := 8, cells := 70, slots := 420, locals := 133 })).room s m args below meth c H locs k9 n9 Q (F0 m 17 ls []) := by
      intro f9
      induction f9 with
      | zero => intro k_ g17 k9 n9 H locs ls hr hk hag hk9 hmz; exact absurd hmz (Nat.not_lt_zero _)
      | succ f9 ih17 =>
        intro k_ g17 k9 n9 H locs ls hr hk hag hk9 hmz hP hD hS hl
        refine lv_iload hx hb dL_spells_17 (lv_at hl 0 rfl) ?_
        refine lv_aload_n hx hb dL_spells_19 rfl (lv_at hl 4 rfl) ?_
        refine zc_callVi_ch (As := []) (rest := [.int (iI k_)]) (L := [zW tA K ad g17, bStr tA qs qa tx]) (Lc := [bStr tA qs qa tx]) (Lr := [zW tA K ad g17]) (Lc' := fun (u : Unit) => [bStr tA qs qa tx]) (Lf := fun (u : Unit) => [zW tA K ad g17, bStr tA qs qa tx]) (is := [1, 0]) (isF := [0, 1]) ⟨hx, hb, hml, hown, hts⟩ (c_J0_length_8abf5_S l K D tA qs qa H.size tx hsn) (cwV 0 hts (goodIn_wid gL_spells_J0_length_8abf5) rfl rfl rfl (by decide +kernel) ⟨Nat.le_of_ble_eq_true rfl, Nat.le_of_ble_eq_true rfl⟩) hK hP hD hS hA hZ.2.2.2 ⟨rfl, rfl, (by decide)⟩ ⟨fun _ => rfl, fun _ => rfl, (by decide)⟩ (ci := 0) (q0 := 0) rfl rfl rfl rfl rfl hl.1 (Nat.le_of_ble_eq_true rfl) dL_spells_20 (by show _ + 0 ≤ 70 ∧ _ + 0 ≤ 420; omega) ?_
        intro z20_1 u H locs q20 hP hD hS
        have hz20 : z20_1 = ((tx.length : Nat) : Int) := q20
        subst hz20
        refine zz_icmp_ge (tgt := 57) hx hb dL_spells_23 (by decide) (by omega) (by omega) (fun c_23 => ?_) (fun c_23 => ?_)
        · refine lv_iload_n hx hb dL_spells_57 rfl (lv_at hl 1 rfl) ?_
          refine zz_if_eq (tgt := 75) hx hb dL_spells_58 (by decide) (by decide) (fun c_58 => ?_) (fun c_58 => ?_)
          · exact absurd c_58 (by decide)
          · refine lv_aload_n hx hb dL_spells_61 rfl (lv_at hl 2 rfl) ?_
            refine lv_iload_n hx hb dL_spells_62 rfl (lv_at hl 3 rfl) ?_
            refine zh_callSi_ch (As := [.ref (ad 0), .int (iI len)]) (rest := []) (L := [zW tA K ad g17, bStr tA qs qa tx]) (Lc := [zW tA K ad g17]) (Lr := [bStr tA qs qa tx]) (Lc' := fun (u : GL) => [zW tA K ad u]) (Lf := fun (u : GL) => [zW tA K ad u, bStr tA qs qa tx]) (is := [0, 1]) (isF := [1, 0]) ⟨hx, hb, hml, hown, hts⟩ (q_L_lineAt hst hB hr.1 len (by omega)) (vx_cwSW 2 hts (gx_ww gL_spells_L_lineAt) rfl rfl rfl (by decide +kernel) ⟨Nat.le_of_ble_eq_true rfl, Nat.le_of_ble_eq_true rfl⟩) hK hP hD hS hA hZ ⟨(List.append_nil _).symm, rfl, (by decide)⟩ ⟨fun _ => (List.append_nil _).symm, fun _ => rfl, (by decide)⟩ rfl rfl hl.1 (Nat.le_of_ble_eq_true rfl) dL_spells_63 (by show _ + 1 ≤ 70 ∧ _ + 6 ≤ 420; omega) ?_
            intro z63_3 g63_2 H locs hp9 hP hD hS
            have q63 := hp9.2
            try rw [hr.2.1] at q63
            have hr := RDO_trans hr hp9.1
            clear hp9
            have hq9 := q63.1.elim (fun h => h.2) (fun h => absurd h.1 (by rw [hag.1]; omega))
            refine zz_bipush hx hb dL_spells_66 (by decide) ?_
            refine zz_icmp_ne (tgt := 75) hx hb dL_spells_68 (by decide) (by omega) (by decide) (fun c_68 => ?_) (fun c_68 => ?_)
            · exfalso
              omega
            · refine zz_iconst hx hb dL_spells_71 ?_
              refine lv_goto (tgt := 76) hx hb dL_spells_72 (by decide) ?_
              have hfin : (fun (z : Int) (g' : GL) => RDO B N g g' ∧ z = 1) (1 : Int) g63_2 := by
                exact ⟨hr, rfl⟩
              exact hret (1) g63_2 H locs _ _ _ _ (by omega) (by omega) dL_spells_76 hfin (zap_Pc hP) (zap_Dc hD) hS
        · refine lv_iload_n hx hb dL_spells_26 rfl (lv_at hl 1 rfl) ?_
          refine zz_if_eq (tgt := 57) hx hb dL_spells_27 (by decide) (by decide) (fun c_27 => ?_) (fun c_27 => ?_)
          · exact absurd c_27 (by decide)
          · refine lv_aload_n hx hb dL_spells_30 rfl (lv_at hl 2 rfl) ?_
            refine lv_iload hx hb dL_spells_31 (lv_at hl 0 rfl) ?_
            refine zh_callSi_ch (As := [.ref (ad 0), .int (iI k_)]) (rest := []) (L := [zW tA K ad g17, bStr tA qs qa tx]) (Lc := [zW tA K ad g17]) (Lr := [bStr tA qs qa tx]) (Lc' := fun (u : GL) => [zW tA K ad u]) (Lf := fun (u : GL) => [zW tA K ad u, bStr tA qs qa tx]) (is := [0, 1]) (isF := [1, 0]) ⟨hx, hb, hml, hown, hts⟩ (q_L_lineAt hst hB hr.1 k_ (by omega)) (vx_cwSW 2 hts (gx_ww gL_spells_L_lineAt) rfl rfl rfl (by decide +kernel) ⟨Nat.le_of_ble_eq_true rfl, Nat.le_of_ble_eq_true rfl⟩) hK hP hD hS hA hZ ⟨(List.append_nil _).symm, rfl, (by decide)⟩ ⟨fun _ => (List.append_nil _).symm, fun _ => rfl, (by decide)⟩ rfl rfl hl.1 (Nat.le_of_ble_eq_true rfl) dL_spells_33 (by show _ + 1 ≤ 70 ∧ _ + 6 ≤ 420; omega) ?_
            intro z33_5 g33_4 H locs hp9 hP hD hS
            have q33 := hp9.2
            try rw [hr.2.1] at q33
            have hr := RDO_trans hr hp9.1
            clear hp9
            have hq9 := q33.1.elim (fun h => absurd h.1 (by rw [hag.1]; exact fun h8 => h8 ⟨by omega, by omega⟩)) (fun h => h.2.1)
            rw [hag.2 k_ (by omega) (by omega)] at hq9
            have hag := (⟨q33.2.2.trans hag.1, fun j j0 j1 => (congrFun q33.2.1 j).trans (hag.2 j j0 j1)⟩ : GL_lct g33_4 = _ ∧ ∀ j : Int, 0 ≤ j → j < ((tx.length : Nat) : Int) → GL_lnb g33_4 j = tF tx j)
            refine lv_aload_n hx hb dL_spells_36 rfl (lv_at hl 4 rfl) ?_
            refine lv_iload hx hb dL_spells_37 (lv_at hl 0 rfl) ?_
            refine zc_callVi_ch (As := [.int (iI k_)]) (rest := [.int (iI z33_5)]) (L := [zW tA K ad g33_4, bStr tA qs qa tx]) (Lc := [bStr tA qs qa tx]) (Lr := [zW tA K ad g33_4]) (Lc' := fun (u : Unit) => [bStr tA qs qa tx]) (Lf := fun (u : Unit) => [zW tA K ad g33_4, bStr tA qs qa tx]) (is := [1, 0]) (isF := [0, 1]) ⟨hx, hb, hml, hown, hts⟩ (c_J0_charAt_5068e_S l K D tA qs qa H.size tx k_ (by omega) hchr hsn ⟨by omega, by omega⟩) (cwV 1 hts (goodIn_wid gL_spells_J0_charAt_5068e) rfl rfl rfl (by decide +kernel) ⟨Nat.le_of_ble_eq_true rfl, Nat.le_of_ble_eq_true rfl⟩) hK hP hD hS hA hZ.2.2.2 ⟨rfl, rfl, (by decide)⟩ ⟨fun _ => rfl, fun _ => rfl, (by decide)⟩ (ci := 0) (q0 := 0) rfl rfl rfl rfl rfl hl.1 (Nat.le_of_ble_eq_true rfl) dL_spells_39 (by show _ + 0 ≤ 70 ∧ _ + 0 ≤ 420; omega) ?_
            intro z39_6 u H locs q39 hP hD hS
            refine zz_icmp_ne (tgt := 49) hx hb dL_spells_42 (by decide) (by omega) (by omega) (fun c_42 => ?_) (fun c_42 => ?_)
            · exfalso
              omega
            · refine zz_iconst hx hb dL_spells_45 ?_
              refine lv_goto (tgt := 50) hx hb dL_spells_46 (by decide) ?_
              refine lv_istore_n (lv' := [(3, .int (iI 1)), (4, .int (iI k_)), (0, .ref (ad 0)), (1, .int (iI len)), (2, .ref qs)]) hx hb dL_spells_50 rfl hl (by decide) rfl (fun ls hl => ?_)
              refine zz_iinc (lv' := [(4, .int (iI (k_ + 1))), (3, .int (iI 1)), (0, .ref (ad 0)), (1, .int (iI len)), (2, .ref qs)]) hx hb dL_spells_51 hl (k := 1) rfl (by decide) rfl (fun ls hl => ?_)
              refine lv_goto (tgt := 17) hx hb dL_spells_54 (by decide) ?_
              exact ih17 (k_ + 1) g33_4 _ _ _ _ _ (by exact hr) (by omega) (by exact hag) (by omega) (by omega) hP hD hS (lv_sub hl [0, 1, 2, 3, 4] rfl)
    exact L17 _ 0 g _ _ _ _ _ (by exact hr) (by omega) (by exact hag) (by omega) (Nat.lt_succ_self _) hP hD hS (lv_sub hl [0, 1, 2, 3, 4] rfl)
