/-! ===== p57: the law's drawn ===== -/
theorem SV_0 : SVk 0 0 (fun _ => z0F) := ⟨⟨by decide, by decide, by decide, by decide, fun k k0 k1 => absurd (show k < 0 from k1) (by omega), fun a b a0 a1 b1 => absurd (show b < 0 from b1) (by omega)⟩, fun a b a0 a1 => absurd (show a < 0 from a1) (by omega), fun j j0 j1 => absurd (show j < 0 from j1) (by omega), ⟨by decide, by decide⟩, fun j j0 j1 => absurd (show j < 0 from j1) (by omega), ⟨⟨by decide, by decide⟩, ⟨by decide, by decide⟩, ⟨by decide, by decide⟩⟩, ⟨by decide, by decide⟩, rfl, by decide⟩
def adL (h0 u1 u2 u3 u4 u5 u6 u7 : Nat) (U1 U2 : List Nat) (U3 : List (List Nat)) (U5 U6 U7 : List Nat) : Nat → Nat := fun k => if k = 0 then h0 else if k = 1 then u1 else if k < 24 then U1.getD (k - 2) 0 else if k = 24 then u2 else if k < 27 then U2.getD (k - 25) 0 else if k = 27 then u3 else if k = 28 then u4 else if k < 133 then (U3.getD ((k - 29) / 13) []).getD ((k - 29) % 13) 0 else if k = 133 then u6 else if k < 146 then U6.getD (k - 134) 0 else if k = 146 then u5 else if k < 159 then U5.getD (k - 147) 0 else if k = 159 then u7 else U7.getD (k - 160) 0
theorem st_re7 (q : Nat × va_E) (O S1 H3 SV BF LN : va_W) : [] ++ (q :: (((((O ++ S1) ++ H3) ++ SV) ++ BF) ++ LN)) = [[q], O, S1, H3, SV, BF, LN].flatten := by simp [List.append_assoc]
def g0L : GL := (fun _ => z0F, z0F, z0F, z0F, z0F, z0F, z0F, z0F, 0, 0, 0, z0F, z0F, 0, 0, 0, fun _ _ => z0F, fun _ => z0F, fun _ => z0F, 0, -1, -1, z0F, 0, 0)
theorem OKG_0 : OKG 0 0 g0L := ⟨⟨SV_0, fun j j0 j1 => absurd (show j < 0 from j1) (by omega), fun j j0 j1 => absurd (show j < 0 from j1) (by omega)⟩, ⟨by decide, by decide⟩, ⟨by decide, by decide⟩, ⟨by decide, by decide⟩, fun j j0 j1 => absurd (show j < 0 from j1) (by omega), fun j j0 j1 => ⟨(show (0 : Int) ≤ 0 from by decide), (show (0 : Int) ≤ 9999 from by decide)⟩, ⟨by decide, by decide⟩, ⟨by decide, by decide⟩, fun j j0 j1 => absurd (show j < 0 from j1) (by omega)⟩
theorem wOp_ok {B N : Int} {g g' : GL} {z : Int} (h : wOp B N g g' z) : OKG (B + 600000) (N + 60) g' := by
  rcases h with h | h
  · exact OKG_mono h.2.1 (by omega) (by omega)
  · exact h.2.1
section ZDR
variable {p : Program} {l : Launch} {e : Env} {R : Room} {s : State} {m : MethodId} {args : Array Value} {below : List Frame} {meth : Method} {c : Code} {H : Heap} {locs : List Loc} {cells slots : Nat} {Q : State → Prop}
variable {cc : ByteArray} {pc : Nat} {ls : Array Slot} {rest : List Value}
theorem zq_irem (hx : p.tables.exec = Jvm.exec) (hb : c.code = cc) {x y : Int} (hd : decode cc pc = .ok (.irem, 1)) (h1 : 0 ≤ x ∧ x ≤ 2147483647) (h2 : 0 < y ∧ y ≤ 2147483647)
    (kk : ∀ w : Int, 0 ≤ w ∧ w < y → W p l e R s m args below meth c H locs cells slots Q (F0 m (pc + 1) ls (.int (iI w) :: rest))) : W p l e R s m args below meth c H locs cells slots Q (F0 m pc ls (.int (iI y) :: .int (iI x) :: rest)) :=
  zz_irem hx hb hd h1 h2 (kk (x % y) ⟨Int.emod_nonneg _ (by omega), Int.emod_lt_of_pos _ (by omega)⟩)
end ZDR
theorem ap_k {B N k : Int} {g g' : GL} {z : Int} (h : (z = -1 ∧ RDO B N g g' ∧ GL_v g 0 0 = 10) ∨ (z = GL_v g 0 0 ∧ GL_v g 0 0 < 10 ∧ DID B N g g' ∧ GL_v g' 0 0 = GL_v g 0 0 + 1)) (hk : GL_v g 0 0 = k ∧ k < 10) : z = k ∧ DID B N g g' ∧ GL_v g' 0 0 = k + 1 := by
  rcases h with ⟨-, -, h⟩ | ⟨h1, h2, h3, h4⟩
  · omega
  · exact ⟨by omega, h3, by omega⟩
set_option maxHeartbeats 8000000 in
set_option maxRecDepth 100000 in
theorem q_L_drawn {l : Launch} (hst : l.stackTraces = false) {K : Nat → Nat} {D : va_G} {tA : Nat → ClassId} {sz : Nat} : zHr l yL_drawn (wsL_drawn ++ xL) ({ frames := 9, cells := 600, slots := 3600, locals := 159 }) K D tA [.ref (K 12)] [] sz (fun (u : (Nat → Nat) × GL) => OKG 18000000 1800 u.2) (fun (u : (Nat → Nat) × GL) => u.1 0) (fun (u : (Nat → Nat) × GL) => zW tA K u.1 u.2) 600 3600 := by
  refine zHr_ofC (cc := cL_drawn) (maxL := 8) (by decide) rfl (Or.inl ⟨_, rfl⟩) (Nat.le_of_ble_eq_true rfl) ?_
  intro p e s m args below meth c A Q ls hx hb hml hts hown hK hP hD hA hZ hret hl
  obtain ⟨H, hHe⟩ : ∃ H : Heap, H = s.heap := ⟨_, rfl⟩
  have hS : va_S A s.heap H [] := by rw [hHe]; exact va_S.rf
  rw [← hHe] at hP ⊢
  have hl : lv_has ls 8 [(0, .ref (K 12))] := hl
  refine zn_new (ci := 12) (fs := [.null, .null, .null, .null, .null, .null, .int (iI 0), .int (iI 0), .int (iI 0)]) (C := RX10) (T := TX10) (N := 9) ⟨hx, hb, hml, hown, hts⟩ (by decide +kernel) tyX10 tyX10_ok (hts (.classLink RL 9 RX10) (by decide +kernel)) (hts (.instantiable RX10 9) (by decide +kernel)) (hts (.initialized RX10) (by decide +kernel)) rfl (fun j hj => by rcases (show j = 0 ∨ j = 1 ∨ j = 2 ∨ j = 3 ∨ j = 4 ∨ j = 5 ∨ j = 6 ∨ j = 7 ∨ j = 8 by omega) with rfl | rfl | rfl | rfl | rfl | rfl | rfl | rfl | rfl <;> rfl) (fun q sz => c_X10_init l K D tA q sz) (cwI 0 hts (goodIn_wid gL_drawn_X10_init) rfl rfl rfl (hts (.initialized RX10) (by decide +kernel)) (hts (.methodLink RL 160 yX10_init) (by decide +kernel)) (hts (.instanceMethod yX10_init) (by decide +kernel)) rfl (by decide +kernel) ⟨Nat.le_of_ble_eq_true rfl, Nat.le_of_ble_eq_true rfl⟩) hK hP hD hS hA hZ.2.2.2 hZ.2.2.2.2.2.2 hl.1 dL_drawn_0 dL_drawn_3 dL_drawn_4 ⟨Nat.le_of_ble_eq_true rfl, Nat.le_of_ble_eq_true rfl⟩ (Nat.le_of_ble_eq_true rfl) (fun h0 u H locs hp9 hP hD hS => ?_)
  obtain ⟨⟨u1, U1⟩, ⟨u2, U2⟩, ⟨u3, u4, U3⟩, ⟨u5, U5⟩, ⟨u6, U6⟩, ⟨u7, U7⟩⟩ := u
  obtain ⟨ad, hAD⟩ : ∃ f : Nat → Nat, f = adL h0 u1 u2 u3 u4 u5 u6 u7 U1 U2 U3 U5 U6 U7 := ⟨_, rfl⟩
  rw [st_re7] at hP hD
  have hP : va_P D vwCl ([xObj ad 0 (-1) (-1), xOff tA ad (fun _ => z0F) z0F z0F z0F z0F z0F z0F z0F 0, xScr tA K ad 0 0 z0F z0F 0, xHis tA ad 0 0 (fun _ _ => z0F), xSav tA ad (fun _ => z0F), xBef tA ad (fun _ => z0F), xLin tA ad z0F 0 0].flatten) H := by rw [hAD]; exact hP
  have hD : va_D A ([xObj ad 0 (-1) (-1), xOff tA ad (fun _ => z0F) z0F z0F z0F z0F z0F z0F z0F 0, xScr tA K ad 0 0 z0F z0F 0, xHis tA ad 0 0 (fun _ _ => z0F), xSav tA ad (fun _ => z0F), xBef tA ad (fun _ => z0F), xLin tA ad z0F 0 0].flatten) := by rw [hAD]; exact hD
  have hP := zch_P (L' := [xObj ad 0 (-1) (-1), xOff tA ad (fun _ => z0F) z0F z0F z0F z0F z0F z0F z0F 0, xScr tA K ad 0 0 z0F z0F 0, xHis tA ad 0 0 (fun _ _ => z0F), xBef tA ad (fun _ => z0F), xSav tA ad (fun _ => z0F), xLin tA ad z0F 0 0]) [0, 1, 2, 3, 5, 4, 6] rfl hP
  have hD := zch_D (L' := [xObj ad 0 (-1) (-1), xOff tA ad (fun _ => z0F) z0F z0F z0F z0F z0F z0F z0F 0, xScr tA K ad 0 0 z0F z0F 0, xHis tA ad 0 0 (fun _ _ => z0F), xBef tA ad (fun _ => z0F), xSav tA ad (fun _ => z0F), xLin tA ad z0F 0 0]) [0, 1, 2, 3, 5, 4, 6] (by decide) rfl hD
  obtain ⟨g, hg⟩ : ∃ g : GL, g = g0L := ⟨_, rfl⟩
  have hok : OKG 0 0 g := by rw [hg]; exact OKG_0
  have hP : va_P D vwCl (zW tA K ad g) H := by rw [hg]; exact hP
  have hD : va_D A (zW tA K ad g) := by rw [hg]; exact hD
  have hP := zP_i hP
  have hD := zD_i hD
  rw [show (Value.ref h0) = .ref (ad 0) by rw [hAD]; rfl]
  have hB9 : (0 ≤ (0 : Int) ∧ (0 : Int) ≤ 100000000) ∧ (0 ≤ (0 : Int) ∧ (0 : Int) ≤ 100000) := ⟨⟨by omega, by omega⟩, ⟨by omega, by omega⟩⟩
  have hr := RDO_refl hok
  refine lv_astore_n (lv' := [(1, .ref (ad 0)), (0, .ref (K 12))]) hx hb dL_drawn_7 rfl hl (by decide) rfl (fun ls hl => ?_)
  refine lv_aload_n hx hb dL_drawn_8 rfl (lv_at hl 1 rfl) ?_
  refine zz_iconst hx hb dL_drawn_9 ?_
  refine zt_callSi (As := [.ref (K 12), .int (iI 0)]) (rest := []) (L := [zW tA K ad g]) (Lc := [zW tA K ad g]) (Lr := []) (Lc' := fun (u : GL) => [zW tA K ad u]) (Lf := fun (u : GL) => [zW tA K ad u]) (is := [0]) (isF := [0]) ⟨hx, hb, hml, hown, hts⟩ (q_L_cell hst hB9 hr.1 0 (by decide) ⟨by omega, by omega⟩) (va_cwS 2 hts (gx_ww gL_drawn_L_cell) rfl rfl rfl (by decide +kernel) ⟨Nat.le_of_ble_eq_true rfl, Nat.le_of_ble_eq_true rfl⟩) hK hP hD hS hA hZ (zCut_1 _) (zBack_1 _) rfl rfl hl.1 (Nat.le_of_ble_eq_true rfl) dL_drawn_10 (by show _ + 0 ≤ 600 ∧ _ + 0 ≤ 3600; omega) ?_
  intro z10_1 g10_0 H locs hp9 hP hD hS
  have q10 := hp9.2
  try rw [hr.2.1] at q10
  have hr := RDO_trans hr hp9.1
  clear hp9
  refine zz_iconst hx hb dL_drawn_13 ?_
  refine zq_iushr (x := z10_1) (y := 1) hx hb dL_drawn_14 (by decide) (by decide +kernel) (fun w14_3 hw14_3 => ?_)
  refine lv_istore_n (lv' := [(2, .int (iI w14_3)), (1, .ref (ad 0)), (0, .ref (K 12))]) hx hb dL_drawn_15 rfl hl (by decide) rfl (fun ls hl => ?_)
  refine zz_iconst hx hb dL_drawn_16 ?_
  refine lv_iload_n hx hb dL_drawn_17 rfl (lv_at hl 0 rfl) ?_
  refine zz_bipush hx hb dL_drawn_18 (by decide) ?_
  refine zq_irem hx hb dL_drawn_20 (by omega) (by decide) (fun r20_3 hr20_3 => ?_)
  refine zz_iadd hx hb dL_drawn_21 ?_
  refine lv_istore_n (lv' := [(3, .int (iI (2 + r20_3))), (2, .int (iI w14_3)), (1, .ref (ad 0)), (0, .ref (K 12))]) hx hb dL_drawn_22 rfl hl (by decide) rfl (fun ls hl => ?_)
  refine zz_iconst hx hb dL_drawn_23 ?_
  refine lv_istore (lv' := [(4, .int (iI 0)), (3, .int (iI (2 + r20_3))), (2, .int (iI w14_3)), (1, .ref (ad 0)), (0, .ref (K 12))]) hx hb dL_drawn_24 hl (by decide) rfl (fun ls hl => ?_)
  have L26 : ∀ (f9 : Nat) (k_ : Int) (g26 : GL) (k9 : Nat) (n9 : Nat) (H : Heap) (locs : List Loc) (ls : Array Slot), (0 ≤ k_ ∧ k_ ≤ (2 + r20_3)) → (OKG (600000 * (0 + k_)) (60 * (0 + k_)) g26) → (GL_v g26 0 0 = k_) → (((k9 : Nat) : Int) ≤ 400 + 2 * k_ ∧ ((n9 : Nat) : Int) ≤ 6 * (400 + 2 * k_)) → ((2 + r20_3) - k_).toNat < f9 → va_P D vwCl [zW tA K ad g26].flatten H → va_D A [zW tA K ad g26].flatten → va_S A s.heap H locs → lv_has ls 8 [(4, .int (iI k_)), (3, .int (iI (2 + r20_3))), (2, .int (iI w14_3)), (1, .ref (ad 0)), (0, .ref (K 12))] → W p l e (headSpec (wsL_drawn ++ xL) ({ frames := 9, cells := 600, slots := 3600, locals := 159 })).room s m args below meth c H locs k9 n9 Q (F0 m 26 ls []) := by
    intro f9
    induction f9 with
    | zero => intro k_ g26 k9 n9 H locs ls hk hok1 hv1 hk9 hmz; exact absurd hmz (Nat.not_lt_zero _)
    | succ f9 ih26 =>
      intro k_ g26 k9 n9 H locs ls hk hok1 hv1 hk9 hmz hP hD hS hl
      have hB9 : (0 ≤ (600000 * (0 + k_)) ∧ (600000 * (0 + k_)) ≤ 100000000) ∧ (0 ≤ (60 * (0 + k_)) ∧ (60 * (0 + k_)) ≤ 100000) := ⟨⟨by omega, by omega⟩, ⟨by omega, by omega⟩⟩
      have hr := RDO_refl hok1
      have hch0 := hok1.1.1.1
      refine lv_iload hx hb dL_drawn_26 (lv_at hl 0 rfl) ?_
      refine lv_iload_n hx hb dL_drawn_28 rfl (lv_at hl 1 rfl) ?_
      refine zz_icmp_ge (tgt := 49) hx hb dL_drawn_29 (by decide) (by omega) (by omega) (fun c_29 => ?_) (fun c_29 => ?_)
      · refine zz_iconst hx hb dL_drawn_49 ?_
        refine lv_istore (lv' := [(4, .int (iI 0)), (3, .int (iI (2 + r20_3))), (2, .int (iI w14_3)), (1, .ref (ad 0)), (0, .ref (K 12))]) hx hb dL_drawn_50 hl (by decide) rfl (fun ls hl => ?_)
        have L52 : ∀ (f9 : Nat) (k_ : Int) (g52 : GL) (k9 : Nat) (n9 : Nat) (H : Heap) (locs : List Loc) (ls : Array Slot), (0 ≤ k_ ∧ k_ ≤ 10) → (OKG (600000 * (8 + k_)) (60 * (8 + k_)) g52) → (GL_v g52 0 0 = (2 + r20_3)) → (((k9 : Nat) : Int) ≤ 430 + 2 * k_ ∧ ((n9 : Nat) : Int) ≤ 6 * (430 + 2 * k_)) → (10 - k_).toNat < f9 → va_P D vwCl [zW tA K ad g52].flatten H → va_D A [zW tA K ad g52].flatten → va_S A s.heap H locs → lv_has ls 8 [(4, .int (iI k_)), (3, .int (iI (2 + r20_3))), (2, .int (iI w14_3)), (1, .ref (ad 0)), (0, .ref (K 12))] → W p l e (headSpec (wsL_drawn ++ xL) ({ frames := 9, cells := 600, slots := 3600, locals := 159 })).room s m args below meth c H locs k9 n9 Q (F0 m 52 ls []) := by
          intro f9
          induction f9 with
          | zero => intro k_ g52 k9 n9 H locs ls hk hok2 hv2 hk9 hmz; exact absurd hmz (Nat.not_lt_zero _)
          | succ f9 ih52 =>
            intro k_ g52 k9 n9 H locs ls hk hok2 hv2 hk9 hmz hP hD hS hl
            have hB9 : (0 ≤ (600000 * (8 + k_)) ∧ (600000 * (8 + k_)) ≤ 100000000) ∧ (0 ≤ (60 * (8 + k_)) ∧ (60 * (8 + k_)) ≤ 100000) := ⟨⟨by omega, by omega⟩, ⟨by omega, by omega⟩⟩
            have hr := RDO_refl hok2
            have hch0 := hok2.1.1.1
            refine lv_iload hx hb dL_drawn_52 (lv_at hl 0 rfl) ?_
            refine zz_iconst hx hb dL_drawn_54 ?_
            refine lv_iload_n hx hb dL_drawn_55 rfl (lv_at hl 2 rfl) ?_
            refine zz_iconst hx hb dL_drawn_56 ?_
            refine zq_iushr (x := w14_3) (y := 3) hx hb dL_drawn_57 (by decide) (by decide +kernel) (fun w57_5 hw57_5 => ?_)
            refine zz_bipush hx hb dL_drawn_58 (by decide) ?_
            refine zq_irem hx hb dL_drawn_60 (by omega) (by decide) (fun r60_5 hr60_5 => ?_)
            refine zz_iadd hx hb dL_drawn_61 ?_
            refine zz_icmp_ge (tgt := 144) hx hb dL_drawn_62 (by decide) (by omega) (by omega) (fun c_62 => ?_) (fun c_62 => ?_)
            · refine zz_iconst hx hb dL_drawn_144 ?_
              refine lv_istore (lv' := [(4, .int (iI 0)), (3, .int (iI (2 + r20_3))), (2, .int (iI w14_3)), (1, .ref (ad 0)), (0, .ref (K 12))]) hx hb dL_drawn_145 hl (by decide) rfl (fun ls hl => ?_)
              have L147 : ∀ (f9 : Nat) (k_ : Int) (g147 : GL) (k9 : Nat) (n9 : Nat) (H : Heap) (locs : List Loc) (ls : Array Slot), (0 ≤ k_ ∧ k_ ≤ 7) → (OKG (600000 * (18 + k_)) (60 * (18 + k_)) g147) → (GL_v g147 0 0 = (2 + r20_3)) → (((k9 : Nat) : Int) ≤ 460 + 2 * k_ ∧ ((n9 : Nat) : Int) ≤ 6 * (460 + 2 * k_)) → (7 - k_).toNat < f9 → va_P D vwCl [zW tA K ad g147].flatten H → va_D A [zW tA K ad g147].flatten → va_S A s.heap H locs → lv_has ls 8 [(4, .int (iI k_)), (3, .int (iI (2 + r20_3))), (2, .int (iI w14_3)), (1, .ref (ad 0)), (0, .ref (K 12))] → W p l e (headSpec (wsL_drawn ++ xL) ({ frames := 9, cells := 600, slots := 3600, locals := 159 })).room s m args below meth c H locs k9 n9 Q (F0 m 147 ls []) := by
                intro f9
                induction f9 with
                | zero => intro k_ g147 k9 n9 H locs ls hk hok3 hv3 hk9 hmz; exact absurd hmz (Nat.not_lt_zero _)
                | succ f9 ih147 =>
                  intro k_ g147 k9 n9 H locs ls hk hok3 hv3 hk9 hmz hP hD hS hl
                  have hB9 : (0 ≤ (600000 * (18 + k_)) ∧ (600000 * (18 + k_)) ≤ 100000000) ∧ (0 ≤ (60 * (18 + k_)) ∧ (60 * (18 + k_)) ≤ 100000) := ⟨⟨by omega, by omega⟩, ⟨by omega, by omega⟩⟩
                  have hr := RDO_refl hok3
                  have hch0 := hok3.1.1.1
                  refine lv_iload hx hb dL_drawn_147 (lv_at hl 0 rfl) ?_
                  refine zz_bipush hx hb dL_drawn_149 (by decide) ?_
                  refine zz_icmp_ge (tgt := 214) hx hb dL_drawn_151 (by decide) (by omega) (by decide) (fun c_151 => ?_) (fun c_151 => ?_)
                  · refine zz_iconst hx hb dL_drawn_214 ?_
                    refine lv_istore (lv' := [(4, .int (iI 0)), (3, .int (iI (2 + r20_3))), (2, .int (iI w14_3)), (1, .ref (ad 0)), (0, .ref (K 12))]) hx hb dL_drawn_215 hl (by decide) rfl (fun ls hl => ?_)
                    have L217 : ∀ (f9 : Nat) (k_ : Int) (g217 : GL) (k9 : Nat) (n9 : Nat) (H : Heap) (locs : List Loc) (ls : Array Slot), (0 ≤ k_ ∧ k_ ≤ 5) → (OKG (600000 * (25 + k_)) (60 * (25 + k_)) g217) → (GL_v g217 0 0 = (2 + r20_3)) → (((k9 : Nat) : Int) ≤ 480 + 2 * k_ ∧ ((n9 : Nat) : Int) ≤ 6 * (480 + 2 * k_)) → (5 - k_).toNat < f9 → va_P D vwCl [zW tA K ad g217].flatten H → va_D A [zW tA K ad g217].flatten → va_S A s.heap H locs → lv_has ls 8 [(4, .int (iI k_)), (3, .int (iI (2 + r20_3))), (2, .int (iI w14_3)), (1, .ref (ad 0)), (0, .ref (K 12))] → W p l e (headSpec (wsL_drawn ++ xL) ({ frames := 9, cells := 600, slots := 3600, locals := 159 })).room s m args below meth c H locs k9 n9 Q (F0 m 217 ls []) := by
                      intro f9
                      induction f9 with
                      | zero => intro k_ g217 k9 n9 H locs ls hk hok4 hv4 hk9 hmz; exact absurd hmz (Nat.not_lt_zero _)
                      | succ f9 ih217 =>
                        intro k_ g217 k9 n9 H locs ls hk hok4 hv4 hk9 hmz hP hD hS hl
                        have hB9 : (0 ≤ (600000 * (25 + k_)) ∧ (600000 * (25 + k_)) ≤ 100000000) ∧ (0 ≤ (60 * (25 + k_)) ∧ (60 * (25 + k_)) ≤ 100000) := ⟨⟨by omega, by omega⟩, ⟨by omega, by omega⟩⟩
                        have hr := RDO_refl hok4
                        have hch0 := hok4.1.1.1
                        refine lv_iload hx hb dL_drawn_217 (lv_at hl 0 rfl) ?_
                        refine zz_iconst hx hb dL_drawn_219 ?_
                        refine zz_icmp_ge (tgt := 382) hx hb dL_drawn_220 (by decide) (by omega) (by decide) (fun c_220 => ?_) (fun c_220 => ?_)
                        · refine lv_aload_n hx hb dL_drawn_382 rfl (lv_at hl 3 rfl) ?_
                          exact hret (ad, g217) H locs _ _ _ _ (by omega) (by omega) dL_drawn_383 (OKG_mono hok4 (by omega) (by omega)) (zP_o hP) (zD_o hD) hS
                        · refine lv_aload_n hx hb dL_drawn_223 rfl (lv_at hl 4 rfl) ?_
                          refine zz_bipush hx hb dL_drawn_224 (by decide) ?_
                          refine lv_iload hx hb dL_drawn_226 (lv_at hl 0 rfl) ?_
                          refine zz_iadd hx hb dL_drawn_228 ?_
                          refine zt_callSi (As := [.ref (K 12), .int (iI (19 + k_))]) (rest := []) (L := [zW tA K ad g217]) (Lc := [zW tA K ad g217]) (Lr := []) (Lc' := fun (u : GL) => [zW tA K ad u]) (Lf := fun (u : GL) => [zW tA K ad u]) (is := [0]) (isF := [0]) ⟨hx, hb, hml, hown, hts⟩ (q_L_cell hst hB9 hr.1 (19 + k_) (by omega) ⟨by omega, by omega⟩) (va_cwS 2 hts (gx_ww gL_drawn_L_cell) rfl rfl rfl (by decide +kernel) ⟨Nat.le_of_ble_eq_true rfl, Nat.le_of_ble_eq_true rfl⟩) hK hP hD hS hA hZ (zCut_1 _) (zBack_1 _) rfl rfl hl.1 (Nat.le_of_ble_eq_true rfl) dL_drawn_229 (by show _ + 0 ≤ 600 ∧ _ + 0 ≤ 3600; omega) ?_
                          intro z229_7 g229_6 H locs hp9 hP hD hS
                          have q229 := hp9.2
                          try rw [hr.2.1] at q229
                          have hr := RDO_trans hr hp9.1
                          clear hp9
                          refine zz_iconst hx hb dL_drawn_232 ?_
                          refine zq_iushr (x := z229_7) (y := 1) hx hb dL_drawn_233 (by decide) (by decide +kernel) (fun w233_9 hw233_9 => ?_)
                          refine lv_istore (lv' := [(5, .int (iI w233_9)), (4, .int (iI k_)), (3, .int (iI (2 + r20_3))), (2, .int (iI w14_3)), (1, .ref (ad 0)), (0, .ref (K 12))]) hx hb dL_drawn_234 hl (by decide) rfl (fun ls hl => ?_)
                          refine lv_aload_n hx hb dL_drawn_236 rfl (lv_at hl 4 rfl) ?_
                          refine zt_callVi (As := []) (rest := []) (L := [zW tA K ad g229_6]) (Lc := [zW tA K ad g229_6]) (Lr := []) (Lc' := fun (u : GL) => [zW tA K ad u]) (Lf := fun (u : GL) => [zW tA K ad u]) (is := [0]) (isF := [0]) ⟨hx, hb, hml, hown, hts⟩ (q_X10_subscriberCount hst hB9 hr.1  ) (cwV 0 hts (goodIn_wid gL_drawn_X10_subscriberCount) rfl rfl rfl (by decide +kernel) ⟨Nat.le_of_ble_eq_true rfl, Nat.le_of_ble_eq_true rfl⟩) hK hP hD hS hA hZ (zCut_1 _) (zBack_1 _) (ci := 12) (q0 := 0) rfl rfl (zW_0 tA K ad g229_6) rfl rfl hl.1 (Nat.le_of_ble_eq_true rfl) dL_drawn_237 (by show _ + 0 ≤ 600 ∧ _ + 0 ≤ 3600; omega) ?_
                          intro z237_10 g237_9 H locs hp9 hP hD hS
                          have q237 := hp9.2
                          try rw [hr.2.1] at q237
                          have hr := RDO_trans hr hp9.1
                          clear hp9
                          have hcn9 := hok4.1.1.2.2.2.1
                          refine lv_istore (lv' := [(6, .int (iI z237_10)), (5, .int (iI w233_9)), (4, .int (iI k_)), (3, .int (iI (2 + r20_3))), (2, .int (iI w14_3)), (1, .ref (ad 0)), (0, .ref (K 12))]) hx hb dL_drawn_240 hl (by decide) rfl (fun ls hl => ?_)
                          refine lv_iload hx hb dL_drawn_242 (lv_at hl 1 rfl) ?_
                          refine zz_bipush hx hb dL_drawn_244 (by decide) ?_
                          refine zq_irem hx hb dL_drawn_246 (by omega) (by decide) (fun r246_11 hr246_11 => ?_)
                          refine zz_iconst hx hb dL_drawn_247 ?_
                          refine zz_icmp_ge (tgt := 258) hx hb dL_drawn_248 (by decide) (by omega) (by decide) (fun c_248 => ?_) (fun c_248 => ?_)
                          · refine lv_iload hx hb dL_drawn_258 (lv_at hl 1 rfl) ?_
                            refine zz_bipush hx hb dL_drawn_260 (by decide) ?_
                            refine zq_irem hx hb dL_drawn_262 (by omega) (by decide) (fun r262_12 hr262_12 => ?_)
                            refine zz_iconst hx hb dL_drawn_263 ?_
                            refine zz_icmp_ne (tgt := 280) hx hb dL_drawn_264 (by decide) (by omega) (by decide) (fun c_264 => ?_) (fun c_264 => ?_)
                            · refine lv_iload hx hb dL_drawn_280 (lv_at hl 1 rfl) ?_
                              refine zz_bipush hx hb dL_drawn_282 (by decide) ?_
                              refine zq_irem hx hb dL_drawn_284 (by omega) (by decide) (fun r284_13 hr284_13 => ?_)
                              refine zz_iconst hx hb dL_drawn_285 ?_
                              refine zz_icmp_ne (tgt := 319) hx hb dL_drawn_286 (by decide) (by omega) (by decide) (fun c_286 => ?_) (fun c_286 => ?_)
                              · refine lv_iload hx hb dL_drawn_319 (lv_at hl 1 rfl) ?_
                                refine zz_bipush hx hb dL_drawn_321 (by decide) ?_
                                refine zq_irem hx hb dL_drawn_323 (by omega) (by decide) (fun r323_14 hr323_14 => ?_)
                                refine zz_bipush hx hb dL_drawn_324 (by decide) ?_
                                refine zz_icmp_ne (tgt := 349) hx hb dL_drawn_326 (by decide) (by omega) (by decide) (fun c_326 => ?_) (fun c_326 => ?_)
                                · refine lv_aload_n hx hb dL_drawn_349 rfl (lv_at hl 5 rfl) ?_
                                  refine lv_iload hx hb dL_drawn_350 (lv_at hl 1 rfl) ?_
                                  refine zz_iconst hx hb dL_drawn_352 ?_
                                  refine zq_iushr (x := w233_9) (y := 4) hx hb dL_drawn_353 (by decide) (by decide +kernel) (fun w353_16 hw353_16 => ?_)
                                  refine lv_iload_n hx hb dL_drawn_354 rfl (lv_at hl 3 rfl) ?_
                                  refine zq_irem hx hb dL_drawn_355 (by omega) (by omega) (fun r355_16 hr355_16 => ?_)
                                  refine lv_iload hx hb dL_drawn_356 (lv_at hl 1 rfl) ?_
                                  refine zz_bipush hx hb dL_drawn_358 (by decide) ?_
                                  refine zq_iushr (x := w233_9) (y := 8) hx hb dL_drawn_360 (by decide) (by decide +kernel) (fun w360_18 hw360_18 => ?_)
                                  refine lv_iload_n hx hb dL_drawn_361 rfl (lv_at hl 3 rfl) ?_
                                  refine zq_irem hx hb dL_drawn_362 (by omega) (by omega) (fun r362_18 hr362_18 => ?_)
                                  refine zh_callSi_ch (As := [.ref (ad 0), .int (iI r355_16), .int (iI r362_18)]) (rest := []) (L := [zW tA K ad g237_9]) (Lc := [zW tA K ad g237_9]) (Lr := []) (Lc' := fun (u : GL) => [zW tA K ad u]) (Lf := fun (u : GL) => [zW tA K ad u]) (is := [0]) (isF := [0]) ⟨hx, hb, hml, hown, hts⟩ (q_L_removeLegb hst hB9 hr.1 r355_16 r362_18 (by omega) (by omega)) (vx_cwSW 3 hts (gx_ww gL_drawn_L_removeLeg) rfl rfl rfl (by decide +kernel) ⟨Nat.le_of_ble_eq_true rfl, Nat.le_of_ble_eq_true rfl⟩) hK hP hD hS hA hZ (zCut_1 _) (zBack_1 _) rfl rfl hl.1 (Nat.le_of_ble_eq_true rfl) dL_drawn_363 (by show _ + 1 ≤ 600 ∧ _ + 6 ≤ 3600; omega) ?_
                                  intro z363_20 g363_19 H locs hp9 hP hD hS
                                  refine lv_istore (lv' := [(7, .int (iI z363_20)), (6, .int (iI z237_10)), (5, .int (iI w233_9)), (4, .int (iI k_)), (3, .int (iI (2 + r20_3))), (2, .int (iI w14_3)), (1, .ref (ad 0)), (0, .ref (K 12))]) hx hb dL_drawn_366 hl (by decide) rfl (fun ls hl => ?_)
                                  refine lv_iload hx hb dL_drawn_368 (lv_at hl 0 rfl) ?_
                                  refine zz_iconst hx hb dL_drawn_370 ?_
                                  refine zz_icmp_ne (tgt := 376) hx hb dL_drawn_371 (by decide) (by omega) (by decide) (fun c_371 => ?_) (fun c_371 => ?_)
                                  · refine zz_iinc (lv' := [(4, .int (iI (k_ + 1))), (7, .int (iI z363_20)), (6, .int (iI z237_10)), (5, .int (iI w233_9)), (3, .int (iI (2 + r20_3))), (2, .int (iI w14_3)), (1, .ref (ad 0)), (0, .ref (K 12))]) hx hb dL_drawn_376 hl (k := 3) rfl (by decide) rfl (fun ls hl => ?_)
                                    refine lv_goto (tgt := 217) hx hb dL_drawn_379 (by decide) ?_
                                    exact ih217 (k_ + 1) g363_19 _ _ _ _ _ (by omega) (by exact OKG_mono (wOp_ok hp9.1) (by omega) (by omega)) (by rw [hp9.2.1, hr.2.1]; exact hv4) (by omega) (by omega) hP hD hS (lv_sub hl [0, 4, 5, 6, 7] rfl)
                                  · exfalso
                                    exact hp9.2.2.2 (by omega) (by rw [hr.2.1, hv4]; exact ⟨by omega, by omega, by omega, by omega⟩)
                                · refine lv_iload hx hb dL_drawn_329 (lv_at hl 0 rfl) ?_
                                  refine zz_iconst hx hb dL_drawn_331 ?_
                                  refine zz_icmp_le (tgt := 349) hx hb dL_drawn_332 (by decide) (by omega) (by decide) (fun c_332 => ?_) (fun c_332 => ?_)
                                  · refine lv_aload_n hx hb dL_drawn_349 rfl (lv_at hl 5 rfl) ?_
                                    refine lv_iload hx hb dL_drawn_350 (lv_at hl 1 rfl) ?_
                                    refine zz_iconst hx hb dL_drawn_352 ?_
                                    refine zq_iushr (x := w233_9) (y := 4) hx hb dL_drawn_353 (by decide) (by decide +kernel) (fun w353_22 hw353_22 => ?_)
                                    refine lv_iload_n hx hb dL_drawn_354 rfl (lv_at hl 3 rfl) ?_
                                    refine zq_irem hx hb dL_drawn_355 (by omega) (by omega) (fun r355_22 hr355_22 => ?_)
                                    refine lv_iload hx hb dL_drawn_356 (lv_at hl 1 rfl) ?_
                                    refine zz_bipush hx hb dL_drawn_358 (by decide) ?_
                                    refine zq_iushr (x := w233_9) (y := 8) hx hb dL_drawn_360 (by decide) (by decide +kernel) (fun w360_24 hw360_24 => ?_)
                                    refine lv_iload_n hx hb dL_drawn_361 rfl (lv_at hl 3 rfl) ?_
                                    refine zq_irem hx hb dL_drawn_362 (by omega) (by omega) (fun r362_24 hr362_24 => ?_)
                                    refine zh_callSi_ch (As := [.ref (ad 0), .int (iI r355_22), .int (iI r362_24)]) (rest := []) (L := [zW tA K ad g237_9]) (Lc := [zW tA K ad g237_9]) (Lr := []) (Lc' := fun (u : GL) => [zW tA K ad u]) (Lf := fun (u : GL) => [zW tA K ad u]) (is := [0]) (isF := [0]) ⟨hx, hb, hml, hown, hts⟩ (q_L_removeLegb hst hB9 hr.1 r355_22 r362_24 (by omega) (by omega)) (vx_cwSW 3 hts (gx_ww gL_drawn_L_removeLeg) rfl rfl rfl (by decide +kernel) ⟨Nat.le_of_ble_eq_true rfl, Nat.le_of_ble_eq_true rfl⟩) hK hP hD hS hA hZ (zCut_1 _) (zBack_1 _) rfl rfl hl.1 (Nat.le_of_ble_eq_true rfl) dL_drawn_363 (by show _ + 1 ≤ 600 ∧ _ + 6 ≤ 3600; omega) ?_
                                    intro z363_26 g363_25 H locs hp9 hP hD hS
                                    refine lv_istore (lv' := [(7, .int (iI z363_26)), (6, .int (iI z237_10)), (5, .int (iI w233_9)), (4, .int (iI k_)), (3, .int (iI (2 + r20_3))), (2, .int (iI w14_3)), (1, .ref (ad 0)), (0, .ref (K 12))]) hx hb dL_drawn_366 hl (by decide) rfl (fun ls hl => ?_)
                                    refine lv_iload hx hb dL_drawn_368 (lv_at hl 0 rfl) ?_
                                    refine zz_iconst hx hb dL_drawn_370 ?_
                                    refine zz_icmp_ne (tgt := 376) hx hb dL_drawn_371 (by decide) (by omega) (by decide) (fun c_371 => ?_) (fun c_371 => ?_)
                                    · refine zz_iinc (lv' := [(4, .int (iI (k_ + 1))), (7, .int (iI z363_26)), (6, .int (iI z237_10)), (5, .int (iI w233_9)), (3, .int (iI (2 + r20_3))), (2, .int (iI w14_3)), (1, .ref (ad 0)), (0, .ref (K 12))]) hx hb dL_drawn_376 hl (k := 3) rfl (by decide) rfl (fun ls hl => ?_)
                                      refine lv_goto (tgt := 217) hx hb dL_drawn_379 (by decide) ?_
                                      exact ih217 (k_ + 1) g363_25 _ _ _ _ _ (by omega) (by exact OKG_mono (wOp_ok hp9.1) (by omega) (by omega)) (by rw [hp9.2.1, hr.2.1]; exact hv4) (by omega) (by omega) hP hD hS (lv_sub hl [0, 4, 5, 6, 7] rfl)
                                    · exfalso
                                      exact hp9.2.2.2 (by omega) (by rw [hr.2.1, hv4]; exact ⟨by omega, by omega, by omega, by omega⟩)
                                  · refine lv_aload_n hx hb dL_drawn_335 rfl (lv_at hl 5 rfl) ?_
                                    refine lv_iload hx hb dL_drawn_336 (lv_at hl 1 rfl) ?_
                                    refine zz_iconst hx hb dL_drawn_338 ?_
                                    refine zq_iushr (x := w233_9) (y := 4) hx hb dL_drawn_339 (by decide) (by decide +kernel) (fun w339_28 hw339_28 => ?_)
                                    refine lv_iload hx hb dL_drawn_340 (lv_at hl 0 rfl) ?_
                                    refine zq_irem hx hb dL_drawn_342 (by omega) (by omega) (fun r342_28 hr342_28 => ?_)
                                    refine zh_callSi_ch (As := [.ref (ad 0), .int (iI r342_28)]) (rest := []) (L := [zW tA K ad g237_9]) (Lc := [zW tA K ad g237_9]) (Lr := []) (Lc' := fun (u : GL) => [zW tA K ad u]) (Lf := fun (u : GL) => [zW tA K ad u]) (is := [0]) (isF := [0]) ⟨hx, hb, hml, hown, hts⟩ (q_L_leavesb hst hB9 hr.1 r342_28 (by omega)) (vx_cwSW 2 hts (gx_ww gL_drawn_L_leaves) rfl rfl rfl (by decide +kernel) ⟨Nat.le_of_ble_eq_true rfl, Nat.le_of_ble_eq_true rfl⟩) hK hP hD hS hA hZ (zCut_1 _) (zBack_1 _) rfl rfl hl.1 (Nat.le_of_ble_eq_true rfl) dL_drawn_343 (by show _ + 1 ≤ 600 ∧ _ + 6 ≤ 3600; omega) ?_
                                    intro z343_30 g343_29 H locs hp9 hP hD hS
                                    refine lv_goto (tgt := 366) hx hb dL_drawn_346 (by decide) ?_
                                    refine lv_istore (lv' := [(7, .int (iI z343_30)), (6, .int (iI z237_10)), (5, .int (iI w233_9)), (4, .int (iI k_)), (3, .int (iI (2 + r20_3))), (2, .int (iI w14_3)), (1, .ref (ad 0)), (0, .ref (K 12))]) hx hb dL_drawn_366 hl (by decide) rfl (fun ls hl => ?_)
                                    refine lv_iload hx hb dL_drawn_368 (lv_at hl 0 rfl) ?_
                                    refine zz_iconst hx hb dL_drawn_370 ?_
                                    refine zz_icmp_ne (tgt := 376) hx hb dL_drawn_371 (by decide) (by omega) (by decide) (fun c_371 => ?_) (fun c_371 => ?_)
                                    · refine zz_iinc (lv' := [(4, .int (iI (k_ + 1))), (7, .int (iI z343_30)), (6, .int (iI z237_10)), (5, .int (iI w233_9)), (3, .int (iI (2 + r20_3))), (2, .int (iI w14_3)), (1, .ref (ad 0)), (0, .ref (K 12))]) hx hb dL_drawn_376 hl (k := 3) rfl (by decide) rfl (fun ls hl => ?_)
                                      refine lv_goto (tgt := 217) hx hb dL_drawn_379 (by decide) ?_
                                      exact ih217 (k_ + 1) g343_29 _ _ _ _ _ (by omega) (by exact OKG_mono (wOp_ok hp9.1) (by omega) (by omega)) (by rw [hp9.2.1, hr.2.1]; exact hv4) (by omega) (by omega) hP hD hS (lv_sub hl [0, 4, 5, 6, 7] rfl)
                                    · exfalso
                                      exact hp9.2.2.2 (by omega) (by rw [hr.2.1]; exact ⟨by omega, by omega⟩)
                              · refine lv_iload hx hb dL_drawn_289 (lv_at hl 0 rfl) ?_
                                refine zz_if_le (tgt := 319) hx hb dL_drawn_291 (by decide) (by omega) (fun c_291 => ?_) (fun c_291 => ?_)
                                · refine lv_iload hx hb dL_drawn_319 (lv_at hl 1 rfl) ?_
                                  refine zz_bipush hx hb dL_drawn_321 (by decide) ?_
                                  refine zq_irem hx hb dL_drawn_323 (by omega) (by decide) (fun r323_31 hr323_31 => ?_)
                                  refine zz_bipush hx hb dL_drawn_324 (by decide) ?_
                                  refine zz_icmp_ne (tgt := 349) hx hb dL_drawn_326 (by decide) (by omega) (by decide) (fun c_326 => ?_) (fun c_326 => ?_)
                                  · refine lv_aload_n hx hb dL_drawn_349 rfl (lv_at hl 5 rfl) ?_
                                    refine lv_iload hx hb dL_drawn_350 (lv_at hl 1 rfl) ?_
                                    refine zz_iconst hx hb dL_drawn_352 ?_
                                    refine zq_iushr (x := w233_9) (y := 4) hx hb dL_drawn_353 (by decide) (by decide +kernel) (fun w353_33 hw353_33 => ?_)
                                    refine lv_iload_n hx hb dL_drawn_354 rfl (lv_at hl 3 rfl) ?_
                                    refine zq_irem hx hb dL_drawn_355 (by omega) (by omega) (fun r355_33 hr355_33 => ?_)
                                    refine lv_iload hx hb dL_drawn_356 (lv_at hl 1 rfl) ?_
                                    refine zz_bipush hx hb dL_drawn_358 (by decide) ?_
                                    refine zq_iushr (x := w233_9) (y := 8) hx hb dL_drawn_360 (by decide) (by decide +kernel) (fun w360_35 hw360_35 => ?_)
                                    refine lv_iload_n hx hb dL_drawn_361 rfl (lv_at hl 3 rfl) ?_
                                    refine zq_irem hx hb dL_drawn_362 (by omega) (by omega) (fun r362_35 hr362_35 => ?_)
                                    refine zh_callSi_ch (As := [.ref (ad 0), .int (iI r355_33), .int (iI r362_35)]) (rest := []) (L := [zW tA K ad g237_9]) (Lc := [zW tA K ad g237_9]) (Lr := []) (Lc' := fun (u : GL) => [zW tA K ad u]) (Lf := fun (u : GL) => [zW tA K ad u]) (is := [0]) (isF := [0]) ⟨hx, hb, hml, hown, hts⟩ (q_L_removeLegb hst hB9 hr.1 r355_33 r362_35 (by omega) (by omega)) (vx_cwSW 3 hts (gx_ww gL_drawn_L_removeLeg) rfl rfl rfl (by decide +kernel) ⟨Nat.le_of_ble_eq_true rfl, Nat.le_of_ble_eq_true rfl⟩) hK hP hD hS hA hZ (zCut_1 _) (zBack_1 _) rfl rfl hl.1 (Nat.le_of_ble_eq_true rfl) dL_drawn_363 (by show _ + 1 ≤ 600 ∧ _ + 6 ≤ 3600; omega) ?_
                                    intro z363_37 g363_36 H locs hp9 hP hD hS
                                    refine lv_istore (lv' := [(7, .int (iI z363_37)), (6, .int (iI z237_10)), (5, .int (iI w233_9)), (4, .int (iI k_)), (3, .int (iI (2 + r20_3))), (2, .int (iI w14_3)), (1, .ref (ad 0)), (0, .ref (K 12))]) hx hb dL_drawn_366 hl (by decide) rfl (fun ls hl => ?_)
                                    refine lv_iload hx hb dL_drawn_368 (lv_at hl 0 rfl) ?_
                                    refine zz_iconst hx hb dL_drawn_370 ?_
                                    refine zz_icmp_ne (tgt := 376) hx hb dL_drawn_371 (by decide) (by omega) (by decide) (fun c_371 => ?_) (fun c_371 => ?_)
                                    · refine zz_iinc (lv' := [(4, .int (iI (k_ + 1))), (7, .int (iI z363_37)), (6, .int (iI z237_10)), (5, .int (iI w233_9)), (3, .int (iI (2 + r20_3))), (2, .int (iI w14_3)), (1, .ref (ad 0)), (0, .ref (K 12))]) hx hb dL_drawn_376 hl (k := 3) rfl (by decide) rfl (fun ls hl => ?_)
                                      refine lv_goto (tgt := 217) hx hb dL_drawn_379 (by decide) ?_
                                      exact ih217 (k_ + 1) g363_36 _ _ _ _ _ (by omega) (by exact OKG_mono (wOp_ok hp9.1) (by omega) (by omega)) (by rw [hp9.2.1, hr.2.1]; exact hv4) (by omega) (by omega) hP hD hS (lv_sub hl [0, 4, 5, 6, 7] rfl)
                                    · exfalso
                                      exact hp9.2.2.2 (by omega) (by rw [hr.2.1, hv4]; exact ⟨by omega, by omega, by omega, by omega⟩)
                                  · refine lv_iload hx hb dL_drawn_329 (lv_at hl 0 rfl) ?_
                                    refine zz_iconst hx hb dL_drawn_331 ?_
                                    refine zz_icmp_le (tgt := 349) hx hb dL_drawn_332 (by decide) (by omega) (by decide) (fun c_332 => ?_) (fun c_332 => ?_)
                                    · refine lv_aload_n hx hb dL_drawn_349 rfl (lv_at hl 5 rfl) ?_
                                      refine lv_iload hx hb dL_drawn_350 (lv_at hl 1 rfl) ?_
                                      refine zz_iconst hx hb dL_drawn_352 ?_
                                      refine zq_iushr (x := w233_9) (y := 4) hx hb dL_drawn_353 (by decide) (by decide +kernel) (fun w353_39 hw353_39 => ?_)
                                      refine lv_iload_n hx hb dL_drawn_354 rfl (lv_at hl 3 rfl) ?_
                                      refine zq_irem hx hb dL_drawn_355 (by omega) (by omega) (fun r355_39 hr355_39 => ?_)
                                      refine lv_iload hx hb dL_drawn_356 (lv_at hl 1 rfl) ?_
                                      refine zz_bipush hx hb dL_drawn_358 (by decide) ?_
                                      refine zq_iushr (x := w233_9) (y := 8) hx hb dL_drawn_360 (by decide) (by decide +kernel) (fun w360_41 hw360_41 => ?_)
                                      refine lv_iload_n hx hb dL_drawn_361 rfl (lv_at hl 3 rfl) ?_
                                      refine zq_irem hx hb dL_drawn_362 (by omega) (by omega) (fun r362_41 hr362_41 => ?_)
                                      refine zh_callSi_ch (As := [.ref (ad 0), .int (iI r355_39), .int (iI r362_41)]) (rest := []) (L := [zW tA K ad g237_9]) (Lc := [zW tA K ad g237_9]) (Lr := []) (Lc' := fun (u : GL) => [zW tA K ad u]) (Lf := fun (u : GL) => [zW tA K ad u]) (is := [0]) (isF := [0]) ⟨hx, hb, hml, hown, hts⟩ (q_L_removeLegb hst hB9 hr.1 r355_39 r362_41 (by omega) (by omega)) (vx_cwSW 3 hts (gx_ww gL_drawn_L_removeLeg) rfl rfl rfl (by decide +kernel) ⟨Nat.le_of_ble_eq_true rfl, Nat.le_of_ble_eq_true rfl⟩) hK hP hD hS hA hZ (zCut_1 _) (zBack_1 _) rfl rfl hl.1 (Nat.le_of_ble_eq_true rfl) dL_drawn_363 (by show _ + 1 ≤ 600 ∧ _ + 6 ≤ 3600; omega) ?_
                                      intro z363_43 g363_42 H locs hp9 hP hD hS
                                      refine lv_istore (lv' := [(7, .int (iI z363_43)), (6, .int (iI z237_10)), (5, .int (iI w233_9)), (4, .int (iI k_)), (3, .int (iI (2 + r20_3))), (2, .int (iI w14_3)), (1, .ref (ad 0)), (0, .ref (K 12))]) hx hb dL_drawn_366 hl (by decide) rfl (fun ls hl => ?_)
                                      refine lv_iload hx hb dL_drawn_368 (lv_at hl 0 rfl) ?_
                                      refine zz_iconst hx hb dL_drawn_370 ?_
                                      refine zz_icmp_ne (tgt := 376) hx hb dL_drawn_371 (by decide) (by omega) (by decide) (fun c_371 => ?_) (fun c_371 => ?_)
                                      · refine zz_iinc (lv' := [(4, .int (iI (k_ + 1))), (7, .int (iI z363_43)), (6, .int (iI z237_10)), (5, .int (iI w233_9)), (3, .int (iI (2 + r20_3))), (2, .int (iI w14_3)), (1, .ref (ad 0)), (0, .ref (K 12))]) hx hb dL_drawn_376 hl (k := 3) rfl (by decide) rfl (fun ls hl => ?_)
                                        refine lv_goto (tgt := 217) hx hb dL_drawn_379 (by decide) ?_
                                        exact ih217 (k_ + 1) g363_42 _ _ _ _ _ (by omega) (by exact OKG_mono (wOp_ok hp9.1) (by omega) (by omega)) (by rw [hp9.2.1, hr.2.1]; exact hv4) (by omega) (by omega) hP hD hS (lv_sub hl [0, 4, 5, 6, 7] rfl)
                                      · exfalso
                                        exact hp9.2.2.2 (by omega) (by rw [hr.2.1, hv4]; exact ⟨by omega, by omega, by omega, by omega⟩)
                                    · refine lv_aload_n hx hb dL_drawn_335 rfl (lv_at hl 5 rfl) ?_
                                      refine lv_iload hx hb dL_drawn_336 (lv_at hl 1 rfl) ?_
                                      refine zz_iconst hx hb dL_drawn_338 ?_
                                      refine zq_iushr (x := w233_9) (y := 4) hx hb dL_drawn_339 (by decide) (by decide +kernel) (fun w339_45 hw339_45 => ?_)
                                      refine lv_iload hx hb dL_drawn_340 (lv_at hl 0 rfl) ?_
                                      refine zq_irem hx hb dL_drawn_342 (by omega) (by omega) (fun r342_45 hr342_45 => ?_)
                                      refine zh_callSi_ch (As := [.ref (ad 0), .int (iI r342_45)]) (rest := []) (L := [zW tA K ad g237_9]) (Lc := [zW tA K ad g237_9]) (Lr := []) (Lc' := fun (u : GL) => [zW tA K ad u]) (Lf := fun (u : GL) => [zW tA K ad u]) (is := [0]) (isF := [0]) ⟨hx, hb, hml, hown, hts⟩ (q_L_leavesb hst hB9 hr.1 r342_45 (by omega)) (vx_cwSW 2 hts (gx_ww gL_drawn_L_leaves) rfl rfl rfl (by decide +kernel) ⟨Nat.le_of_ble_eq_true rfl, Nat.le_of_ble_eq_true rfl⟩) hK hP hD hS hA hZ (zCut_1 _) (zBack_1 _) rfl rfl hl.1 (Nat.le_of_ble_eq_true rfl) dL_drawn_343 (by show _ + 1 ≤ 600 ∧ _ + 6 ≤ 3600; omega) ?_
                                      intro z343_47 g343_46 H locs hp9 hP hD hS
                                      refine lv_goto (tgt := 366) hx hb dL_drawn_346 (by decide) ?_
                                      refine lv_istore (lv' := [(7, .int (iI z343_47)), (6, .int (iI z237_10)), (5, .int (iI w233_9)), (4, .int (iI k_)), (3, .int (iI (2 + r20_3))), (2, .int (iI w14_3)), (1, .ref (ad 0)), (0, .ref (K 12))]) hx hb dL_drawn_366 hl (by decide) rfl (fun ls hl => ?_)
                                      refine lv_iload hx hb dL_drawn_368 (lv_at hl 0 rfl) ?_
                                      refine zz_iconst hx hb dL_drawn_370 ?_
                                      refine zz_icmp_ne (tgt := 376) hx hb dL_drawn_371 (by decide) (by omega) (by decide) (fun c_371 => ?_) (fun c_371 => ?_)
                                      · refine zz_iinc (lv' := [(4, .int (iI (k_ + 1))), (7, .int (iI z343_47)), (6, .int (iI z237_10)), (5, .int (iI w233_9)), (3, .int (iI (2 + r20_3))), (2, .int (iI w14_3)), (1, .ref (ad 0)), (0, .ref (K 12))]) hx hb dL_drawn_376 hl (k := 3) rfl (by decide) rfl (fun ls hl => ?_)
                                        refine lv_goto (tgt := 217) hx hb dL_drawn_379 (by decide) ?_
                                        exact ih217 (k_ + 1) g343_46 _ _ _ _ _ (by omega) (by exact OKG_mono (wOp_ok hp9.1) (by omega) (by omega)) (by rw [hp9.2.1, hr.2.1]; exact hv4) (by omega) (by omega) hP hD hS (lv_sub hl [0, 4, 5, 6, 7] rfl)
                                      · exfalso
                                        exact hp9.2.2.2 (by omega) (by rw [hr.2.1]; exact ⟨by omega, by omega⟩)
                                · refine lv_aload_n hx hb dL_drawn_294 rfl (lv_at hl 5 rfl) ?_
                                  refine lv_iload hx hb dL_drawn_295 (lv_at hl 1 rfl) ?_
                                  refine zz_iconst hx hb dL_drawn_297 ?_
                                  refine zq_iushr (x := w233_9) (y := 4) hx hb dL_drawn_298 (by decide) (by decide +kernel) (fun w298_49 hw298_49 => ?_)
                                  refine lv_iload hx hb dL_drawn_299 (lv_at hl 0 rfl) ?_
                                  refine zq_irem hx hb dL_drawn_301 (by omega) (by omega) (fun r301_49 hr301_49 => ?_)
                                  refine zz_iconst hx hb dL_drawn_302 ?_
                                  refine lv_iload hx hb dL_drawn_303 (lv_at hl 1 rfl) ?_
                                  refine zz_bipush hx hb dL_drawn_305 (by decide) ?_
                                  refine zq_iushr (x := w233_9) (y := 8) hx hb dL_drawn_307 (by decide) (by decide +kernel) (fun w307_51 hw307_51 => ?_)
                                  refine zz_sipush hx hb dL_drawn_308 (by decide) ?_
                                  refine zq_irem hx hb dL_drawn_311 (by omega) (by decide) (fun r311_51 hr311_51 => ?_)
                                  refine zz_iadd hx hb dL_drawn_312 ?_
                                  refine zh_callSi_ch (As := [.ref (ad 0), .int (iI r301_49), .int (iI (1 + r311_51))]) (rest := []) (L := [zW tA K ad g237_9]) (Lc := [zW tA K ad g237_9]) (Lr := []) (Lc' := fun (u : GL) => [zW tA K ad u]) (Lf := fun (u : GL) => [zW tA K ad u]) (is := [0]) (isF := [0]) ⟨hx, hb, hml, hown, hts⟩ (q_L_depositb hst hB9 hr.1 r301_49 (1 + r311_51) (by omega) (by omega)) (vx_cwSW 3 hts (gx_ww gL_drawn_L_deposit) rfl rfl rfl (by decide +kernel) ⟨Nat.le_of_ble_eq_true rfl, Nat.le_of_ble_eq_true rfl⟩) hK hP hD hS hA hZ (zCut_1 _) (zBack_1 _) rfl rfl hl.1 (Nat.le_of_ble_eq_true rfl) dL_drawn_313 (by show _ + 1 ≤ 600 ∧ _ + 6 ≤ 3600; omega) ?_
                                  intro z313_53 g313_52 H locs hp9 hP hD hS
                                  refine lv_goto (tgt := 366) hx hb dL_drawn_316 (by decide) ?_
                                  refine lv_istore (lv' := [(7, .int (iI z313_53)), (6, .int (iI z237_10)), (5, .int (iI w233_9)), (4, .int (iI k_)), (3, .int (iI (2 + r20_3))), (2, .int (iI w14_3)), (1, .ref (ad 0)), (0, .ref (K 12))]) hx hb dL_drawn_366 hl (by decide) rfl (fun ls hl => ?_)
                                  refine lv_iload hx hb dL_drawn_368 (lv_at hl 0 rfl) ?_
                                  refine zz_iconst hx hb dL_drawn_370 ?_
                                  refine zz_icmp_ne (tgt := 376) hx hb dL_drawn_371 (by decide) (by omega) (by decide) (fun c_371 => ?_) (fun c_371 => ?_)
                                  · refine zz_iinc (lv' := [(4, .int (iI (k_ + 1))), (7, .int (iI z313_53)), (6, .int (iI z237_10)), (5, .int (iI w233_9)), (3, .int (iI (2 + r20_3))), (2, .int (iI w14_3)), (1, .ref (ad 0)), (0, .ref (K 12))]) hx hb dL_drawn_376 hl (k := 3) rfl (by decide) rfl (fun ls hl => ?_)
                                    refine lv_goto (tgt := 217) hx hb dL_drawn_379 (by decide) ?_
                                    exact ih217 (k_ + 1) g313_52 _ _ _ _ _ (by omega) (by exact OKG_mono (wOp_ok hp9.1) (by omega) (by omega)) (by rw [hp9.2.1, hr.2.1]; exact hv4) (by omega) (by omega) hP hD hS (lv_sub hl [0, 4, 5, 6, 7] rfl)
                                  · exfalso
                                    exact hp9.2.2.2 (by omega) (by rw [hr.2.1]; exact ⟨by omega, by omega⟩)
                            · refine lv_aload_n hx hb dL_drawn_267 rfl (lv_at hl 5 rfl) ?_
                              refine lv_iload hx hb dL_drawn_268 (lv_at hl 1 rfl) ?_
                              refine zz_iconst hx hb dL_drawn_270 ?_
                              refine zq_iushr (x := w233_9) (y := 4) hx hb dL_drawn_271 (by decide) (by decide +kernel) (fun w271_55 hw271_55 => ?_)
                              refine zz_iconst hx hb dL_drawn_272 ?_
                              refine zq_irem hx hb dL_drawn_273 (by omega) (by decide) (fun r273_55 hr273_55 => ?_)
                              refine zh_callSi_ch (As := [.ref (ad 0), .int (iI r273_55)]) (rest := []) (L := [zW tA K ad g237_9]) (Lc := [zW tA K ad g237_9]) (Lr := []) (Lc' := fun (u : GL) => [zW tA K ad u]) (Lf := fun (u : GL) => [zW tA K ad u]) (is := [0]) (isF := [0]) ⟨hx, hb, hml, hown, hts⟩ (q_L_setFogb hst hB9 hr.1 r273_55 (by omega)) (vx_cwSW 2 hts (gx_ww gL_drawn_L_setFog) rfl rfl rfl (by decide +kernel) ⟨Nat.le_of_ble_eq_true rfl, Nat.le_of_ble_eq_true rfl⟩) hK hP hD hS hA hZ (zCut_1 _) (zBack_1 _) rfl rfl hl.1 (Nat.le_of_ble_eq_true rfl) dL_drawn_274 (by show _ + 1 ≤ 600 ∧ _ + 6 ≤ 3600; omega) ?_
                              intro z274_57 g274_56 H locs hp9 hP hD hS
                              refine lv_goto (tgt := 366) hx hb dL_drawn_277 (by decide) ?_
                              refine lv_istore (lv' := [(7, .int (iI z274_57)), (6, .int (iI z237_10)), (5, .int (iI w233_9)), (4, .int (iI k_)), (3, .int (iI (2 + r20_3))), (2, .int (iI w14_3)), (1, .ref (ad 0)), (0, .ref (K 12))]) hx hb dL_drawn_366 hl (by decide) rfl (fun ls hl => ?_)
                              refine lv_iload hx hb dL_drawn_368 (lv_at hl 0 rfl) ?_
                              refine zz_iconst hx hb dL_drawn_370 ?_
                              refine zz_icmp_ne (tgt := 376) hx hb dL_drawn_371 (by decide) (by omega) (by decide) (fun c_371 => ?_) (fun c_371 => ?_)
                              · refine zz_iinc (lv' := [(4, .int (iI (k_ + 1))), (7, .int (iI z274_57)), (6, .int (iI z237_10)), (5, .int (iI w233_9)), (3, .int (iI (2 + r20_3))), (2, .int (iI w14_3)), (1, .ref (ad 0)), (0, .ref (K 12))]) hx hb dL_drawn_376 hl (k := 3) rfl (by decide) rfl (fun ls hl => ?_)
                                refine lv_goto (tgt := 217) hx hb dL_drawn_379 (by decide) ?_
                                exact ih217 (k_ + 1) g274_56 _ _ _ _ _ (by omega) (by exact OKG_mono (wOp_ok hp9.1) (by omega) (by omega)) (by rw [hp9.2.1, hr.2.1]; exact hv4) (by omega) (by omega) hP hD hS (lv_sub hl [0, 4, 5, 6, 7] rfl)
                              · exfalso
                                exact hp9.2.2.2 (by omega) ⟨by omega, by omega⟩
                          · refine lv_aload_n hx hb dL_drawn_251 rfl (lv_at hl 5 rfl) ?_
                            refine zt_callVi (As := []) (rest := []) (L := [zW tA K ad g237_9]) (Lc := [zW tA K ad g237_9]) (Lr := []) (Lc' := fun (u : GL) => [zW tA K ad u]) (Lf := fun (u : GL) => [zW tA K ad u]) (is := [0]) (isF := [0]) ⟨hx, hb, hml, hown, hts⟩ (q_X10_nightb hst hB9 hr.1  ) (cwV 0 hts (goodIn_wid gL_drawn_X10_night) rfl rfl rfl (by decide +kernel) ⟨Nat.le_of_ble_eq_true rfl, Nat.le_of_ble_eq_true rfl⟩) hK hP hD hS hA hZ (zCut_1 _) (zBack_1 _) (ci := 12) (q0 := 0) rfl rfl (zW_0 tA K ad g237_9) rfl rfl hl.1 (Nat.le_of_ble_eq_true rfl) dL_drawn_252 (by show _ + 0 ≤ 600 ∧ _ + 0 ≤ 3600; omega) ?_
                            intro z252_59 g252_58 H locs hp9 hP hD hS
                            refine lv_goto (tgt := 366) hx hb dL_drawn_255 (by decide) ?_
                            refine lv_istore (lv' := [(7, .int (iI z252_59)), (6, .int (iI z237_10)), (5, .int (iI w233_9)), (4, .int (iI k_)), (3, .int (iI (2 + r20_3))), (2, .int (iI w14_3)), (1, .ref (ad 0)), (0, .ref (K 12))]) hx hb dL_drawn_366 hl (by decide) rfl (fun ls hl => ?_)
                            refine lv_iload hx hb dL_drawn_368 (lv_at hl 0 rfl) ?_
                            refine zz_iconst hx hb dL_drawn_370 ?_
                            refine zz_icmp_ne (tgt := 376) hx hb dL_drawn_371 (by decide) (by omega) (by decide) (fun c_371 => ?_) (fun c_371 => ?_)
                            · refine zz_iinc (lv' := [(4, .int (iI (k_ + 1))), (7, .int (iI z252_59)), (6, .int (iI z237_10)), (5, .int (iI w233_9)), (3, .int (iI (2 + r20_3))), (2, .int (iI w14_3)), (1, .ref (ad 0)), (0, .ref (K 12))]) hx hb dL_drawn_376 hl (k := 3) rfl (by decide) rfl (fun ls hl => ?_)
                              refine lv_goto (tgt := 217) hx hb dL_drawn_379 (by decide) ?_
                              exact ih217 (k_ + 1) g252_58 _ _ _ _ _ (by omega) (by exact OKG_mono hp9.1.1 (by omega) (by omega)) (by rw [hp9.2.1, hr.2.1]; exact hv4) (by omega) (by omega) hP hD hS (lv_sub hl [0, 4, 5, 6, 7] rfl)
                            · exfalso
                              omega
                    exact L217 _ 0 g147 _ _ _ _ _ (by omega) (by exact OKG_mono hok3 (by omega) (by omega)) (by exact hv3) (by omega) (Nat.lt_succ_self _) hP hD hS (lv_sub hl [0, 1, 2, 3, 4] rfl)
                  · refine lv_aload_n hx hb dL_drawn_154 rfl (lv_at hl 4 rfl) ?_
                    refine zz_bipush hx hb dL_drawn_155 (by decide) ?_
                    refine lv_iload hx hb dL_drawn_157 (lv_at hl 0 rfl) ?_
                    refine zz_iadd hx hb dL_drawn_159 ?_
                    refine zt_callSi (As := [.ref (K 12), .int (iI (12 + k_))]) (rest := []) (L := [zW tA K ad g147]) (Lc := [zW tA K ad g147]) (Lr := []) (Lc' := fun (u : GL) => [zW tA K ad u]) (Lf := fun (u : GL) => [zW tA K ad u]) (is := [0]) (isF := [0]) ⟨hx, hb, hml, hown, hts⟩ (q_L_cell hst hB9 hr.1 (12 + k_) (by omega) ⟨by omega, by omega⟩) (va_cwS 2 hts (gx_ww gL_drawn_L_cell) rfl rfl rfl (by decide +kernel) ⟨Nat.le_of_ble_eq_true rfl, Nat.le_of_ble_eq_true rfl⟩) hK hP hD hS hA hZ (zCut_1 _) (zBack_1 _) rfl rfl hl.1 (Nat.le_of_ble_eq_true rfl) dL_drawn_160 (by show _ + 0 ≤ 600 ∧ _ + 0 ≤ 3600; omega) ?_
                    intro z160_61 g160_60 H locs hp9 hP hD hS
                    have q160 := hp9.2
                    try rw [hr.2.1] at q160
                    have hr := RDO_trans hr hp9.1
                    clear hp9
                    refine zz_iconst hx hb dL_drawn_163 ?_
                    refine zq_iushr (x := z160_61) (y := 1) hx hb dL_drawn_164 (by decide) (by decide +kernel) (fun w164_63 hw164_63 => ?_)
                    refine lv_istore (lv' := [(5, .int (iI w164_63)), (4, .int (iI k_)), (3, .int (iI (2 + r20_3))), (2, .int (iI w14_3)), (1, .ref (ad 0)), (0, .ref (K 12))]) hx hb dL_drawn_165 hl (by decide) rfl (fun ls hl => ?_)
                    refine lv_aload_n hx hb dL_drawn_167 rfl (lv_at hl 4 rfl) ?_
                    refine lv_iload hx hb dL_drawn_168 (lv_at hl 0 rfl) ?_
                    refine lv_iload_n hx hb dL_drawn_170 rfl (lv_at hl 2 rfl) ?_
                    refine zq_irem hx hb dL_drawn_171 (by omega) (by omega) (fun r171_63 hr171_63 => ?_)
                    refine lv_iload hx hb dL_drawn_172 (lv_at hl 0 rfl) ?_
                    refine zz_iconst hx hb dL_drawn_174 ?_
                    refine zq_iushr (x := w164_63) (y := 4) hx hb dL_drawn_175 (by decide) (by decide +kernel) (fun w175_65 hw175_65 => ?_)
                    refine lv_iload_n hx hb dL_drawn_176 rfl (lv_at hl 2 rfl) ?_
                    refine zq_irem hx hb dL_drawn_177 (by omega) (by omega) (fun r177_65 hr177_65 => ?_)
                    refine lv_iload hx hb dL_drawn_178 (lv_at hl 0 rfl) ?_
                    refine zz_bipush hx hb dL_drawn_180 (by decide) ?_
                    refine zq_iushr (x := w164_63) (y := 8) hx hb dL_drawn_182 (by decide) (by decide +kernel) (fun w182_67 hw182_67 => ?_)
                    refine lv_iload_n hx hb dL_drawn_183 rfl (lv_at hl 3 rfl) ?_
                    refine zz_iconst hx hb dL_drawn_184 ?_
                    refine zq_irem hx hb dL_drawn_185 (by omega) (by decide) (fun r185_67 hr185_67 => ?_)
                    refine zz_if_ne (tgt := 195) hx hb dL_drawn_186 (by decide) (by omega) (fun c_186 => ?_) (fun c_186 => ?_)
                    · refine zz_sipush hx hb dL_drawn_195 (by decide) ?_
                      refine zq_irem hx hb dL_drawn_198 (by omega) (by decide) (fun r198_68 hr198_68 => ?_)
                      refine zh_callSi_ch (As := [.ref (ad 0), .int (iI r171_63), .int (iI r177_65), .int (iI r198_68)]) (rest := []) (L := [zW tA K ad g160_60]) (Lc := [zW tA K ad g160_60]) (Lr := []) (Lc' := fun (u : GL) => [zW tA K ad u]) (Lf := fun (u : GL) => [zW tA K ad u]) (is := [0]) (isF := [0]) ⟨hx, hb, hml, hown, hts⟩ (q_L_subscribeb hst hB9 hr.1 r171_63 r177_65 r198_68 (by omega) (by omega) (by omega)) (vx_cwSW 4 hts (gx_ww gL_drawn_L_subscribe) rfl rfl rfl (by decide +kernel) ⟨Nat.le_of_ble_eq_true rfl, Nat.le_of_ble_eq_true rfl⟩) hK hP hD hS hA hZ (zCut_1 _) (zBack_1 _) rfl rfl hl.1 (Nat.le_of_ble_eq_true rfl) dL_drawn_199 (by show _ + 1 ≤ 600 ∧ _ + 6 ≤ 3600; omega) ?_
                      intro z199_70 g199_69 H locs hp9 hP hD hS
                      refine zz_iconst hx hb dL_drawn_202 ?_
                      refine zz_icmp_ne (tgt := 208) hx hb dL_drawn_203 (by decide) (by omega) (by decide) (fun c_203 => ?_) (fun c_203 => ?_)
                      · refine zz_iinc (lv' := [(4, .int (iI (k_ + 1))), (5, .int (iI w164_63)), (3, .int (iI (2 + r20_3))), (2, .int (iI w14_3)), (1, .ref (ad 0)), (0, .ref (K 12))]) hx hb dL_drawn_208 hl (k := 1) rfl (by decide) rfl (fun ls hl => ?_)
                        refine lv_goto (tgt := 147) hx hb dL_drawn_211 (by decide) ?_
                        exact ih147 (k_ + 1) g199_69 _ _ _ _ _ (by omega) (by exact OKG_mono (wOp_ok hp9.1) (by omega) (by omega)) (by rw [hp9.2.1, hr.2.1]; exact hv3) (by omega) (by omega) hP hD hS (lv_sub hl [0, 2, 3, 4, 5] rfl)
                      · exfalso
                        exact hp9.2.2.2 (by omega) (by rw [hr.2.1, hv3]; exact ⟨by omega, by omega, by omega, by omega⟩)
                    · refine zz_sipush hx hb dL_drawn_189 (by decide) ?_
                      refine lv_goto (tgt := 198) hx hb dL_drawn_192 (by decide) ?_
                      refine zq_irem hx hb dL_drawn_198 (by omega) (by decide) (fun r198_71 hr198_71 => ?_)
                      refine zh_callSi_ch (As := [.ref (ad 0), .int (iI r171_63), .int (iI r177_65), .int (iI r198_71)]) (rest := []) (L := [zW tA K ad g160_60]) (Lc := [zW tA K ad g160_60]) (Lr := []) (Lc' := fun (u : GL) => [zW tA K ad u]) (Lf := fun (u : GL) => [zW tA K ad u]) (is := [0]) (isF := [0]) ⟨hx, hb, hml, hown, hts⟩ (q_L_subscribeb hst hB9 hr.1 r171_63 r177_65 r198_71 (by omega) (by omega) (by omega)) (vx_cwSW 4 hts (gx_ww gL_drawn_L_subscribe) rfl rfl rfl (by decide +kernel) ⟨Nat.le_of_ble_eq_true rfl, Nat.le_of_ble_eq_true rfl⟩) hK hP hD hS hA hZ (zCut_1 _) (zBack_1 _) rfl rfl hl.1 (Nat.le_of_ble_eq_true rfl) dL_drawn_199 (by show _ + 1 ≤ 600 ∧ _ + 6 ≤ 3600; omega) ?_
                      intro z199_73 g199_72 H locs hp9 hP hD hS
                      refine zz_iconst hx hb dL_drawn_202 ?_
                      refine zz_icmp_ne (tgt := 208) hx hb dL_drawn_203 (by decide) (by omega) (by decide) (fun c_203 => ?_) (fun c_203 => ?_)
                      · refine zz_iinc (lv' := [(4, .int (iI (k_ + 1))), (5, .int (iI w164_63)), (3, .int (iI (2 + r20_3))), (2, .int (iI w14_3)), (1, .ref (ad 0)), (0, .ref (K 12))]) hx hb dL_drawn_208 hl (k := 1) rfl (by decide) rfl (fun ls hl => ?_)
                        refine lv_goto (tgt := 147) hx hb dL_drawn_211 (by decide) ?_
                        exact ih147 (k_ + 1) g199_72 _ _ _ _ _ (by omega) (by exact OKG_mono (wOp_ok hp9.1) (by omega) (by omega)) (by rw [hp9.2.1, hr.2.1]; exact hv3) (by omega) (by omega) hP hD hS (lv_sub hl [0, 2, 3, 4, 5] rfl)
                      · exfalso
                        exact hp9.2.2.2 (by omega) (by rw [hr.2.1, hv3]; exact ⟨by omega, by omega, by omega, by omega⟩)
              exact L147 _ 0 g52 _ _ _ _ _ (by omega) (by exact OKG_mono hok2 (by omega) (by omega)) (by exact hv2) (by omega) (Nat.lt_succ_self _) hP hD hS (lv_sub hl [0, 1, 2, 3, 4] rfl)
            · refine lv_aload_n hx hb dL_drawn_65 rfl (lv_at hl 4 rfl) ?_
              refine zz_iconst hx hb dL_drawn_66 ?_
              refine lv_iload hx hb dL_drawn_67 (lv_at hl 0 rfl) ?_
              refine zz_iadd hx hb dL_drawn_69 ?_
              refine zt_callSi (As := [.ref (K 12), .int (iI (1 + k_))]) (rest := []) (L := [zW tA K ad g52]) (Lc := [zW tA K ad g52]) (Lr := []) (Lc' := fun (u : GL) => [zW tA K ad u]) (Lf := fun (u : GL) => [zW tA K ad u]) (is := [0]) (isF := [0]) ⟨hx, hb, hml, hown, hts⟩ (q_L_cell hst hB9 hr.1 (1 + k_) (by omega) ⟨by omega, by omega⟩) (va_cwS 2 hts (gx_ww gL_drawn_L_cell) rfl rfl rfl (by decide +kernel) ⟨Nat.le_of_ble_eq_true rfl, Nat.le_of_ble_eq_true rfl⟩) hK hP hD hS hA hZ (zCut_1 _) (zBack_1 _) rfl rfl hl.1 (Nat.le_of_ble_eq_true rfl) dL_drawn_70 (by show _ + 0 ≤ 600 ∧ _ + 0 ≤ 3600; omega) ?_
              intro z70_75 g70_74 H locs hp9 hP hD hS
              have q70 := hp9.2
              try rw [hr.2.1] at q70
              have hr := RDO_trans hr hp9.1
              clear hp9
              refine zz_iconst hx hb dL_drawn_73 ?_
              refine zq_iushr (x := z70_75) (y := 1) hx hb dL_drawn_74 (by decide) (by decide +kernel) (fun w74_77 hw74_77 => ?_)
              refine lv_istore (lv' := [(5, .int (iI w74_77)), (4, .int (iI k_)), (3, .int (iI (2 + r20_3))), (2, .int (iI w14_3)), (1, .ref (ad 0)), (0, .ref (K 12))]) hx hb dL_drawn_75 hl (by decide) rfl (fun ls hl => ?_)
              refine lv_aload_n hx hb dL_drawn_77 rfl (lv_at hl 4 rfl) ?_
              refine lv_iload hx hb dL_drawn_78 (lv_at hl 0 rfl) ?_
              refine lv_iload_n hx hb dL_drawn_80 rfl (lv_at hl 2 rfl) ?_
              refine zq_irem hx hb dL_drawn_81 (by omega) (by omega) (fun r81_77 hr81_77 => ?_)
              refine lv_iload hx hb dL_drawn_82 (lv_at hl 0 rfl) ?_
              refine zz_iconst hx hb dL_drawn_84 ?_
              refine zq_iushr (x := w74_77) (y := 4) hx hb dL_drawn_85 (by decide) (by decide +kernel) (fun w85_79 hw85_79 => ?_)
              refine lv_iload_n hx hb dL_drawn_86 rfl (lv_at hl 2 rfl) ?_
              refine zq_irem hx hb dL_drawn_87 (by omega) (by omega) (fun r87_79 hr87_79 => ?_)
              refine zz_iconst hx hb dL_drawn_88 ?_
              refine lv_iload hx hb dL_drawn_89 (lv_at hl 0 rfl) ?_
              refine zz_bipush hx hb dL_drawn_91 (by decide) ?_
              refine zq_iushr (x := w74_77) (y := 8) hx hb dL_drawn_93 (by decide) (by decide +kernel) (fun w93_81 hw93_81 => ?_)
              refine lv_iload_n hx hb dL_drawn_94 rfl (lv_at hl 3 rfl) ?_
              refine zz_iconst hx hb dL_drawn_95 ?_
              refine zq_irem hx hb dL_drawn_96 (by omega) (by decide) (fun r96_81 hr96_81 => ?_)
              refine zz_if_ne (tgt := 105) hx hb dL_drawn_97 (by decide) (by omega) (fun c_97 => ?_) (fun c_97 => ?_)
              · refine zz_bipush hx hb dL_drawn_105 (by decide) ?_
                refine zq_irem hx hb dL_drawn_107 (by omega) (by decide) (fun r107_82 hr107_82 => ?_)
                refine zz_iadd hx hb dL_drawn_108 ?_
                refine zz_iconst hx hb dL_drawn_109 ?_
                refine lv_iload hx hb dL_drawn_110 (lv_at hl 0 rfl) ?_
                refine zz_bipush hx hb dL_drawn_112 (by decide) ?_
                refine zq_iushr (x := w74_77) (y := 15) hx hb dL_drawn_114 (by decide) (by decide +kernel) (fun w114_84 hw114_84 => ?_)
                refine lv_iload_n hx hb dL_drawn_115 rfl (lv_at hl 3 rfl) ?_
                refine zz_iconst hx hb dL_drawn_116 ?_
                refine zq_irem hx hb dL_drawn_117 (by omega) (by decide) (fun r117_84 hr117_84 => ?_)
                refine zz_if_ne (tgt := 126) hx hb dL_drawn_118 (by decide) (by omega) (fun c_118 => ?_) (fun c_118 => ?_)
                · refine zz_iconst hx hb dL_drawn_126 ?_
                  refine zq_irem hx hb dL_drawn_127 (by omega) (by decide) (fun r127_85 hr127_85 => ?_)
                  refine zz_iadd hx hb dL_drawn_128 ?_
                  refine zh_callSi_ch (As := [.ref (ad 0), .int (iI r81_77), .int (iI r87_79), .int (iI (1 + r107_82)), .int (iI (1 + r127_85))]) (rest := []) (L := [zW tA K ad g70_74]) (Lc := [zW tA K ad g70_74]) (Lr := []) (Lc' := fun (u : GL) => [zW tA K ad u]) (Lf := fun (u : GL) => [zW tA K ad u]) (is := [0]) (isF := [0]) ⟨hx, hb, hml, hown, hts⟩ (q_L_addLegb hst hB9 hr.1 r81_77 r87_79 (1 + r107_82) (1 + r127_85) (by omega) (by omega) (by omega) (by omega)) (vx_cwSW 5 hts (gx_ww gL_drawn_L_addLeg) rfl rfl rfl (by decide +kernel) ⟨Nat.le_of_ble_eq_true rfl, Nat.le_of_ble_eq_true rfl⟩) hK hP hD hS hA hZ (zCut_1 _) (zBack_1 _) rfl rfl hl.1 (Nat.le_of_ble_eq_true rfl) dL_drawn_129 (by show _ + 1 ≤ 600 ∧ _ + 6 ≤ 3600; omega) ?_
                  intro z129_87 g129_86 H locs hp9 hP hD hS
                  refine zz_iconst hx hb dL_drawn_132 ?_
                  refine zz_icmp_ne (tgt := 138) hx hb dL_drawn_133 (by decide) (by omega) (by decide) (fun c_133 => ?_) (fun c_133 => ?_)
                  · refine zz_iinc (lv' := [(4, .int (iI (k_ + 1))), (5, .int (iI w74_77)), (3, .int (iI (2 + r20_3))), (2, .int (iI w14_3)), (1, .ref (ad 0)), (0, .ref (K 12))]) hx hb dL_drawn_138 hl (k := 1) rfl (by decide) rfl (fun ls hl => ?_)
                    refine lv_goto (tgt := 52) hx hb dL_drawn_141 (by decide) ?_
                    exact ih52 (k_ + 1) g129_86 _ _ _ _ _ (by omega) (by exact OKG_mono (wOp_ok hp9.1) (by omega) (by omega)) (by rw [hp9.2.1, hr.2.1]; exact hv2) (by omega) (by omega) hP hD hS (lv_sub hl [0, 2, 3, 4, 5] rfl)
                  · exfalso
                    exact hp9.2.2.2 (by omega) (by rw [hr.2.1, hv2]; exact ⟨by omega, by omega, by omega, by omega⟩)
                · refine zz_bipush hx hb dL_drawn_121 (by decide) ?_
                  refine lv_goto (tgt := 127) hx hb dL_drawn_123 (by decide) ?_
                  refine zq_irem hx hb dL_drawn_127 (by omega) (by decide) (fun r127_88 hr127_88 => ?_)
                  refine zz_iadd hx hb dL_drawn_128 ?_
                  refine zh_callSi_ch (As := [.ref (ad 0), .int (iI r81_77), .int (iI r87_79), .int (iI (1 + r107_82)), .int (iI (1 + r127_88))]) (rest := []) (L := [zW tA K ad g70_74]) (Lc := [zW tA K ad g70_74]) (Lr := []) (Lc' := fun (u : GL) => [zW tA K ad u]) (Lf := fun (u : GL) => [zW tA K ad u]) (is := [0]) (isF := [0]) ⟨hx, hb, hml, hown, hts⟩ (q_L_addLegb hst hB9 hr.1 r81_77 r87_79 (1 + r107_82) (1 + r127_88) (by omega) (by omega) (by omega) (by omega)) (vx_cwSW 5 hts (gx_ww gL_drawn_L_addLeg) rfl rfl rfl (by decide +kernel) ⟨Nat.le_of_ble_eq_true rfl, Nat.le_of_ble_eq_true rfl⟩) hK hP hD hS hA hZ (zCut_1 _) (zBack_1 _) rfl rfl hl.1 (Nat.le_of_ble_eq_true rfl) dL_drawn_129 (by show _ + 1 ≤ 600 ∧ _ + 6 ≤ 3600; omega) ?_
                  intro z129_90 g129_89 H locs hp9 hP hD hS
                  refine zz_iconst hx hb dL_drawn_132 ?_
                  refine zz_icmp_ne (tgt := 138) hx hb dL_drawn_133 (by decide) (by omega) (by decide) (fun c_133 => ?_) (fun c_133 => ?_)
                  · refine zz_iinc (lv' := [(4, .int (iI (k_ + 1))), (5, .int (iI w74_77)), (3, .int (iI (2 + r20_3))), (2, .int (iI w14_3)), (1, .ref (ad 0)), (0, .ref (K 12))]) hx hb dL_drawn_138 hl (k := 1) rfl (by decide) rfl (fun ls hl => ?_)
                    refine lv_goto (tgt := 52) hx hb dL_drawn_141 (by decide) ?_
                    exact ih52 (k_ + 1) g129_89 _ _ _ _ _ (by omega) (by exact OKG_mono (wOp_ok hp9.1) (by omega) (by omega)) (by rw [hp9.2.1, hr.2.1]; exact hv2) (by omega) (by omega) hP hD hS (lv_sub hl [0, 2, 3, 4, 5] rfl)
                  · exfalso
                    exact hp9.2.2.2 (by omega) (by rw [hr.2.1, hv2]; exact ⟨by omega, by omega, by omega, by omega⟩)
              · refine zz_bipush hx hb dL_drawn_100 (by decide) ?_
                refine lv_goto (tgt := 107) hx hb dL_drawn_102 (by decide) ?_
                refine zq_irem hx hb dL_drawn_107 (by omega) (by decide) (fun r107_91 hr107_91 => ?_)
                refine zz_iadd hx hb dL_drawn_108 ?_
                refine zz_iconst hx hb dL_drawn_109 ?_
                refine lv_iload hx hb dL_drawn_110 (lv_at hl 0 rfl) ?_
                refine zz_bipush hx hb dL_drawn_112 (by decide) ?_
                refine zq_iushr (x := w74_77) (y := 15) hx hb dL_drawn_114 (by decide) (by decide +kernel) (fun w114_93 hw114_93 => ?_)
                refine lv_iload_n hx hb dL_drawn_115 rfl (lv_at hl 3 rfl) ?_
                refine zz_iconst hx hb dL_drawn_116 ?_
                refine zq_irem hx hb dL_drawn_117 (by omega) (by decide) (fun r117_93 hr117_93 => ?_)
                refine zz_if_ne (tgt := 126) hx hb dL_drawn_118 (by decide) (by omega) (fun c_118 => ?_) (fun c_118 => ?_)
                · refine zz_iconst hx hb dL_drawn_126 ?_
                  refine zq_irem hx hb dL_drawn_127 (by omega) (by decide) (fun r127_94 hr127_94 => ?_)
                  refine zz_iadd hx hb dL_drawn_128 ?_
                  refine zh_callSi_ch (As := [.ref (ad 0), .int (iI r81_77), .int (iI r87_79), .int (iI (1 + r107_91)), .int (iI (1 + r127_94))]) (rest := []) (L := [zW tA K ad g70_74]) (Lc := [zW tA K ad g70_74]) (Lr := []) (Lc' := fun (u : GL) => [zW tA K ad u]) (Lf := fun (u : GL) => [zW tA K ad u]) (is := [0]) (isF := [0]) ⟨hx, hb, hml, hown, hts⟩ (q_L_addLegb hst hB9 hr.1 r81_77 r87_79 (1 + r107_91) (1 + r127_94) (by omega) (by omega) (by omega) (by omega)) (vx_cwSW 5 hts (gx_ww gL_drawn_L_addLeg) rfl rfl rfl (by decide +kernel) ⟨Nat.le_of_ble_eq_true rfl, Nat.le_of_ble_eq_true rfl⟩) hK hP hD hS hA hZ (zCut_1 _) (zBack_1 _) rfl rfl hl.1 (Nat.le_of_ble_eq_true rfl) dL_drawn_129 (by show _ + 1 ≤ 600 ∧ _ + 6 ≤ 3600; omega) ?_
                  intro z129_96 g129_95 H locs hp9 hP hD hS
                  refine zz_iconst hx hb dL_drawn_132 ?_
                  refine zz_icmp_ne (tgt := 138) hx hb dL_drawn_133 (by decide) (by omega) (by decide) (fun c_133 => ?_) (fun c_133 => ?_)
                  · refine zz_iinc (lv' := [(4, .int (iI (k_ + 1))), (5, .int (iI w74_77)), (3, .int (iI (2 + r20_3))), (2, .int (iI w14_3)), (1, .ref (ad 0)), (0, .ref (K 12))]) hx hb dL_drawn_138 hl (k := 1) rfl (by decide) rfl (fun ls hl => ?_)
                    refine lv_goto (tgt := 52) hx hb dL_drawn_141 (by decide) ?_
                    exact ih52 (k_ + 1) g129_95 _ _ _ _ _ (by omega) (by exact OKG_mono (wOp_ok hp9.1) (by omega) (by omega)) (by rw [hp9.2.1, hr.2.1]; exact hv2) (by omega) (by omega) hP hD hS (lv_sub hl [0, 2, 3, 4, 5] rfl)
                  · exfalso
                    exact hp9.2.2.2 (by omega) (by rw [hr.2.1, hv2]; exact ⟨by omega, by omega, by omega, by omega⟩)
                · refine zz_bipush hx hb dL_drawn_121 (by decide) ?_
                  refine lv_goto (tgt := 127) hx hb dL_drawn_123 (by decide) ?_
                  refine zq_irem hx hb dL_drawn_127 (by omega) (by decide) (fun r127_97 hr127_97 => ?_)
                  refine zz_iadd hx hb dL_drawn_128 ?_
                  refine zh_callSi_ch (As := [.ref (ad 0), .int (iI r81_77), .int (iI r87_79), .int (iI (1 + r107_91)), .int (iI (1 + r127_97))]) (rest := []) (L := [zW tA K ad g70_74]) (Lc := [zW tA K ad g70_74]) (Lr := []) (Lc' := fun (u : GL) => [zW tA K ad u]) (Lf := fun (u : GL) => [zW tA K ad u]) (is := [0]) (isF := [0]) ⟨hx, hb, hml, hown, hts⟩ (q_L_addLegb hst hB9 hr.1 r81_77 r87_79 (1 + r107_91) (1 + r127_97) (by omega) (by omega) (by omega) (by omega)) (vx_cwSW 5 hts (gx_ww gL_drawn_L_addLeg) rfl rfl rfl (by decide +kernel) ⟨Nat.le_of_ble_eq_true rfl, Nat.le_of_ble_eq_true rfl⟩) hK hP hD hS hA hZ (zCut_1 _) (zBack_1 _) rfl rfl hl.1 (Nat.le_of_ble_eq_true rfl) dL_drawn_129 (by show _ + 1 ≤ 600 ∧ _ + 6 ≤ 3600; omega) ?_
                  intro z129_99 g129_98 H locs hp9 hP hD hS
                  refine zz_iconst hx hb dL_drawn_132 ?_
                  refine zz_icmp_ne (tgt := 138) hx hb dL_drawn_133 (by decide) (by omega) (by decide) (fun c_133 => ?_) (fun c_133 => ?_)
                  · refine zz_iinc (lv' := [(4, .int (iI (k_ + 1))), (5, .int (iI w74_77)), (3, .int (iI (2 + r20_3))), (2, .int (iI w14_3)), (1, .ref (ad 0)), (0, .ref (K 12))]) hx hb dL_drawn_138 hl (k := 1) rfl (by decide) rfl (fun ls hl => ?_)
                    refine lv_goto (tgt := 52) hx hb dL_drawn_141 (by decide) ?_
                    exact ih52 (k_ + 1) g129_98 _ _ _ _ _ (by omega) (by exact OKG_mono (wOp_ok hp9.1) (by omega) (by omega)) (by rw [hp9.2.1, hr.2.1]; exact hv2) (by omega) (by omega) hP hD hS (lv_sub hl [0, 2, 3, 4, 5] rfl)
                  · exfalso
                    exact hp9.2.2.2 (by omega) (by rw [hr.2.1, hv2]; exact ⟨by omega, by omega, by omega, by omega⟩)
        exact L52 _ 0 g26 _ _ _ _ _ (by omega) (by exact OKG_mono hok1 (by omega) (by omega)) (by omega) (by omega) (Nat.lt_succ_self _) hP hD hS (lv_sub hl [0, 1, 2, 3, 4] rfl)
      · refine lv_aload_n hx hb dL_drawn_32 rfl (lv_at hl 3 rfl) ?_
        refine zh_callSi_ch (As := [.ref (ad 0)]) (rest := []) (L := [zW tA K ad g26]) (Lc := [zW tA K ad g26]) (Lr := []) (Lc' := fun (u : GL) => [zW tA K ad u]) (Lf := fun (u : GL) => [zW tA K ad u]) (is := [0]) (isF := [0]) ⟨hx, hb, hml, hown, hts⟩ (q_L_addPort hst hB9 hr.1  ) (vx_cwSW 1 hts (gx_ww gL_drawn_L_addPort) rfl rfl rfl (by decide +kernel) ⟨Nat.le_of_ble_eq_true rfl, Nat.le_of_ble_eq_true rfl⟩) hK hP hD hS hA hZ (zCut_1 _) (zBack_1 _) rfl rfl hl.1 (Nat.le_of_ble_eq_true rfl) dL_drawn_33 (by show _ + 1 ≤ 600 ∧ _ + 6 ≤ 3600; omega) ?_
        intro z33_101 g33_100 H locs hp9 hP hD hS
        have hap := ap_k (k := k_) hp9 ⟨by rw [hr.2.1]; exact hv1, by omega⟩
        refine lv_iload hx hb dL_drawn_36 (lv_at hl 0 rfl) ?_
        refine zz_icmp_eq (tgt := 43) hx hb dL_drawn_38 (by decide) (by omega) (by omega) (fun c_38 => ?_) (fun c_38 => ?_)
        · refine zz_iinc (lv' := [(4, .int (iI (k_ + 1))), (3, .int (iI (2 + r20_3))), (2, .int (iI w14_3)), (1, .ref (ad 0)), (0, .ref (K 12))]) hx hb dL_drawn_43 hl (k := 0) rfl (by decide) rfl (fun ls hl => ?_)
          refine lv_goto (tgt := 26) hx hb dL_drawn_46 (by decide) ?_
          exact ih26 (k_ + 1) g33_100 _ _ _ _ _ (by omega) (by exact OKG_mono hap.2.1.1 (by omega) (by omega)) (by exact hap.2.2) (by omega) (by omega) hP hD hS (lv_sub hl [0, 1, 2, 3, 4] rfl)
        · exfalso
          omega
  exact L26 _ 0 g10_0 _ _ _ _ _ (by omega) (by exact OKG_mono hr.1 (by omega) (by omega)) (by rw [hr.2.1, hg]; rfl) (by omega) (Nat.lt_succ_self _) hP hD hS (lv_sub hl [0, 1, 2, 3, 4] rfl)
