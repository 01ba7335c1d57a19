/-! ===== the law from its entry ===== -/
theorem SV_0 : SVk 0 0 (fun _ => z0F) := ⟨⟨by decide, by decide, by decide, by decide, fun k k0 k1 => absurd (show k < 0 from k1) (by omega), fun a b a0 a1 b1 => absurd (show b < 0 from b1) (by omega)⟩, fun a b a0 a1 => absurd (show a < 0 from a1) (by omega), fun j j0 j1 => absurd (show j < 0 from j1) (by omega), ⟨by decide, by decide⟩, fun j j0 j1 => absurd (show j < 0 from j1) (by omega), ⟨⟨by decide, by decide⟩, ⟨by decide, by decide⟩, ⟨by decide, by decide⟩⟩, ⟨by decide, by decide⟩, rfl, by decide⟩
theorem RS_0 : RelS 0 (fun _ => z0F) z0F := ⟨⟨rfl, rfl, rfl, rfl, rfl, rfl, rfl⟩, fun k k0 k1 => absurd (show k < 0 from k1) (by omega), fun j j0 j1 => absurd (show j < 0 from j1) (by omega), fun a b _ _ _ _ g => absurd (show (0 : Int) < 0 from g) (by decide), fun a b _ _ _ _ => ⟨fun w _ _ => rfl, Int.le_refl 0, ⟨Int.le_refl 0, show (0 : Int) ≤ 20 by decide⟩, Int.le_refl 0, Int.le_refl 0⟩⟩
theorem LI_0 : LInv 0 (fun _ => z0F) (fun _ _ => z0F) (fun _ => z0F) 0 0 z0F z0F 0 0 0 0 (-1) (-1) z0F 0 z0F z0F 0 z0F 0 z0F 0 z0F 0 (-1) (-1) z0F :=
  ⟨by omega, ⟨SV_0, RS_0⟩, ⟨by omega, by omega, rfl, fun k k0 k1 => absurd k1 (by omega)⟩, ⟨Or.inl rfl, rfl, SV_0, fun h => absurd h (by decide)⟩, ⟨rfl, rfl, fun j j0 j1 => absurd j1 (by omega)⟩, ⟨rfl, rfl, Int.le_refl 0, by decide, fun j j0 j1 => absurd j1 (by omega)⟩, ⟨rfl, rfl, by decide, by decide, by decide, by decide⟩, ⟨Int.le_refl 0, by decide, Int.le_refl 0, by decide, fun j _ _ => ⟨Int.le_refl 0, show (0 : Int) ≤ 9999 by decide⟩⟩, fun j _ _ => ⟨Int.le_refl 0, show (0 : Int) ≤ 9999 by decide⟩⟩
/-- where the object's cells lie -/
def adL (h0 u1 u2 u3 u4 u5 u6 u7 : Nat) (U1 U2 : List Nat) (U3 : List (List Nat)) (U5 U6 U7 : List Nat) : Nat → Nat := fun k => if k = 0 then h0 else if k = 1 then u1 else if k < 24 then U1.getD (k - 2) 0 else if k = 24 then u2 else if k < 27 then U2.getD (k - 25) 0 else if k = 27 then u3 else if k = 28 then u4 else if k < 133 then (U3.getD ((k - 29) / 13) []).getD ((k - 29) % 13) 0 else if k = 133 then u6 else if k < 146 then U6.getD (k - 134) 0 else if k = 146 then u5 else if k < 159 then U5.getD (k - 147) 0 else if k = 159 then u7 else U7.getD (k - 160) 0
def amL (m0 : Nat) (UM : List Nat) : Nat → Nat := fun k => if k = 0 then m0 else UM.getD (k - 1) 0
theorem st_reas (q : Nat × va_E) (O S1 H3 SV BF LN M1 X1 Y1 : va_W) : ((([] ++ (q :: (((((O ++ S1) ++ H3) ++ SV) ++ BF) ++ LN))) ++ M1) ++ X1) ++ Y1 = [[q], O, S1, H3, SV, BF, LN, M1, X1, Y1].flatten := by simp [List.append_assoc]
set_option maxHeartbeats 8000000 in
set_option maxRecDepth 100000 in
theorem whole_start {p : Program} {e : Env} {s : State} {m : MethodId} {below : List Frame} {meth : Method} {c : Code} (l : Launch) (hflags : l.flags = flags0) {b L : Nat} {xs : Nat → Int32} (hL : L ≤ 2560) (C0 : lw_At p s m meth c b L xs) : W p l e room_1 s m #[Value.ref b] below meth c s.heap [] 0 0 (lw_Z below #[Value.ref b] s) (entryFrame m ([Value.ref b] : List Value).toArray 9) := by
  have hst : l.stackTraces = false := by
    unfold Launch.stackTraces
    rw [hflags]
    decide +kernel
  obtain ⟨hx, hb, hrt, hml, hown, hts, hX, hbl, hlocks, hgv⟩ := id C0
  have hts := lw_more hts
  have hA : ∀ q : Nat, s.heap.size ≤ q → lwA s q := fun _ h => h
  have hnA : ∀ q : Nat, q < s.heap.size → ¬ lwA s q := fun _ h => Nat.not_le.mpr h
  obtain ⟨D, tA, hK⟩ := st_K hts
  obtain ⟨K, hZ, hPo⟩ := st_T (A := lwA s) hnA hts hgv
  have hCn := hZ.2.2.2
  have hS : va_S (lwA s) s.heap s.heap [] := va_S.rf
  have hP : va_P D vwCl [] s.heap := fun k q h => by simp at h
  have hD : va_D (lwA s) [] := ⟨fun i j p q h => by simp at h, fun k q h => by simp at h⟩
  have hl := lv_entry ([.ref b]) (n := 9) (Nat.le_of_ble_eq_true rfl)
  rw [lg_entry_eq]
  generalize (lg_sl ([.ref b]) ++ List.replicate (9 - (lg_sl ([.ref b])).length) Slot.unset).toArray = ls at hl ⊢
  have hl : lv_has ls 9 [(0, .ref b)] := hl
  refine zn_new (ci := 12) (fs := [.null, .null, .null, .null, .null, .null, .int (iI 0), .int (iI 0), .int (iI 0)]) (C := RX10) (T := TX10) (N := 9) ⟨hx, hb, hml, hown, hts⟩ inX10 tyX10 tyX10_ok (hts (.classLink RL 8 RX10) (by decide +kernel)) (hts (.instantiable RX10 9) (by decide +kernel)) (hts (.initialized RX10) (by decide +kernel)) rfl (fun j hj => by rcases (show j = 0 ∨ j = 1 ∨ j = 2 ∨ j = 3 ∨ j = 4 ∨ j = 5 ∨ j = 6 ∨ j = 7 ∨ j = 8 by omega) with rfl | rfl | rfl | rfl | rfl | rfl | rfl | rfl | rfl <;> rfl) (fun q sz => c_X10_init l K D tA q sz) (cwI 0 hts (gx_tbl gL_law_X10_init) rfl rfl rfl (hts (.initialized RX10) (by decide +kernel)) (hts (.methodLink RL 155 yX10_init) (by decide +kernel)) (hts (.instanceMethod yX10_init) (by decide +kernel)) rfl (by decide +kernel) ⟨Nat.le_of_ble_eq_true rfl, Nat.le_of_ble_eq_true rfl⟩) hK hP hD hS hA hCn hPo hl.1 dL_law_0 dL_law_3 dL_law_4 ⟨Nat.le_of_ble_eq_true rfl, Nat.le_of_ble_eq_true rfl⟩ (Nat.le_of_ble_eq_true rfl) (fun h0 u H locs hp9 hP hD hS => ?_)
  obtain ⟨⟨u1, U1⟩, ⟨u2, U2⟩, ⟨u3, u4, U3⟩, ⟨u5, U5⟩, ⟨u6, U6⟩, ⟨u7, U7⟩⟩ := u
  refine lv_astore_n (lv' := [(1, .ref h0), (0, .ref b)]) hx hb dL_law_7 rfl hl (by decide) rfl (fun ls hl => ?_)
  refine zn_new (ci := 13) (fs := [.null, .null, .null, .int (iI 0), .null, .int (iI 0), .int (iI 0), .null, .null, .null, .null, .int (iI 0), .null, .int (iI 0), .int (iI 0), .int (iI 0), .int (iI 0), .int (iI 0), .null, .int (iI 0)]) (C := RX11) (T := TX11) (N := 20) ⟨hx, hb, hml, hown, hts⟩ inX11 tyX11 tyX11_ok (hts (.classLink RL 156 RX11) (by decide +kernel)) (hts (.instantiable RX11 20) (by decide +kernel)) (hts (.initialized RX11) (by decide +kernel)) rfl (fun j hj => by rcases (show j = 0 ∨ j = 1 ∨ j = 2 ∨ j = 3 ∨ j = 4 ∨ j = 5 ∨ j = 6 ∨ j = 7 ∨ j = 8 ∨ j = 9 ∨ j = 10 ∨ j = 11 ∨ j = 12 ∨ j = 13 ∨ j = 14 ∨ j = 15 ∨ j = 16 ∨ j = 17 ∨ j = 18 ∨ j = 19 by omega) with rfl | rfl | rfl | rfl | rfl | rfl | rfl | rfl | rfl | rfl | rfl | rfl | rfl | rfl | rfl | rfl | rfl | rfl | rfl | rfl <;> rfl) (fun q sz => c_X11_init l K D tA q sz) (cwI 0 hts (gx_tbl gL_law_X11_init) rfl rfl rfl (hts (.initialized RX11) (by decide +kernel)) (hts (.methodLink RL 158 yX11_init) (by decide +kernel)) (hts (.instanceMethod yX11_init) (by decide +kernel)) rfl (by decide +kernel) ⟨Nat.le_of_ble_eq_true rfl, Nat.le_of_ble_eq_true rfl⟩) hK hP hD hS hA hCn hPo hl.1 dL_law_8 dL_law_11 dL_law_12 ⟨Nat.le_of_ble_eq_true rfl, Nat.le_of_ble_eq_true rfl⟩ (Nat.le_of_ble_eq_true rfl) (fun m0 UM H locs hp9 hP hD hS => ?_)
  refine lv_astore_n (lv' := [(2, .ref m0), (1, .ref h0), (0, .ref b)]) hx hb dL_law_15 rfl hl (by decide) rfl (fun ls hl => ?_)
  refine zz_iconst hx hb dL_law_16 ?_
  refine zn_arr (atype := .long) (ty := .long) 4 hx hb (hts (.arrayClass .long) (by decide +kernel)) rfl rfl hK hP hD hS hA (a0 := (1, .inr (.inl (zAl z0F)))) (N' := 1) (fun _ => rfl) (by decide) (by decide) (by decide) (Nat.le_of_ble_eq_true rfl) (Nat.le_of_ble_eq_true rfl) dL_law_17 (fun o H hP hD hS => ?_)
  refine lv_astore_n (lv' := [(3, .ref o), (2, .ref m0), (1, .ref h0), (0, .ref b)]) hx hb dL_law_19 rfl hl (by decide) rfl (fun ls hl => ?_)
  refine zz_iconst hx hb dL_law_20 ?_
  refine zn_arr (atype := .double) (ty := .double) 5 hx hb (hts (.arrayClass .double) (by decide +kernel)) rfl rfl hK hP hD hS hA (a0 := (1, .inr (.inr (.inr (.inl (fun _ => 0)))))) (N' := 1) (fun _ => rfl) (by decide) (by decide) (by decide) (Nat.le_of_ble_eq_true rfl) (Nat.le_of_ble_eq_true rfl) dL_law_21 (fun od H hP hD hS => ?_)
  refine lv_astore (lv' := [(4, .ref od), (3, .ref o), (2, .ref m0), (1, .ref h0), (0, .ref b)]) hx hb dL_law_23 hl (by decide) rfl (fun ls hl => ?_)
  refine zz_iconst hx hb dL_law_25 ?_
  refine lv_istore (lv' := [(5, .int (iI 0)), (4, .ref od), (3, .ref o), (2, .ref m0), (1, .ref h0), (0, .ref b)]) hx hb dL_law_26 hl (by decide) rfl (fun ls hl => ?_)
  obtain ⟨AD, hAD⟩ : ∃ f : Nat → Nat, f = adL h0 u1 u2 u3 u4 u5 u6 u7 U1 U2 U3 U5 U6 U7 := ⟨_, rfl⟩
  obtain ⟨AM, hAM⟩ : ∃ f : Nat → Nat, f = amL m0 UM := ⟨_, rfl⟩
  rw [st_reas] at hP hD
  have hP : va_P D vwCl ([xObj AD 0 (-1) (-1), xOff tA AD (fun _ => z0F) z0F z0F z0F z0F z0F z0F z0F 0, xScr tA K AD 0 0 z0F z0F 0, xHis tA AD 0 0 (fun _ _ => z0F), xSav tA AD (fun _ => z0F), xBef tA AD (fun _ => z0F), xLin tA AD z0F 0 0, xMod tA AM z0F z0F z0F 0 z0F 0 0 z0F z0F z0F z0F 0 z0F 0 0 0 (-1) (-1) z0F 0, xOut tA o z0F, xOud tA od (fun _ => 0)]).flatten H := by rw [hAD, hAM]; exact hP
  have hD : va_D (lwA s) ([xObj AD 0 (-1) (-1), xOff tA AD (fun _ => z0F) z0F z0F z0F z0F z0F z0F z0F 0, xScr tA K AD 0 0 z0F z0F 0, xHis tA AD 0 0 (fun _ _ => z0F), xSav tA AD (fun _ => z0F), xBef tA AD (fun _ => z0F), xLin tA AD z0F 0 0, xMod tA AM z0F z0F z0F 0 z0F 0 0 z0F z0F z0F z0F 0 z0F 0 0 0 (-1) (-1) z0F 0, xOut tA o z0F, xOud tA od (fun _ => 0)]).flatten := by rw [hAD, hAM]; exact hD
  have hP := zch_P (L' := [xOut tA o z0F, xOud tA od (fun _ => 0), xMod tA AM z0F z0F z0F 0 z0F 0 0 z0F z0F z0F z0F 0 z0F 0 0 0 (-1) (-1) z0F 0, xObj AD 0 (-1) (-1), xOff tA AD (fun _ => z0F) z0F z0F z0F z0F z0F z0F z0F 0, xScr tA K AD 0 0 z0F z0F 0, xHis tA AD 0 0 (fun _ _ => z0F), xBef tA AD (fun _ => z0F), xSav tA AD (fun _ => z0F), xLin tA AD z0F 0 0]) [8, 9, 7, 0, 1, 2, 3, 5, 4, 6] rfl hP
  have hD := zch_D (L' := [xOut tA o z0F, xOud tA od (fun _ => 0), xMod tA AM z0F z0F z0F 0 z0F 0 0 z0F z0F z0F z0F 0 z0F 0 0 0 (-1) (-1) z0F 0, xObj AD 0 (-1) (-1), xOff tA AD (fun _ => z0F) z0F z0F z0F z0F z0F z0F z0F 0, xScr tA K AD 0 0 z0F z0F 0, xHis tA AD 0 0 (fun _ _ => z0F), xBef tA AD (fun _ => z0F), xSav tA AD (fun _ => z0F), xLin tA AD z0F 0 0]) [8, 9, 7, 0, 1, 2, 3, 5, 4, 6] (by decide) rfl hD
  have hl : lv_has ls 9 [(0, .ref b), (1, .ref (AD 0)), (2, .ref (AM 0)), (3, .ref o), (4, .ref od), (5, .int (iI (5 * ((0 : Nat) : Int))))] := by
    rw [hAD, hAM]
    exact lv_sub hl [5, 4, 3, 2, 1, 0] rfl
  refine W.widen (k := 1000 + 20 * 0) (n := 20000 + 200 * 0) (Nat.le_of_ble_eq_true rfl) (Nat.le_of_ble_eq_true rfl) ?_
  exact law_loop hst hL C0 hK hZ (ad := AD) (am := AM) (o := o) (od := od) 513 0 (by decide) (by decide) (fun _ => z0F) z0F z0F z0F z0F z0F z0F z0F 0 0 0 z0F z0F 0 0 0 (fun _ _ => z0F) (fun _ => z0F) (fun _ => z0F) 0 (-1) (-1) z0F 0 0 z0F z0F z0F 0 z0F 0 0 z0F z0F z0F z0F 0 z0F 0 0 0 (-1) (-1) z0F 0 z0F (fun _ => 0) H locs ls LI_0 hP hD hS hl
