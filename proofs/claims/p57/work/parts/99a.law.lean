/-! ===== the law from its entry ===== -/
def lwA (s : State) : Nat → Prop := fun q => s.heap.size ≤ q
theorem xL_in : GoodIn lw_tb2 xL := goodIn_of _ (by decide +kernel)
theorem gx_wr {own : String} {index : Nat} {y : MethodName} {ws : List Cond} (h : GoodIn wsL_law (va_wsS own index y ws)) : GoodIn lw_tb2 (va_wsS own index y (ws ++ xL)) := by
  intro w hw
  unfold va_wsS at hw
  rcases List.mem_append.mp hw with a | a
  · exact gx_tbl h w (by unfold va_wsS; exact List.mem_append_left _ a)
  · rcases List.mem_append.mp a with a | a
    · exact gx_tbl h w (by unfold va_wsS; exact List.mem_append_right _ a)
    · exact xL_in w a
set_option maxHeartbeats 8000000 in
set_option maxRecDepth 100000 in
theorem whole_start {p : Program} {e : Env} {s : State} {m : MethodId} {below : List Frame} {meth : Method} {c : Code} (l : Launch) (hflags : l.flags = flags0) {b L : Nat} {xs : Nat → Int32} (hL : L ≤ 260) (C0 : lw_At p s m meth c b L xs) : W p l e room_1 s m #[Value.ref b] below meth c s.heap [] 0 0 (lw_Z below #[Value.ref b] s) (entryFrame m ([Value.ref b] : List Value).toArray 2) := by
  have hst : l.stackTraces = false := by
    unfold Launch.stackTraces
    rw [hflags]
    decide +kernel
  obtain ⟨hx, hb, hrt, hml, hown, hts, hX, hbl, hlocks, hgv⟩ := id C0
  have hts := lw_more hts
  have hA : ∀ q : Nat, s.heap.size ≤ q → lwA s q := fun _ h => h
  have hnA : ∀ q : Nat, q < s.heap.size → ¬ lwA s q := fun _ h => Nat.not_le.mpr h
  obtain ⟨D, tA, hK⟩ := st_K hts
  obtain ⟨K, hK12, hZ⟩ := st_T (A := lwA s) hnA hts hgv hL hX hbl
  subst hK12
  have hS : va_S (lwA s) s.heap s.heap [] := va_S.rf
  have hP : va_P D vwCl ([] : List va_W).flatten s.heap := fun k q h => by simp at h
  have hD : va_D (lwA s) ([] : List va_W).flatten := ⟨fun i j p q h => by simp at h, fun k q h => by simp at h⟩
  have hl := lv_entry ([.ref (K 12)]) (n := 2) (Nat.le_of_ble_eq_true rfl)
  rw [lg_entry_eq]
  generalize (lg_sl ([.ref (K 12)]) ++ List.replicate (2 - (lg_sl ([.ref (K 12)])).length) Slot.unset).toArray = ls at hl ⊢
  have hl : lv_has ls 2 [(0, .ref (K 12))] := hl
  refine lv_aload_n hx hb dL_law_0 rfl (lv_at hl 0 rfl) ?_
  refine zt_callSr (As := [.ref (K 12)]) (rest := []) (L := []) (Lc := []) (Lr := []) (Lc' := fun (u : (Nat → Nat) × GL) => [zW tA K u.1 u.2]) (Lf := fun (u : (Nat → Nat) × GL) => [zW tA K u.1 u.2]) (is := []) (isF := [0]) ⟨hx, hb, hml, hown, hts⟩ (q_L_drawn hst) (va_cwS 1 hts (gx_wr gL_law_L_drawn) rfl rfl rfl (by decide +kernel) ⟨Nat.le_of_ble_eq_true rfl, Nat.le_of_ble_eq_true rfl⟩) hK hP hD hS hA hZ ⟨rfl, rfl, (by decide)⟩ ⟨fun _ => (List.append_nil _).symm, fun _ => rfl, (by decide)⟩ rfl rfl hl.1 (Nat.le_of_ble_eq_true rfl) dL_law_1 ⟨Nat.le_of_ble_eq_true rfl, Nat.le_of_ble_eq_true rfl⟩ ?_
  rintro ⟨ad, g⟩ H locs hok hP hD hS
  have hok : OKG 18000000 1800 g := hok
  have hP : va_P D vwCl [zW tA K ad g].flatten H := hP
  have hD : va_D (lwA s) [zW tA K ad g].flatten := hD
  refine lv_astore_n (lv' := [(1, .ref (ad 0)), (0, .ref (K 12))]) hx hb dL_law_4 rfl hl (by decide) rfl (fun ls hl => ?_)
  refine lv_aload_n hx hb dL_law_5 rfl (lv_at hl 0 rfl) ?_
  refine lv_ifnull hx hb dL_law_6 ?_
  have hB : (0 ≤ (18000000 : Int) ∧ (18000000 : Int) ≤ 100000000) ∧ (0 ≤ (1800 : Int) ∧ (1800 : Int) ≤ 100000) := ⟨⟨by decide, by decide⟩, ⟨by decide, by decide⟩⟩
  have hr := RDO_refl hok
  refine lv_aload_n hx hb dL_law_9 rfl (lv_at hl 0 rfl) ?_
  refine zt_callSi (As := [.ref (ad 0)]) (rest := []) (L := [zW tA K ad g]) (Lc := [zW tA K ad g]) (Lr := []) (Lc' := fun (u : GL) => [zW tA K ad u]) (Lf := fun (u : GL) => [zW tA K ad u]) (is := [0]) (isF := [0]) ⟨hx, hb, hml, hown, hts⟩ (q_L_legs hst hB hr.1) (va_cwS 1 hts (gx_wr gL_law_L_legs) rfl rfl rfl (by decide +kernel) ⟨Nat.le_of_ble_eq_true rfl, Nat.le_of_ble_eq_true rfl⟩) hK hP hD hS hA hZ (zCut_1 _) (zBack_1 _) rfl rfl hl.1 (Nat.le_of_ble_eq_true rfl) dL_law_10 ⟨Nat.le_of_ble_eq_true rfl, Nat.le_of_ble_eq_true rfl⟩ ?_
  intro z9 g9 H locs hp9 hP hD hS
  have hz : z9 = 1 := hp9.2
  have hr := RDO_trans hr hp9.1
  subst hz
  refine zz_if_eq (tgt := 49) hx hb dL_law_13 (by decide) (by decide) (fun c9 => absurd c9 (by decide)) (fun _ => ?_)
  refine lv_aload_n hx hb dL_law_16 rfl (lv_at hl 0 rfl) ?_
  refine zt_callSi (As := [.ref (ad 0)]) (rest := []) (L := [zW tA K ad g9]) (Lc := [zW tA K ad g9]) (Lr := []) (Lc' := fun (u : GL) => [zW tA K ad u]) (Lf := fun (u : GL) => [zW tA K ad u]) (is := [0]) (isF := [0]) ⟨hx, hb, hml, hown, hts⟩ (q_L_routes hst hB hr.1) (va_cwS 1 hts (gx_wr gL_law_L_routes) rfl rfl rfl (by decide +kernel) ⟨Nat.le_of_ble_eq_true rfl, Nat.le_of_ble_eq_true rfl⟩) hK hP hD hS hA hZ (zCut_1 _) (zBack_1 _) rfl rfl hl.1 (Nat.le_of_ble_eq_true rfl) dL_law_17 ⟨Nat.le_of_ble_eq_true rfl, Nat.le_of_ble_eq_true rfl⟩ ?_
  intro z16 g16 H locs hp9 hP hD hS
  have hz : z16 = 1 := hp9.2
  have hr := RDO_trans hr hp9.1
  subst hz
  refine zz_if_eq (tgt := 49) hx hb dL_law_20 (by decide) (by decide) (fun c9 => absurd c9 (by decide)) (fun _ => ?_)
  refine lv_aload_n hx hb dL_law_23 rfl (lv_at hl 0 rfl) ?_
  refine zt_callSi (As := [.ref (ad 0)]) (rest := []) (L := [zW tA K ad g16]) (Lc := [zW tA K ad g16]) (Lr := []) (Lc' := fun (u : GL) => [zW tA K ad u]) (Lf := fun (u : GL) => [zW tA K ad u]) (is := [0]) (isF := [0]) ⟨hx, hb, hml, hown, hts⟩ (q_L_subscribers hst hB hr.1) (va_cwS 1 hts (gx_wr gL_law_L_subscribers) rfl rfl rfl (by decide +kernel) ⟨Nat.le_of_ble_eq_true rfl, Nat.le_of_ble_eq_true rfl⟩) hK hP hD hS hA hZ (zCut_1 _) (zBack_1 _) rfl rfl hl.1 (Nat.le_of_ble_eq_true rfl) dL_law_24 ⟨Nat.le_of_ble_eq_true rfl, Nat.le_of_ble_eq_true rfl⟩ ?_
  intro z23 g23 H locs hp9 hP hD hS
  have hz : z23 = 1 := hp9.2
  have hr := RDO_trans hr hp9.1
  subst hz
  refine zz_if_eq (tgt := 49) hx hb dL_law_27 (by decide) (by decide) (fun c9 => absurd c9 (by decide)) (fun _ => ?_)
  refine lv_aload_n hx hb dL_law_30 rfl (lv_at hl 0 rfl) ?_
  refine zt_callSi (As := [.ref (ad 0)]) (rest := []) (L := [zW tA K ad g23]) (Lc := [zW tA K ad g23]) (Lr := []) (Lc' := fun (u : GL) => [zW tA K ad u]) (Lf := fun (u : GL) => [zW tA K ad u]) (is := [0]) (isF := [0]) ⟨hx, hb, hml, hown, hts⟩ (q_L_lines hst hB hr.1 (by decide)) (va_cwS 1 hts (gx_wr gL_law_L_lines) rfl rfl rfl (by decide +kernel) ⟨Nat.le_of_ble_eq_true rfl, Nat.le_of_ble_eq_true rfl⟩) hK hP hD hS hA hZ (zCut_1 _) (zBack_1 _) rfl rfl hl.1 (Nat.le_of_ble_eq_true rfl) dL_law_31 ⟨Nat.le_of_ble_eq_true rfl, Nat.le_of_ble_eq_true rfl⟩ ?_
  intro z30 g30 H locs hp9 hP hD hS
  have hz : z30 = 1 := hp9.2
  have hr := RDO_trans hr hp9.1
  subst hz
  refine zz_if_eq (tgt := 49) hx hb dL_law_34 (by decide) (by decide) (fun c9 => absurd c9 (by decide)) (fun _ => ?_)
  refine lv_aload_n hx hb dL_law_37 rfl (lv_at hl 1 rfl) ?_
  refine lv_aload_n hx hb dL_law_38 rfl (lv_at hl 0 rfl) ?_
  refine zt_callSi (As := [.ref (K 12), .ref (ad 0)]) (rest := []) (L := [zW tA K ad g30]) (Lc := [zW tA K ad g30]) (Lr := []) (Lc' := fun (u : GL) => [zW tA K ad u]) (Lf := fun (u : GL) => [zW tA K ad u]) (is := [0]) (isF := [0]) ⟨hx, hb, hml, hown, hts⟩ (q_L_undone hst hB hr.1 ⟨by decide, by decide⟩) (va_cwS 2 hts (gx_wr gL_law_L_undone) rfl rfl rfl (by decide +kernel) ⟨Nat.le_of_ble_eq_true rfl, Nat.le_of_ble_eq_true rfl⟩) hK hP hD hS hA hZ (zCut_1 _) (zBack_1 _) rfl rfl hl.1 (Nat.le_of_ble_eq_true rfl) dL_law_39 ⟨Nat.le_of_ble_eq_true rfl, Nat.le_of_ble_eq_true rfl⟩ ?_
  intro z37 g37 H locs hp9 hP hD hS
  have hz : z37 = 1 := hp9
  subst hz
  refine zz_if_eq (tgt := 49) hx hb dL_law_42 (by decide) (by decide) (fun c9 => absurd c9 (by decide)) (fun _ => ?_)
  refine lv_iconst (v := 1) hx hb dL_law_45 (by decide) ?_
  refine lv_goto (tgt := 50) hx hb dL_law_46 (by decide) ?_
  refine va_forget (fun q hq => hS.2.2 q hq) ?_
  refine W.widen (k := 687054) (n := 7032349) (Nat.le_of_ble_eq_true rfl) (Nat.le_of_ble_eq_true rfl) ?_
  refine W.base ?_
  exact lw_ret (Drawn.sameBut.refl s.drawn lw_cs) hx hb hrt hlocks dL_law_50
