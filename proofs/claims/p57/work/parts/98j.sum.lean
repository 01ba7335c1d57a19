/-! ===== p57: the law's execute, undo, sum ===== -/
section ZLG
variable {p : Program} {l : Launch} {e : Env} {R : Room} {s : State} {m : MethodId} {args : Array Value} {below : List Frame} {meth : Method} {c : Code} {H : Heap} {locs : List Loc} {cells slots : Nat} {Q : State → Prop}
variable {cc : ByteArray} {pc : Nat} {ls : Array Slot} {rest : List Value}
theorem zz_lmul (hx : p.tables.exec = Jvm.exec) (hb : c.code = cc) {x y : Int} (hd : decode cc pc = .ok (.lmul, 1)) (k : W p l e R s m args below meth c H locs cells slots Q (F0 m (pc + 1) ls (.long (lI (x * y)) :: rest))) : W p l e R s m args below meth c H locs cells slots Q (F0 m pc ls (.long (lI y) :: .long (lI x) :: rest)) := lv_lmul hx hb hd (by rw [show lI x * lI y = lI (x * y) from (Int64.ofInt_mul x y).symm]; exact k)
theorem zz_ldc2 (hx : p.tables.exec = Jvm.exec) (hb : c.code = cc) {own : String} {index : Nat} {n : Int} {v : Int64} (hown : s.vm.findClass own = some m.cls) (hconst : (Jvm.Cond.constantLong own index v).before args s = true) (hv : v = lI n) (hdg : decode cc pc = .ok (.ldc2_w index, 3)) (k : W p l e R s m args below meth c H locs cells slots Q (F0 m (pc + 3) ls (.long (lI n) :: rest))) : W p l e R s m args below meth c H locs cells slots Q (F0 m pc ls rest) := by
  subst hv
  exact lv_ldc2 hx hb hown hconst hdg k
theorem zz_lcmpE (hx : p.tables.exec = Jvm.exec) (hb : c.code = cc) {x : Int64} (hd : decode cc pc = .ok (.lcmp, 1)) (k : W p l e R s m args below meth c H locs cells slots Q (F0 m (pc + 1) ls (.int (iI 0) :: rest))) : W p l e R s m args below meth c H locs cells slots Q (F0 m pc ls (.long x :: .long x :: rest)) := by
  refine zl_lcmp hx hb hd ?_
  have hn : ¬ (x > x) := fun h => absurd (Int64.lt_iff_toInt_lt.mp h) (by omega)
  rw [if_neg hn, if_pos rfl]
  exact k
end ZLG
theorem wOp_rd {B N : Int} {g g1 g2 : GL} {z : Int} (r : RDO B N g g1) (h : wOp B N g1 g2 z) : wOp B N g g2 z := by
  rcases h with h | ⟨h1, h2, h3, h4, h5⟩
  · exact Or.inl ⟨h.1, RDO_trans r h.2⟩
  · obtain ⟨-, e0, e1, e2, e3⟩ := r
    refine Or.inr ⟨h1, h2, ?_, ?_, ?_⟩
    · rw [h3, e1]
    · rw [h4, e2]
    · rw [h5, e3, e2, e0]
def suN (F : Int → Int → Int) (h0 : Int) : Nat → Int
  | 0 => h0
  | n + 1 => F n (suN F h0 n)
theorem suN_s {F : Int → Int → Int} {h0 k : Int} (hk : 0 ≤ k) : suN F h0 (k + 1).toNat = F k (suN F h0 k.toNat) := by
  rw [show (k + 1).toNat = k.toNat + 1 by omega]
  show F ((k.toNat : Nat) : Int) (suN F h0 k.toNat) = F k (suN F h0 k.toNat)
  rw [Int.toNat_of_nonneg hk]
def suA (v : Nat → Int → Int) (k h : Int) : Int := 41 * (37 * h + 10 * v 2 k + v 3 k) + 10000 * v 4 k + 100 * v 5 k + v 6 k
def suB (v : Nat → Int → Int) (k h : Int) : Int := 53 * (47 * (43 * h + 10 * v 8 k + v 9 k) + v 10 k) + 100 * v 11 k + v 12 k
def su0 (v : Nat → Int → Int) : Int := 31 * (31 * (31 * (7 + v 14 0) + 100 * v 13 0 + v 15 0) + v 16 0) + v 17 0
def sumV (v : Nat → Int → Int) : Int := suN (suB v) (suN (suA v) (su0 v) (v 1 0).toNat) (v 7 0).toNat + 59 * v 0 0
theorem sumV_e (v : Nat → Int → Int) : sumV (eSv v) = sumV v := rfl
set_option maxHeartbeats 4000000 in
set_option maxRecDepth 20000 in
theorem q_L_typeb {l : Launch} (hst : l.stackTraces = false) {K : Nat → Nat} {D : va_G} {tA : Nat → ClassId} {ad : Nat → Nat} {sz : Nat} {B N : Int} {g : GL} (hB : (0 ≤ B ∧ B ≤ 100000000) ∧ (0 ≤ N ∧ N ≤ 100000)) (hok : OKG B N g) (ch : Int) (r_ch : -2147483648 ≤ ch ∧ ch ≤ 2147483647) (hch9 : 0 ≤ ch ∧ ch ≤ 65535) : zHi l yL_type (wsL_type ++ xL) ({ frames := 7, cells := 1, slots := 6, locals := 111 }) K D tA [.ref (ad 0), .int (iI ch)] (zW tA K ad g) sz (fun (z : Int) (g' : GL) => RDO B N g g' ∧ (-20 ≤ z ∧ z ≤ 60) ∧ (0 ≤ z → z = GL_len g + 1 ∧ z ≤ 60 ∧ GL_len g' = z)) (fun g' => zW tA K ad g') 1 6 := by
  refine zHi_of (cc := cL_type) (maxL := 3) (hh := [(0, 5, 6, 22), (0, 5, 10, 14)]) (by decide) rfl (fun z u h => rfl) (Nat.le_of_ble_eq_true rfl) ?_
  intro p e s m args below meth c A Q ls hx hb hml hts hown hK hP hD hA hZ htb hret hl
  obtain ⟨H, hHe⟩ : ∃ H : Heap, H = s.heap := ⟨_, rfl⟩
  have hS : va_S A s.heap H [] := by rw [hHe]; exact va_S.rf
  rw [← hHe] at hP ⊢
  have hl : lv_has ls 3 [(0, .ref (ad 0)), (1, .int (iI ch))] := hl
  refine lv_aload_n hx hb dL_type_0 rfl (lv_at hl 0 rfl) ?_
  refine lv_iload_n hx hb dL_type_1 rfl (lv_at hl 1 rfl) ?_
  refine zx_callVi_ch (As := [.int (iI ch)]) (rest := []) (L := [zW tA K ad g]) (Lc := [zW tA K ad g]) (Lr := []) (Lc' := fun (u : GL) => [zW tA K ad u]) (Lf := fun (u : GL) => [zW tA K ad u]) (Lx := fun (u : Int × GL) => [zW tA K ad u.2]) (Lfx := fun (u : Int × GL) => [zW tA K ad u.2]) (is := [0]) (isF := [0]) (isX := [0]) ⟨hx, hb, hml, hown, hts⟩ (q_X10_type hst hB hok ch r_ch hch9) (cwV 1 hts (goodIn_wid gL_type_X10_type) rfl rfl rfl (by decide +kernel) ⟨Nat.le_of_ble_eq_true rfl, Nat.le_of_ble_eq_true rfl⟩) hK (zP_i hP) (zD_i hD) hS hA hZ (zCut_1 _) (zBack_1 _) (zBack_1 _) (ci := 12) (q0 := 0) rfl rfl (zW_0 tA K ad g) rfl rfl hl.1 (Nat.le_of_ble_eq_true rfl) dL_type_2 ⟨Nat.le_of_ble_eq_true rfl, Nat.le_of_ble_eq_true rfl⟩ ?_ ?_
  · intro E ce q9 u H locs hpx hP hD hS hce hcv hcl
    obtain ⟨hex, hrd, hth⟩ := hpx
    rcases hex with ⟨hk, hE⟩ | ⟨hk, hE⟩ | ⟨hk, hE⟩ | ⟨hk, hE⟩ | ⟨hk, hE⟩ | ⟨hk, hE⟩
    · exfalso
      first | omega | (have h8 := hth.1; omega) | (rcases hth with h9 | h9 <;> (have h8 := h9.1; omega)) | (rcases hth with h9 | h9 | h9 <;> (have h8 := h9.1; omega)) 
    · refine zz_catch hZ hown [] ⟨0, 5, 6, 22⟩ [⟨0, 5, 10, 14⟩] htb rfl hE (by decide) (fun z hz => absurd hz List.not_mem_nil) (by decide) (by decide) (hts (.classLink RL 22 "java/lang/IllegalArgumentException") (List.mem_append_right _ (by decide +kernel))) hce hcv hcl ?_
      refine W.eq (g2 := F0 m 6 ls [.ref q9]) rfl ?_
      refine lv_astore_n (lv' := [(2, .ref q9), (0, .ref (ad 0)), (1, .int (iI ch))]) hx hb dL_type_6 rfl hl (by decide) rfl (fun ls hl => ?_)
      refine zz_bipush hx hb dL_type_7 rfl ?_
      have hfin : (fun (z : Int) (g' : GL) => RDO B N g g' ∧ (-20 ≤ z ∧ z ≤ 60) ∧ (0 ≤ z → z = GL_len g + 1 ∧ z ≤ 60 ∧ GL_len g' = z)) (-12) u.2 := by
        exact ⟨hrd, by decide, fun h => absurd h (by decide)⟩
      exact hret (-12) u.2 H locs _ _ _ _ (Nat.le_of_ble_eq_true rfl) (Nat.le_of_ble_eq_true rfl) dL_type_9 hfin (zP_o hP) (zD_o hD) hS
    · refine zz_catch hZ hown [⟨0, 5, 6, 22⟩] ⟨0, 5, 10, 14⟩ [] htb rfl hE (by decide) (List.forall_mem_cons.mpr ⟨⟨by decide, "java/lang/IllegalArgumentException", by decide, by decide, hts (.classLink RL 22 "java/lang/IllegalArgumentException") (List.mem_append_right _ (by decide +kernel))⟩, fun z hz => absurd hz List.not_mem_nil⟩) (by decide) (by decide) (hts (.classLink RL 14 "java/lang/IllegalStateException") (List.mem_append_right _ (by decide +kernel))) hce hcv hcl ?_
      refine W.eq (g2 := F0 m 10 ls [.ref q9]) rfl ?_
      refine lv_astore_n (lv' := [(2, .ref q9), (0, .ref (ad 0)), (1, .int (iI ch))]) hx hb dL_type_10 rfl hl (by decide) rfl (fun ls hl => ?_)
      refine zz_bipush hx hb dL_type_11 rfl ?_
      have hfin : (fun (z : Int) (g' : GL) => RDO B N g g' ∧ (-20 ≤ z ∧ z ≤ 60) ∧ (0 ≤ z → z = GL_len g + 1 ∧ z ≤ 60 ∧ GL_len g' = z)) (-14) u.2 := by
        exact ⟨hrd, by decide, fun h => absurd h (by decide)⟩
      exact hret (-14) u.2 H locs _ _ _ _ (Nat.le_of_ble_eq_true rfl) (Nat.le_of_ble_eq_true rfl) dL_type_13 hfin (zP_o hP) (zD_o hD) hS
    · exfalso
      first | omega | (have h8 := hth.1; omega) | (rcases hth with h9 | h9 <;> (have h8 := h9.1; omega)) | (rcases hth with h9 | h9 | h9 <;> (have h8 := h9.1; omega)) 
    · exfalso
      first | omega | (have h8 := hth.1; omega) | (rcases hth with h9 | h9 <;> (have h8 := h9.1; omega)) | (rcases hth with h9 | h9 | h9 <;> (have h8 := h9.1; omega)) 
    · exfalso
      first | omega | (have h8 := hth.1; omega) | (rcases hth with h9 | h9 <;> (have h8 := h9.1; omega)) | (rcases hth with h9 | h9 | h9 <;> (have h8 := h9.1; omega)) 
  · intro z g2 H locs hp hP hD hS
    have hfin : (fun (z : Int) (g' : GL) => RDO B N g g' ∧ (-20 ≤ z ∧ z ≤ 60) ∧ (0 ≤ z → z = GL_len g + 1 ∧ z ≤ 60 ∧ GL_len g' = z)) z g2 := by
      have h8 := hok.2.2.2.1.1
      have h9 := hp.2
      exact ⟨hp.1, by omega, fun _ => hp.2⟩
    exact hret z g2 H locs _ _ _ _ (Nat.le_of_ble_eq_true rfl) (Nat.le_of_ble_eq_true rfl) dL_type_5 hfin (zP_o hP) (zD_o hD) hS
set_option maxHeartbeats 4000000 in
set_option maxRecDepth 20000 in
theorem q_L_execute {l : Launch} (hst : l.stackTraces = false) {K : Nat → Nat} {D : va_G} {tA : Nat → ClassId} {ad : Nat → Nat} {sz : Nat} {B N : Int} {g : GL} (hB : (0 ≤ B ∧ B ≤ 100000000) ∧ (0 ≤ N ∧ N ≤ 100000)) (hok : OKG B N g) (qs qa : Nat) (tx : List Int) (hchr : ∀ v ∈ tx, 0 ≤ v ∧ v ≤ 127) (hsn : tx.length ≤ 64) : zHi l yL_execute (wsL_execute ++ xL) ({ frames := 10, cells := 66, slots := 396, locals := 215 }) K D tA [.ref (ad 0), .ref qs] [zW tA K ad g, bStr tA qs qa tx].flatten sz (fun (z : Int) (g' : GL) => wOp B N g g' z) (fun g' => zW tA K ad g') 66 396 := by
  refine zHi_ofC (cc := cL_execute) (maxL := 3) (by decide) rfl (fun z u h => rfl) (Nat.le_of_ble_eq_true rfl) ?_
  intro p e s m args below meth c A Q ls hx hb hml hts hown hK hP hD hA hZ hret hl
  obtain ⟨H, hHe⟩ : ∃ H : Heap, H = s.heap := ⟨_, rfl⟩
  have hS : va_S A s.heap H [] := by rw [hHe]; exact va_S.rf
  rw [← hHe] at hP ⊢
  have hr : RDO B N g g := RDO_refl hok
  have hl : lv_has ls 3 [(0, .ref (ad 0)), (1, .ref qs)] := hl
  obtain ⟨hokv, hhn, hhc, hln, htx, hva, hcm, hlc, hlb⟩ := id hok
  obtain ⟨hsv, hnv⟩ := id hokv
  obtain ⟨hch, hu, hcc, hsp, hmo, hfg, hrg, hni, hfd, hmt, hld, hbr⟩ := SVk_out (show SVk B N (eSv (GL_v g)) from hsv)
  have hpp : 0 ≤ GL_v g 0 0 ∧ GL_v g 0 0 ≤ 10 := ⟨hch.1, hch.2.1⟩
  have hlg : 0 ≤ GL_v g 1 0 ∧ GL_v g 1 0 ≤ 20 := ⟨hch.2.2.1, hch.2.2.2.1⟩
  refine zz_iconst hx hb dL_execute_0 ?_
  refine lv_istore_n (lv' := [(2, .int (iI 0)), (0, .ref (ad 0)), (1, .ref qs)]) hx hb dL_execute_1 rfl hl (by decide) rfl (fun ls hl => ?_)
  have L2 : ∀ (f9 : Nat) (k_ : Int) (g2 : GL) (k9 : Nat) (n9 : Nat) (H : Heap) (locs : List Loc) (ls : Array Slot), (RDO B N g g2) → (0 ≤ k_ ∧ k_ ≤ ((tx.length : Nat) : Int)) → (((k9 : Nat) : Int) ≤ k_ ∧ ((n9 : Nat) : Int) ≤ 6 * (k_)) → (((tx.length : Nat) : Int) - k_).toNat < f9 → va_P D vwCl [zW tA K ad g2, bStr tA qs qa tx].flatten H → va_D A [zW tA K ad g2, bStr tA qs qa tx].flatten → va_S A s.heap H locs → lv_has ls 3 [(2, .int (iI k_)), (0, .ref (ad 0)), (1, .ref qs)] → W p l e (headSpec (wsL_execute ++ xL) ({ frames := 10, cells := 66, slots := 396, locals := 215 })).room s m args below meth c H locs k9 n9 Q (F0 m 2 ls []) := by
    intro f9
    induction f9 with
    | zero => intro k_ g2 k9 n9 H locs ls hr hk hk9 hmz; exact absurd hmz (Nat.not_lt_zero _)
    | succ f9 ih2 =>
      intro k_ g2 k9 n9 H locs ls hr hk hk9 hmz hP hD hS hl
      refine lv_iload_n hx hb dL_execute_2 rfl (lv_at hl 0 rfl) ?_
      refine lv_aload_n hx hb dL_execute_3 rfl (lv_at hl 2 rfl) ?_
      refine zc_callVi_ch (As := []) (rest := [.int (iI k_)]) (L := [zW tA K ad g2, bStr tA qs qa tx]) (Lc := [bStr tA qs qa tx]) (Lr := [zW tA K ad g2]) (Lc' := fun (u : Unit) => [bStr tA qs qa tx]) (Lf := fun (u : Unit) => [zW tA K ad g2, bStr tA qs qa tx]) (is := [1, 0]) (isF := [0, 1]) ⟨hx, hb, hml, hown, hts⟩ (c_J0_length_8abf5_S l K D tA qs qa H.size tx hsn) (cwV 0 hts (goodIn_wid gL_execute_J0_length_8abf5) rfl rfl rfl (by decide +kernel) ⟨Nat.le_of_ble_eq_true rfl, Nat.le_of_ble_eq_true rfl⟩) hK hP hD hS hA hZ.2.2.2 ⟨rfl, rfl, (by decide)⟩ ⟨fun _ => rfl, fun _ => rfl, (by decide)⟩ (ci := 0) (q0 := 0) rfl rfl rfl rfl rfl hl.1 (Nat.le_of_ble_eq_true rfl) dL_execute_4 (by show _ + 0 ≤ 66 ∧ _ + 0 ≤ 396; omega) ?_
      intro z4_0 u H locs q4 hP hD hS
      have hz4 : z4_0 = ((tx.length : Nat) : Int) := q4
      subst hz4
      refine zz_icmp_ge (tgt := 34) hx hb dL_execute_7 (by decide) (by omega) (by omega) (fun c_7 => ?_) (fun c_7 => ?_)
      · refine lv_aload_n hx hb dL_execute_34 rfl (lv_at hl 1 rfl) ?_
        refine zh_callSi_ch (As := [.ref (ad 0)]) (rest := []) (L := [zW tA K ad g2, bStr tA qs qa tx]) (Lc := [zW tA K ad g2]) (Lr := [bStr tA qs qa tx]) (Lc' := fun (u : GL) => [zW tA K ad u]) (Lf := fun (u : GL) => [zW tA K ad u, bStr tA qs qa tx]) (is := [0, 1]) (isF := [1, 0]) ⟨hx, hb, hml, hown, hts⟩ (q_L_executes hst hB hr.1  ) (vx_cwSW 1 hts (gx_ww gL_execute_L_executes) rfl rfl rfl (by decide +kernel) ⟨Nat.le_of_ble_eq_true rfl, Nat.le_of_ble_eq_true rfl⟩) hK hP hD hS hA hZ ⟨(List.append_nil _).symm, rfl, (by decide)⟩ ⟨fun _ => (List.append_nil _).symm, fun _ => rfl, (by decide)⟩ rfl rfl hl.1 (Nat.le_of_ble_eq_true rfl) dL_execute_35 (by show _ + 1 ≤ 66 ∧ _ + 6 ≤ 396; omega) ?_
        intro z35_2 g35_1 H locs hp9 hP hD hS
        have hfin : (fun (z : Int) (g' : GL) => wOp B N g g' z) z35_2 g35_1 := by
          exact wOp_rd hr hp9
        exact hret z35_2 g35_1 H locs _ _ _ _ (by omega) (by omega) dL_execute_38 hfin (zap_Pc hP) (zap_Dc hD) hS
      · refine lv_aload_n hx hb dL_execute_10 rfl (lv_at hl 1 rfl) ?_
        refine lv_aload_n hx hb dL_execute_11 rfl (lv_at hl 2 rfl) ?_
        refine lv_iload_n hx hb dL_execute_12 rfl (lv_at hl 0 rfl) ?_
        refine zc_callVi_ch (As := [.int (iI k_)]) (rest := [.ref (ad 0)]) (L := [zW tA K ad g2, bStr tA qs qa tx]) (Lc := [bStr tA qs qa tx]) (Lr := [zW tA K ad g2]) (Lc' := fun (u : Unit) => [bStr tA qs qa tx]) (Lf := fun (u : Unit) => [zW tA K ad g2, bStr tA qs qa tx]) (is := [1, 0]) (isF := [0, 1]) ⟨hx, hb, hml, hown, hts⟩ (c_J0_charAt_5068e_S l K D tA qs qa H.size tx k_ (by omega) hchr hsn ⟨by omega, by omega⟩) (cwV 1 hts (goodIn_wid gL_execute_J0_charAt_5068e) rfl rfl rfl (by decide +kernel) ⟨Nat.le_of_ble_eq_true rfl, Nat.le_of_ble_eq_true rfl⟩) hK hP hD hS hA hZ.2.2.2 ⟨rfl, rfl, (by decide)⟩ ⟨fun _ => rfl, fun _ => rfl, (by decide)⟩ (ci := 0) (q0 := 0) rfl rfl rfl rfl rfl hl.1 (Nat.le_of_ble_eq_true rfl) dL_execute_13 (by show _ + 0 ≤ 66 ∧ _ + 0 ≤ 396; omega) ?_
        intro z13_3 u H locs q13 hP hD hS
        refine zh_callSi_ch (As := [.ref (ad 0), .int (iI z13_3)]) (rest := []) (L := [zW tA K ad g2, bStr tA qs qa tx]) (Lc := [zW tA K ad g2]) (Lr := [bStr tA qs qa tx]) (Lc' := fun (u : GL) => [zW tA K ad u]) (Lf := fun (u : GL) => [zW tA K ad u, bStr tA qs qa tx]) (is := [0, 1]) (isF := [1, 0]) ⟨hx, hb, hml, hown, hts⟩ (q_L_typeb hst hB hr.1 z13_3 (by omega) (by omega)) (vx_cwSW 2 hts (gx_ww gL_execute_L_type) rfl rfl rfl (by decide +kernel) ⟨Nat.le_of_ble_eq_true rfl, Nat.le_of_ble_eq_true rfl⟩) hK hP hD hS hA hZ ⟨(List.append_nil _).symm, rfl, (by decide)⟩ ⟨fun _ => (List.append_nil _).symm, fun _ => rfl, (by decide)⟩ rfl rfl hl.1 (Nat.le_of_ble_eq_true rfl) dL_execute_16 (by show _ + 1 ≤ 66 ∧ _ + 6 ≤ 396; omega) ?_
        intro z16_5 g16_4 H locs hp9 hP hD hS
        have q16 := hp9.2
        try rw [hr.2.1] at q16
        have hr := RDO_trans hr hp9.1
        clear hp9
        refine lv_iload_n hx hb dL_execute_19 rfl (lv_at hl 0 rfl) ?_
        refine zz_iconst hx hb dL_execute_20 ?_
        refine zz_iadd hx hb dL_execute_21 ?_
        refine zz_icmp_eq (tgt := 28) hx hb dL_execute_22 (by decide) (by omega) (by omega) (fun c_22 => ?_) (fun c_22 => ?_)
        · refine zz_iinc (lv' := [(2, .int (iI (k_ + 1))), (0, .ref (ad 0)), (1, .ref qs)]) hx hb dL_execute_28 hl (k := 0) rfl (by decide) rfl (fun ls hl => ?_)
          refine lv_goto (tgt := 2) hx hb dL_execute_31 (by decide) ?_
          exact ih2 (k_ + 1) g16_4 _ _ _ _ _ (by exact hr) (by omega) (by omega) (by omega) hP hD hS (lv_sub hl [0, 1, 2] rfl)
        · refine zz_bipush hx hb dL_execute_25 (by decide) ?_
          have hfin : (fun (z : Int) (g' : GL) => wOp B N g g' z) ((-9) : Int) g16_4 := by
            exact Or.inl ⟨by decide, hr⟩
          exact hret ((-9)) g16_4 H locs _ _ _ _ (by omega) (by omega) dL_execute_27 hfin (zap_Pc hP) (zap_Dc hD) hS
  exact L2 _ 0 g _ _ _ _ _ (by exact hr) (by omega) (by omega) (Nat.lt_succ_self _) hP hD hS (lv_sub hl [0, 1, 2] rfl)
set_option maxHeartbeats 4000000 in
set_option maxRecDepth 20000 in
theorem q_L_undo {l : Launch} (hst : l.stackTraces = false) {K : Nat → Nat} {D : va_G} {tA : Nat → ClassId} {ad : Nat → Nat} {sz : Nat} {B N : Int} {g : GL} (hB : (0 ≤ B ∧ B ≤ 100000000) ∧ (0 ≤ N ∧ N ≤ 100000)) (hok : OKG B N g) {x : Nat → Int → Int} {Ls : List (Nat → Int → Int)} (hxs : OKs B N x) (hH : HtS g (x :: Ls)) : zHi l yL_undo (wsL_undo ++ xL) ({ frames := 7, cells := 1, slots := 6, locals := 125 }) K D tA [.ref (ad 0)] (zW tA K ad g) sz (fun (z : Int) (g' : GL) => OKG B N g' ∧ 0 ≤ z ∧ GL_v g' = eSv x ∧ HtS g' Ls) (fun g' => zW tA K ad g') 1 6 := by
  refine zHi_of (cc := cL_undo) (maxL := 2) (hh := [(0, 4, 5, 14)]) (by decide) rfl (fun z u h => rfl) (Nat.le_of_ble_eq_true rfl) ?_
  intro p e s m args below meth c A Q ls hx hb hml hts hown hK hP hD hA hZ htb hret hl
  obtain ⟨H, hHe⟩ : ∃ H : Heap, H = s.heap := ⟨_, rfl⟩
  have hS : va_S A s.heap H [] := by rw [hHe]; exact va_S.rf
  rw [← hHe] at hP ⊢
  have hl : lv_has ls 2 [(0, .ref (ad 0))] := hl
  refine lv_aload_n hx hb dL_undo_0 rfl (lv_at hl 0 rfl) ?_
  refine zt_callVi (As := []) (rest := []) (L := [zW tA K ad g]) (Lc := [zW tA K ad g]) (Lr := []) (Lc' := fun (u : GL) => [zW tA K ad u]) (Lf := fun (u : GL) => [zW tA K ad u]) (is := [0]) (isF := [0]) ⟨hx, hb, hml, hown, hts⟩ (q_X10_undo hst hB hok hxs hH) (cwV 0 hts (goodIn_wid gL_undo_X10_undo) rfl rfl rfl (by decide +kernel) ⟨Nat.le_of_ble_eq_true rfl, Nat.le_of_ble_eq_true rfl⟩) hK (zP_i hP) (zD_i hD) hS hA hZ (zCut_1 _) (zBack_1 _) (ci := 12) (q0 := 0) rfl rfl (zW_0 tA K ad g) rfl rfl hl.1 (Nat.le_of_ble_eq_true rfl) dL_undo_1 ⟨Nat.le_of_ble_eq_true rfl, Nat.le_of_ble_eq_true rfl⟩ ?_
  intro z g2 H locs hp hP hD hS
  exact hret z g2 H locs _ _ _ _ (Nat.le_of_ble_eq_true rfl) (Nat.le_of_ble_eq_true rfl) dL_undo_4 hp (zP_o hP) (zD_o hD) hS
set_option maxHeartbeats 4000000 in
set_option maxRecDepth 20000 in
theorem q_L_sum {l : Launch} (hst : l.stackTraces = false) {K : Nat → Nat} {D : va_G} {tA : Nat → ClassId} {ad : Nat → Nat} {sz : Nat} {B N : Int} {g : GL} (hB : (0 ≤ B ∧ B ≤ 100000000) ∧ (0 ≤ N ∧ N ≤ 100000)) (hok : OKG B N g)  : zHl l yL_sum (wsL_sum ++ xL) ({ frames := 9, cells := 1000, slots := 6000, locals := 156 }) K D tA [.ref (ad 0)] (zW tA K ad g) sz (fun (z : Int) (g' : GL) => RDO B N g g' ∧ z = sumV (GL_v g)) (fun g' => zW tA K ad g') 1000 6000 := by
  refine zHl_ofC (cc := cL_sum) (maxL := 6) (by decide) rfl  (Nat.le_of_ble_eq_true rfl) ?_
  intro p e s m args below meth c A Q ls hx hb hml hts hown hK hP hD hA hZ hret hl
  obtain ⟨H, hHe⟩ : ∃ H : Heap, H = s.heap := ⟨_, rfl⟩
  have hS : va_S A s.heap H [] := by rw [hHe]; exact va_S.rf
  rw [← hHe] at hP ⊢
  have hP := zP_i hP
  have hD := zD_i hD
  have hr : RDO B N g g := RDO_refl hok
  have hl : lv_has ls 6 [(0, .ref (ad 0))] := hl
  obtain ⟨hokv, hhn, hhc, hln, htx, hva, hcm, hlc, hlb⟩ := id hok
  obtain ⟨hsv, hnv⟩ := id hokv
  obtain ⟨hch, hu, hcc, hsp, hmo, hfg, hrg, hni, hfd, hmt, hld, hbr⟩ := SVk_out (show SVk B N (eSv (GL_v g)) from hsv)
  have hpp : 0 ≤ GL_v g 0 0 ∧ GL_v g 0 0 ≤ 10 := ⟨hch.1, hch.2.1⟩
  have hlg : 0 ≤ GL_v g 1 0 ∧ GL_v g 1 0 ≤ 20 := ⟨hch.2.2.1, hch.2.2.2.1⟩
  refine zz_ldc2 (n := 7) hx hb hown (hts (.constantLong RL 346 (7)) (by decide +kernel)) (by decide) dL_sum_0 ?_
  refine lv_aload_n hx hb dL_sum_3 rfl (lv_at hl 0 rfl) ?_
  refine zt_callVi (As := []) (rest := [.long (lI 7)]) (L := [zW tA K ad g]) (Lc := [zW tA K ad g]) (Lr := []) (Lc' := fun (u : GL) => [zW tA K ad u]) (Lf := fun (u : GL) => [zW tA K ad u]) (is := [0]) (isF := [0]) ⟨hx, hb, hml, hown, hts⟩ (q_X10_nightCount hst hB hr.1  ) (cwV 0 hts (goodIn_wid gL_sum_X10_nightCount) rfl rfl rfl (by decide +kernel) ⟨Nat.le_of_ble_eq_true rfl, Nat.le_of_ble_eq_true rfl⟩) hK hP hD hS hA hZ (zCut_1 _) (zBack_1 _) (ci := 12) (q0 := 0) rfl rfl (zW_0 tA K ad g) rfl rfl hl.1 (Nat.le_of_ble_eq_true rfl) dL_sum_4 (by show _ + 0 ≤ 1000 ∧ _ + 0 ≤ 6000; omega) ?_
  intro z4_1 g4_0 H locs hp9 hP hD hS
  have q4 := hp9.2
  try rw [hr.2.1] at q4
  have hr := RDO_trans hr hp9.1
  clear hp9
  have hz4 : z4_1 = (GL_v g 14 0) := by exact q4
  subst hz4
  refine zz_i2l hx hb dL_sum_7 (by omega) ?_
  refine zz_ladd hx hb dL_sum_8 ?_
  refine lv_lstore_n (lv' := [(1, .long (lI (7 + (GL_v g 14 0)))), (0, .ref (ad 0))]) hx hb dL_sum_9 rfl hl (by decide) rfl (fun ls hl => ?_)
  refine zz_ldc2 (n := 31) hx hb hown (hts (.constantLong RL 348 (31)) (by decide +kernel)) (by decide) dL_sum_10 ?_
  refine lv_lload_n hx hb dL_sum_13 rfl (lv_at hl 0 rfl) ?_
  refine zz_lmul hx hb dL_sum_14 ?_
  refine zz_bipush hx hb dL_sum_15 (by decide) ?_
  refine lv_aload_n hx hb dL_sum_17 rfl (lv_at hl 1 rfl) ?_
  refine zt_callVi (As := []) (rest := [.int (iI 100), .long (lI (31 * (7 + (GL_v g 14 0))))]) (L := [zW tA K ad g4_0]) (Lc := [zW tA K ad g4_0]) (Lr := []) (Lc' := fun (u : GL) => [zW tA K ad u]) (Lf := fun (u : GL) => [zW tA K ad u]) (is := [0]) (isF := [0]) ⟨hx, hb, hml, hown, hts⟩ (q_X10_range hst hB hr.1  ) (cwV 0 hts (goodIn_wid gL_sum_X10_range) rfl rfl rfl (by decide +kernel) ⟨Nat.le_of_ble_eq_true rfl, Nat.le_of_ble_eq_true rfl⟩) hK hP hD hS hA hZ (zCut_1 _) (zBack_1 _) (ci := 12) (q0 := 0) rfl rfl (zW_0 tA K ad g4_0) rfl rfl hl.1 (Nat.le_of_ble_eq_true rfl) dL_sum_18 (by show _ + 0 ≤ 1000 ∧ _ + 0 ≤ 6000; omega) ?_
  intro z18_3 g18_2 H locs hp9 hP hD hS
  have q18 := hp9.2
  try rw [hr.2.1] at q18
  have hr := RDO_trans hr hp9.1
  clear hp9
  have hz18 : z18_3 = (GL_v g 13 0) := by exact q18
  subst hz18
  refine zz_imul hx hb dL_sum_21 ?_
  refine zz_i2l hx hb dL_sum_22 (by omega) ?_
  refine zz_ladd hx hb dL_sum_23 ?_
  refine lv_aload_n hx hb dL_sum_24 rfl (lv_at hl 1 rfl) ?_
  refine zt_callVi (As := []) (rest := [.long (lI ((31 * (7 + (GL_v g 14 0))) + (100 * (GL_v g 13 0))))]) (L := [zW tA K ad g18_2]) (Lc := [zW tA K ad g18_2]) (Lr := []) (Lc' := fun (u : GL) => [zW tA K ad u]) (Lf := fun (u : GL) => [zW tA K ad u]) (is := [0]) (isF := [0]) ⟨hx, hb, hml, hown, hts⟩ (q_X10_fogNights hst hB hr.1  ) (cwV 0 hts (goodIn_wid gL_sum_X10_fogNights) rfl rfl rfl (by decide +kernel) ⟨Nat.le_of_ble_eq_true rfl, Nat.le_of_ble_eq_true rfl⟩) hK hP hD hS hA hZ (zCut_1 _) (zBack_1 _) (ci := 12) (q0 := 0) rfl rfl (zW_0 tA K ad g18_2) rfl rfl hl.1 (Nat.le_of_ble_eq_true rfl) dL_sum_25 (by show _ + 0 ≤ 1000 ∧ _ + 0 ≤ 6000; omega) ?_
  intro z25_5 g25_4 H locs hp9 hP hD hS
  have q25 := hp9.2
  try rw [hr.2.1] at q25
  have hr := RDO_trans hr hp9.1
  clear hp9
  have hz25 : z25_5 = (GL_v g 15 0) := by exact q25
  subst hz25
  refine zz_i2l hx hb dL_sum_28 (by omega) ?_
  refine zz_ladd hx hb dL_sum_29 ?_
  refine lv_lstore_n (lv' := [(1, .long (lI (((31 * (7 + (GL_v g 14 0))) + (100 * (GL_v g 13 0))) + (GL_v g 15 0)))), (0, .ref (ad 0))]) hx hb dL_sum_30 rfl hl (by decide) rfl (fun ls hl => ?_)
  refine zz_ldc2 (n := 31) hx hb hown (hts (.constantLong RL 348 (31)) (by decide +kernel)) (by decide) dL_sum_31 ?_
  refine lv_lload_n hx hb dL_sum_34 rfl (lv_at hl 0 rfl) ?_
  refine zz_lmul hx hb dL_sum_35 ?_
  refine lv_aload_n hx hb dL_sum_36 rfl (lv_at hl 1 rfl) ?_
  refine zt_callVl (As := []) (rest := [.long (lI (31 * (((31 * (7 + (GL_v g 14 0))) + (100 * (GL_v g 13 0))) + (GL_v g 15 0))))]) (L := [zW tA K ad g25_4]) (Lc := [zW tA K ad g25_4]) (Lr := []) (Lc' := fun (u : GL) => [zW tA K ad u]) (Lf := fun (u : GL) => [zW tA K ad u]) (is := [0]) (isF := [0]) ⟨hx, hb, hml, hown, hts⟩ (q_X10_fund hst hB hr.1  ) (cwV 0 hts (goodIn_wid gL_sum_X10_fund) rfl rfl rfl (by decide +kernel) ⟨Nat.le_of_ble_eq_true rfl, Nat.le_of_ble_eq_true rfl⟩) hK hP hD hS hA hZ (zCut_1 _) (zBack_1 _) (ci := 12) (q0 := 0) rfl rfl (zW_0 tA K ad g25_4) rfl rfl hl.1 (Nat.le_of_ble_eq_true rfl) dL_sum_37 (by show _ + 0 ≤ 1000 ∧ _ + 0 ≤ 6000; omega) ?_
  intro z37_7 g37_6 H locs hp9 hP hD hS
  have q37 := hp9.2
  try rw [hr.2.1] at q37
  have hr := RDO_trans hr hp9.1
  clear hp9
  have hz37 : z37_7 = (GL_v g 16 0) := by exact q37
  subst hz37
  refine zz_ladd hx hb dL_sum_40 ?_
  refine lv_lstore_n (lv' := [(1, .long (lI ((31 * (((31 * (7 + (GL_v g 14 0))) + (100 * (GL_v g 13 0))) + (GL_v g 15 0))) + (GL_v g 16 0)))), (0, .ref (ad 0))]) hx hb dL_sum_41 rfl hl (by decide) rfl (fun ls hl => ?_)
  refine zz_ldc2 (n := 31) hx hb hown (hts (.constantLong RL 348 (31)) (by decide +kernel)) (by decide) dL_sum_42 ?_
  refine lv_lload_n hx hb dL_sum_45 rfl (lv_at hl 0 rfl) ?_
  refine zz_lmul hx hb dL_sum_46 ?_
  refine lv_aload_n hx hb dL_sum_47 rfl (lv_at hl 1 rfl) ?_
  refine zt_callVl (As := []) (rest := [.long (lI (31 * ((31 * (((31 * (7 + (GL_v g 14 0))) + (100 * (GL_v g 13 0))) + (GL_v g 15 0))) + (GL_v g 16 0))))]) (L := [zW tA K ad g37_6]) (Lc := [zW tA K ad g37_6]) (Lr := []) (Lc' := fun (u : GL) => [zW tA K ad u]) (Lf := fun (u : GL) => [zW tA K ad u]) (is := [0]) (isF := [0]) ⟨hx, hb, hml, hown, hts⟩ (q_X10_refunded hst hB hr.1  ) (cwV 0 hts (goodIn_wid gL_sum_X10_refunded) rfl rfl rfl (by decide +kernel) ⟨Nat.le_of_ble_eq_true rfl, Nat.le_of_ble_eq_true rfl⟩) hK hP hD hS hA hZ (zCut_1 _) (zBack_1 _) (ci := 12) (q0 := 0) rfl rfl (zW_0 tA K ad g37_6) rfl rfl hl.1 (Nat.le_of_ble_eq_true rfl) dL_sum_48 (by show _ + 0 ≤ 1000 ∧ _ + 0 ≤ 6000; omega) ?_
  intro z48_9 g48_8 H locs hp9 hP hD hS
  have q48 := hp9.2
  try rw [hr.2.1] at q48
  have hr := RDO_trans hr hp9.1
  clear hp9
  have hz48 : z48_9 = (GL_v g 17 0) := by exact q48
  subst hz48
  refine zz_ladd hx hb dL_sum_51 ?_
  refine lv_lstore_n (lv' := [(1, .long (lI ((31 * ((31 * (((31 * (7 + (GL_v g 14 0))) + (100 * (GL_v g 13 0))) + (GL_v g 15 0))) + (GL_v g 16 0))) + (GL_v g 17 0)))), (0, .ref (ad 0))]) hx hb dL_sum_52 rfl hl (by decide) rfl (fun ls hl => ?_)
  refine zz_iconst hx hb dL_sum_53 ?_
  refine lv_istore_n (lv' := [(3, .int (iI 0)), (1, .long (lI ((31 * ((31 * (((31 * (7 + (GL_v g 14 0))) + (100 * (GL_v g 13 0))) + (GL_v g 15 0))) + (GL_v g 16 0))) + (GL_v g 17 0)))), (0, .ref (ad 0))]) hx hb dL_sum_54 rfl hl (by decide) rfl (fun ls hl => ?_)
  have L55 : ∀ (f9 : Nat) (k_ : Int) (h_ : Int) (g55 : GL) (k9 : Nat) (n9 : Nat) (H : Heap) (locs : List Loc) (ls : Array Slot), (RDO B N g g55) → (0 ≤ k_ ∧ k_ ≤ GL_v g 1 0) → (h_ = suN (suA (GL_v g)) (su0 (GL_v g)) k_.toNat) → (((k9 : Nat) : Int) ≤ 20 * k_ ∧ ((n9 : Nat) : Int) ≤ 6 * (20 * k_)) → (GL_v g 1 0 - k_).toNat < f9 → va_P D vwCl [zW tA K ad g55].flatten H → va_D A [zW tA K ad g55].flatten → va_S A s.heap H locs → lv_has ls 6 [(3, .int (iI k_)), (1, .long (lI h_)), (0, .ref (ad 0))] → W p l e (headSpec (wsL_sum ++ xL) ({ frames := 9, cells := 1000, slots := 6000, locals := 156 })).room s m args below meth c H locs k9 n9 Q (F0 m 55 ls []) := by
    intro f9
    induction f9 with
    | zero => intro k_ h_ g55 k9 n9 H locs ls hr hk hh1 hk9 hmz; exact absurd hmz (Nat.not_lt_zero _)
    | succ f9 ih55 =>
      intro k_ h_ g55 k9 n9 H locs ls hr hk hh1 hk9 hmz hP hD hS hl
      refine lv_iload_n hx hb dL_sum_55 rfl (lv_at hl 0 rfl) ?_
      refine lv_aload_n hx hb dL_sum_56 rfl (lv_at hl 2 rfl) ?_
      refine zt_callVi (As := []) (rest := [.int (iI k_)]) (L := [zW tA K ad g55]) (Lc := [zW tA K ad g55]) (Lr := []) (Lc' := fun (u : GL) => [zW tA K ad u]) (Lf := fun (u : GL) => [zW tA K ad u]) (is := [0]) (isF := [0]) ⟨hx, hb, hml, hown, hts⟩ (q_X10_legCount hst hB hr.1  ) (cwV 0 hts (goodIn_wid gL_sum_X10_legCount) rfl rfl rfl (by decide +kernel) ⟨Nat.le_of_ble_eq_true rfl, Nat.le_of_ble_eq_true rfl⟩) hK hP hD hS hA hZ (zCut_1 _) (zBack_1 _) (ci := 12) (q0 := 0) rfl rfl (zW_0 tA K ad g55) rfl rfl hl.1 (Nat.le_of_ble_eq_true rfl) dL_sum_57 (by show _ + 0 ≤ 1000 ∧ _ + 0 ≤ 6000; omega) ?_
      intro z57_11 g57_10 H locs hp9 hP hD hS
      have q57 := hp9.2
      try rw [hr.2.1] at q57
      have hr := RDO_trans hr hp9.1
      clear hp9
      refine zz_icmp_ge (tgt := 143) hx hb dL_sum_60 (by decide) (by omega) (by omega) (fun c_60 => ?_) (fun c_60 => ?_)
      · have hkl : k_ = GL_v g 1 0 := by omega
        rw [hkl] at hh1
        refine zz_iconst hx hb dL_sum_143 ?_
        refine lv_istore_n (lv' := [(3, .int (iI 0)), (1, .long (lI h_)), (0, .ref (ad 0))]) hx hb dL_sum_144 rfl hl (by decide) rfl (fun ls hl => ?_)
        have L145 : ∀ (f9 : Nat) (k_ : Int) (h_ : Int) (g145 : GL) (k9 : Nat) (n9 : Nat) (H : Heap) (locs : List Loc) (ls : Array Slot), (RDO B N g g145) → (0 ≤ k_ ∧ k_ ≤ GL_v g 7 0) → (h_ = suN (suB (GL_v g)) (suN (suA (GL_v g)) (su0 (GL_v g)) (GL_v g 1 0).toNat) k_.toNat) → (((k9 : Nat) : Int) ≤ 500 + 20 * k_ ∧ ((n9 : Nat) : Int) ≤ 6 * (500 + 20 * k_)) → (GL_v g 7 0 - k_).toNat < f9 → va_P D vwCl [zW tA K ad g145].flatten H → va_D A [zW tA K ad g145].flatten → va_S A s.heap H locs → lv_has ls 6 [(3, .int (iI k_)), (1, .long (lI h_)), (0, .ref (ad 0))] → W p l e (headSpec (wsL_sum ++ xL) ({ frames := 9, cells := 1000, slots := 6000, locals := 156 })).room s m args below meth c H locs k9 n9 Q (F0 m 145 ls []) := by
          intro f9
          induction f9 with
          | zero => intro k_ h_ g145 k9 n9 H locs ls hr hk hh2 hk9 hmz; exact absurd hmz (Nat.not_lt_zero _)
          | succ f9 ih145 =>
            intro k_ h_ g145 k9 n9 H locs ls hr hk hh2 hk9 hmz hP hD hS hl
            refine lv_iload_n hx hb dL_sum_145 rfl (lv_at hl 0 rfl) ?_
            refine lv_aload_n hx hb dL_sum_146 rfl (lv_at hl 2 rfl) ?_
            refine zt_callVi (As := []) (rest := [.int (iI k_)]) (L := [zW tA K ad g145]) (Lc := [zW tA K ad g145]) (Lr := []) (Lc' := fun (u : GL) => [zW tA K ad u]) (Lf := fun (u : GL) => [zW tA K ad u]) (is := [0]) (isF := [0]) ⟨hx, hb, hml, hown, hts⟩ (q_X10_subscriberCount hst hB hr.1  ) (cwV 0 hts (goodIn_wid gL_sum_X10_subscriberCount) rfl rfl rfl (by decide +kernel) ⟨Nat.le_of_ble_eq_true rfl, Nat.le_of_ble_eq_true rfl⟩) hK hP hD hS hA hZ (zCut_1 _) (zBack_1 _) (ci := 12) (q0 := 0) rfl rfl (zW_0 tA K ad g145) rfl rfl hl.1 (Nat.le_of_ble_eq_true rfl) dL_sum_147 (by show _ + 0 ≤ 1000 ∧ _ + 0 ≤ 6000; omega) ?_
            intro z147_13 g147_12 H locs hp9 hP hD hS
            have q147 := hp9.2
            try rw [hr.2.1] at q147
            have hr := RDO_trans hr hp9.1
            clear hp9
            refine zz_icmp_ge (tgt := 218) hx hb dL_sum_150 (by decide) (by omega) (by omega) (fun c_150 => ?_) (fun c_150 => ?_)
            · have hkn : k_ = GL_v g 7 0 := by omega
              refine lv_lload_n hx hb dL_sum_218 rfl (lv_at hl 1 rfl) ?_
              refine zz_ldc2 (n := 59) hx hb hown (hts (.constantLong RL 370 (59)) (by decide +kernel)) (by decide) dL_sum_219 ?_
              refine lv_aload_n hx hb dL_sum_222 rfl (lv_at hl 2 rfl) ?_
              refine zt_callVi (As := []) (rest := [.long (lI 59), .long (lI h_)]) (L := [zW tA K ad g147_12]) (Lc := [zW tA K ad g147_12]) (Lr := []) (Lc' := fun (u : GL) => [zW tA K ad u]) (Lf := fun (u : GL) => [zW tA K ad u]) (is := [0]) (isF := [0]) ⟨hx, hb, hml, hown, hts⟩ (q_X10_portCount hst hB hr.1  ) (cwV 0 hts (goodIn_wid gL_sum_X10_portCount) rfl rfl rfl (by decide +kernel) ⟨Nat.le_of_ble_eq_true rfl, Nat.le_of_ble_eq_true rfl⟩) hK hP hD hS hA hZ (zCut_1 _) (zBack_1 _) (ci := 12) (q0 := 0) rfl rfl (zW_0 tA K ad g147_12) rfl rfl hl.1 (Nat.le_of_ble_eq_true rfl) dL_sum_223 (by show _ + 0 ≤ 1000 ∧ _ + 0 ≤ 6000; omega) ?_
              intro z223_15 g223_14 H locs hp9 hP hD hS
              have q223 := hp9.2
              try rw [hr.2.1] at q223
              have hr := RDO_trans hr hp9.1
              clear hp9
              have hz223 : z223_15 = (GL_v g 0 0) := by exact q223
              subst hz223
              refine zz_i2l hx hb dL_sum_226 (by omega) ?_
              refine zz_lmul hx hb dL_sum_227 ?_
              refine zz_ladd hx hb dL_sum_228 ?_
              have hfin : (fun (z : Int) (g' : GL) => RDO B N g g' ∧ z = sumV (GL_v g)) (h_ + (59 * (GL_v g 0 0))) g223_14 := by
                refine ⟨hr, ?_⟩
                rw [hh2, hkn]
                rfl
              exact hret (h_ + (59 * (GL_v g 0 0))) g223_14 H locs _ _ _ _ (by omega) (by omega) dL_sum_229 hfin (zP_o hP) (zD_o hD) hS
            · have hs8 := hsp k_ (by omega) (by omega)
              have hm9 := hmo k_ (by omega) (by omega)
              have hl9 := hld k_ (by omega) (by omega)
              refine zz_ldc2 (n := 43) hx hb hown (hts (.constantLong RL 364 (43)) (by decide +kernel)) (by decide) dL_sum_153 ?_
              refine lv_lload_n hx hb dL_sum_156 rfl (lv_at hl 1 rfl) ?_
              refine zz_lmul hx hb dL_sum_157 ?_
              refine zz_bipush hx hb dL_sum_158 (by decide) ?_
              refine lv_aload_n hx hb dL_sum_160 rfl (lv_at hl 2 rfl) ?_
              refine lv_iload_n hx hb dL_sum_161 rfl (lv_at hl 0 rfl) ?_
              refine zt_callVi (As := [.int (iI k_)]) (rest := [.int (iI 10), .long (lI (43 * h_))]) (L := [zW tA K ad g147_12]) (Lc := [zW tA K ad g147_12]) (Lr := []) (Lc' := fun (u : GL) => [zW tA K ad u]) (Lf := fun (u : GL) => [zW tA K ad u]) (is := [0]) (isF := [0]) ⟨hx, hb, hml, hown, hts⟩ (q_X10_startOf_t hst hB hr.1 k_ (by omega) (by rw [hr.2.1]; exact ⟨by omega, by omega⟩)) (cwV 1 hts (goodIn_wid gL_sum_X10_startOf) rfl rfl rfl (by decide +kernel) ⟨Nat.le_of_ble_eq_true rfl, Nat.le_of_ble_eq_true rfl⟩) hK hP hD hS hA hZ (zCut_1 _) (zBack_1 _) (ci := 12) (q0 := 0) rfl rfl (zW_0 tA K ad g147_12) rfl rfl hl.1 (Nat.le_of_ble_eq_true rfl) dL_sum_162 (by show _ + 1 ≤ 1000 ∧ _ + 6 ≤ 6000; omega) ?_
              intro z162_17 g162_16 H locs hp9 hP hD hS
              have q162 := hp9.2
              try rw [hr.2.1] at q162
              have hr := RDO_trans hr hp9.1
              clear hp9
              have hz162 : z162_17 = (GL_v g 8 k_) := by exact q162.2
              subst hz162
              refine zz_imul hx hb dL_sum_165 ?_
              refine zz_i2l hx hb dL_sum_166 (by omega) ?_
              refine zz_ladd hx hb dL_sum_167 ?_
              refine lv_aload_n hx hb dL_sum_168 rfl (lv_at hl 2 rfl) ?_
              refine lv_iload_n hx hb dL_sum_169 rfl (lv_at hl 0 rfl) ?_
              refine zt_callVi (As := [.int (iI k_)]) (rest := [.long (lI ((43 * h_) + (10 * (GL_v g 8 k_))))]) (L := [zW tA K ad g162_16]) (Lc := [zW tA K ad g162_16]) (Lr := []) (Lc' := fun (u : GL) => [zW tA K ad u]) (Lf := fun (u : GL) => [zW tA K ad u]) (is := [0]) (isF := [0]) ⟨hx, hb, hml, hown, hts⟩ (q_X10_goalOf_t hst hB hr.1 k_ (by omega) (by rw [hr.2.1]; exact ⟨by omega, by omega⟩)) (cwV 1 hts (goodIn_wid gL_sum_X10_goalOf) rfl rfl rfl (by decide +kernel) ⟨Nat.le_of_ble_eq_true rfl, Nat.le_of_ble_eq_true rfl⟩) hK hP hD hS hA hZ (zCut_1 _) (zBack_1 _) (ci := 12) (q0 := 0) rfl rfl (zW_0 tA K ad g162_16) rfl rfl hl.1 (Nat.le_of_ble_eq_true rfl) dL_sum_170 (by show _ + 1 ≤ 1000 ∧ _ + 6 ≤ 6000; omega) ?_
              intro z170_19 g170_18 H locs hp9 hP hD hS
              have q170 := hp9.2
              try rw [hr.2.1] at q170
              have hr := RDO_trans hr hp9.1
              clear hp9
              have hz170 : z170_19 = (GL_v g 9 k_) := by exact q170.2
              subst hz170
              refine zz_i2l hx hb dL_sum_173 (by omega) ?_
              refine zz_ladd hx hb dL_sum_174 ?_
              refine lv_lstore_n (lv' := [(1, .long (lI (((43 * h_) + (10 * (GL_v g 8 k_))) + (GL_v g 9 k_)))), (3, .int (iI k_)), (0, .ref (ad 0))]) hx hb dL_sum_175 rfl hl (by decide) rfl (fun ls hl => ?_)
              refine zz_ldc2 (n := 47) hx hb hown (hts (.constantLong RL 366 (47)) (by decide +kernel)) (by decide) dL_sum_176 ?_
              refine lv_lload_n hx hb dL_sum_179 rfl (lv_at hl 0 rfl) ?_
              refine zz_lmul hx hb dL_sum_180 ?_
              refine lv_aload_n hx hb dL_sum_181 rfl (lv_at hl 2 rfl) ?_
              refine lv_iload_n hx hb dL_sum_182 rfl (lv_at hl 1 rfl) ?_
              refine zt_callVi (As := [.int (iI k_)]) (rest := [.long (lI (47 * (((43 * h_) + (10 * (GL_v g 8 k_))) + (GL_v g 9 k_))))]) (L := [zW tA K ad g170_18]) (Lc := [zW tA K ad g170_18]) (Lr := []) (Lc' := fun (u : GL) => [zW tA K ad u]) (Lf := fun (u : GL) => [zW tA K ad u]) (is := [0]) (isF := [0]) ⟨hx, hb, hml, hown, hts⟩ (q_X10_moneyOf_t hst hB hr.1 k_ (by omega) (by rw [hr.2.1]; exact ⟨by omega, by omega⟩)) (cwV 1 hts (goodIn_wid gL_sum_X10_moneyOf) rfl rfl rfl (by decide +kernel) ⟨Nat.le_of_ble_eq_true rfl, Nat.le_of_ble_eq_true rfl⟩) hK hP hD hS hA hZ (zCut_1 _) (zBack_1 _) (ci := 12) (q0 := 0) rfl rfl (zW_0 tA K ad g170_18) rfl rfl hl.1 (Nat.le_of_ble_eq_true rfl) dL_sum_183 (by show _ + 1 ≤ 1000 ∧ _ + 6 ≤ 6000; omega) ?_
              intro z183_21 g183_20 H locs hp9 hP hD hS
              have q183 := hp9.2
              try rw [hr.2.1] at q183
              have hr := RDO_trans hr hp9.1
              clear hp9
              have hz183 : z183_21 = (GL_v g 10 k_) := by exact q183.2
              subst hz183
              refine zz_i2l hx hb dL_sum_186 (by omega) ?_
              refine zz_ladd hx hb dL_sum_187 ?_
              refine lv_lstore_n (lv' := [(1, .long (lI ((47 * (((43 * h_) + (10 * (GL_v g 8 k_))) + (GL_v g 9 k_))) + (GL_v g 10 k_)))), (3, .int (iI k_)), (0, .ref (ad 0))]) hx hb dL_sum_188 rfl hl (by decide) rfl (fun ls hl => ?_)
              refine zz_ldc2 (n := 53) hx hb hown (hts (.constantLong RL 368 (53)) (by decide +kernel)) (by decide) dL_sum_189 ?_
              refine lv_lload_n hx hb dL_sum_192 rfl (lv_at hl 0 rfl) ?_
              refine zz_lmul hx hb dL_sum_193 ?_
              refine zz_bipush hx hb dL_sum_194 (by decide) ?_
              refine lv_aload_n hx hb dL_sum_196 rfl (lv_at hl 2 rfl) ?_
              refine lv_iload_n hx hb dL_sum_197 rfl (lv_at hl 1 rfl) ?_
              refine zt_callVi (As := [.int (iI k_)]) (rest := [.int (iI 100), .long (lI (53 * ((47 * (((43 * h_) + (10 * (GL_v g 8 k_))) + (GL_v g 9 k_))) + (GL_v g 10 k_))))]) (L := [zW tA K ad g183_20]) (Lc := [zW tA K ad g183_20]) (Lr := []) (Lc' := fun (u : GL) => [zW tA K ad u]) (Lf := fun (u : GL) => [zW tA K ad u]) (is := [0]) (isF := [0]) ⟨hx, hb, hml, hown, hts⟩ (q_X10_litNightsOf_t hst hB hr.1 k_ (by omega) (by rw [hr.2.1]; exact ⟨by omega, by omega⟩)) (cwV 1 hts (goodIn_wid gL_sum_X10_litNightsOf) rfl rfl rfl (by decide +kernel) ⟨Nat.le_of_ble_eq_true rfl, Nat.le_of_ble_eq_true rfl⟩) hK hP hD hS hA hZ (zCut_1 _) (zBack_1 _) (ci := 12) (q0 := 0) rfl rfl (zW_0 tA K ad g183_20) rfl rfl hl.1 (Nat.le_of_ble_eq_true rfl) dL_sum_198 (by show _ + 1 ≤ 1000 ∧ _ + 6 ≤ 6000; omega) ?_
              intro z198_23 g198_22 H locs hp9 hP hD hS
              have q198 := hp9.2
              try rw [hr.2.1] at q198
              have hr := RDO_trans hr hp9.1
              clear hp9
              have hz198 : z198_23 = (GL_v g 11 k_) := by exact q198.2
              subst hz198
              refine zz_imul hx hb dL_sum_201 ?_
              refine zz_i2l hx hb dL_sum_202 (by omega) ?_
              refine zz_ladd hx hb dL_sum_203 ?_
              refine lv_aload_n hx hb dL_sum_204 rfl (lv_at hl 2 rfl) ?_
              refine lv_iload_n hx hb dL_sum_205 rfl (lv_at hl 1 rfl) ?_
              refine zt_callVi (As := [.int (iI k_)]) (rest := [.long (lI ((53 * ((47 * (((43 * h_) + (10 * (GL_v g 8 k_))) + (GL_v g 9 k_))) + (GL_v g 10 k_))) + (100 * (GL_v g 11 k_))))]) (L := [zW tA K ad g198_22]) (Lc := [zW tA K ad g198_22]) (Lr := []) (Lc' := fun (u : GL) => [zW tA K ad u]) (Lf := fun (u : GL) => [zW tA K ad u]) (is := [0]) (isF := [0]) ⟨hx, hb, hml, hown, hts⟩ (q_X10_darkNightsOf_t hst hB hr.1 k_ (by omega) (by rw [hr.2.1]; exact ⟨by omega, by omega⟩)) (cwV 1 hts (goodIn_wid gL_sum_X10_darkNightsOf) rfl rfl rfl (by decide +kernel) ⟨Nat.le_of_ble_eq_true rfl, Nat.le_of_ble_eq_true rfl⟩) hK hP hD hS hA hZ (zCut_1 _) (zBack_1 _) (ci := 12) (q0 := 0) rfl rfl (zW_0 tA K ad g198_22) rfl rfl hl.1 (Nat.le_of_ble_eq_true rfl) dL_sum_206 (by show _ + 1 ≤ 1000 ∧ _ + 6 ≤ 6000; omega) ?_
              intro z206_25 g206_24 H locs hp9 hP hD hS
              have q206 := hp9.2
              try rw [hr.2.1] at q206
              have hr := RDO_trans hr hp9.1
              clear hp9
              have hz206 : z206_25 = (GL_v g 12 k_) := by exact q206.2
              subst hz206
              refine zz_i2l hx hb dL_sum_209 (by omega) ?_
              refine zz_ladd hx hb dL_sum_210 ?_
              refine lv_lstore_n (lv' := [(1, .long (lI (((53 * ((47 * (((43 * h_) + (10 * (GL_v g 8 k_))) + (GL_v g 9 k_))) + (GL_v g 10 k_))) + (100 * (GL_v g 11 k_))) + (GL_v g 12 k_)))), (3, .int (iI k_)), (0, .ref (ad 0))]) hx hb dL_sum_211 rfl hl (by decide) rfl (fun ls hl => ?_)
              refine zz_iinc (lv' := [(3, .int (iI (k_ + 1))), (1, .long (lI (((53 * ((47 * (((43 * h_) + (10 * (GL_v g 8 k_))) + (GL_v g 9 k_))) + (GL_v g 10 k_))) + (100 * (GL_v g 11 k_))) + (GL_v g 12 k_)))), (0, .ref (ad 0))]) hx hb dL_sum_212 hl (k := 1) rfl (by decide) rfl (fun ls hl => ?_)
              refine lv_goto (tgt := 145) hx hb dL_sum_215 (by decide) ?_
              exact ih145 (k_ + 1) (((53 * ((47 * (((43 * h_) + (10 * (GL_v g 8 k_))) + (GL_v g 9 k_))) + (GL_v g 10 k_))) + (100 * (GL_v g 11 k_))) + (GL_v g 12 k_)) g206_24 _ _ _ _ _ (by exact hr) (by omega) (by rw [suN_s (by omega), ← hh2]; rfl) (by omega) (by omega) hP hD hS (lv_sub hl [0, 1, 2] rfl)
        exact L145 _ 0 h_ g57_10 _ _ _ _ _ (by exact hr) (by omega) (by rw [hh1]; rfl) (by omega) (Nat.lt_succ_self _) hP hD hS (lv_sub hl [0, 1, 2] rfl)
      · refine lv_aload_n hx hb dL_sum_63 rfl (lv_at hl 2 rfl) ?_
        refine lv_iload_n hx hb dL_sum_64 rfl (lv_at hl 0 rfl) ?_
        refine zt_callVi (As := [.int (iI k_)]) (rest := []) (L := [zW tA K ad g57_10]) (Lc := [zW tA K ad g57_10]) (Lr := []) (Lc' := fun (u : GL) => [zW tA K ad u]) (Lf := fun (u : GL) => [zW tA K ad u]) (is := [0]) (isF := [0]) ⟨hx, hb, hml, hown, hts⟩ (q_X10_lowerPortAt_t hst hB hr.1 k_ (by omega) (by rw [hr.2.1]; exact ⟨by omega, by omega⟩)) (cwV 1 hts (goodIn_wid gL_sum_X10_lowerPortAt) rfl rfl rfl (by decide +kernel) ⟨Nat.le_of_ble_eq_true rfl, Nat.le_of_ble_eq_true rfl⟩) hK hP hD hS hA hZ (zCut_1 _) (zBack_1 _) (ci := 12) (q0 := 0) rfl rfl (zW_0 tA K ad g57_10) rfl rfl hl.1 (Nat.le_of_ble_eq_true rfl) dL_sum_65 (by show _ + 1 ≤ 1000 ∧ _ + 6 ≤ 6000; omega) ?_
        intro z65_27 g65_26 H locs hp9 hP hD hS
        have q65 := hp9.2
        try rw [hr.2.1] at q65
        have hr := RDO_trans hr hp9.1
        clear hp9
        have hz65 : z65_27 = (GL_v g 2 k_) := by exact q65.2.2
        subst hz65
        refine lv_istore (lv' := [(4, .int (iI (GL_v g 2 k_))), (3, .int (iI k_)), (1, .long (lI h_)), (0, .ref (ad 0))]) hx hb dL_sum_68 hl (by decide) rfl (fun ls hl => ?_)
        refine lv_aload_n hx hb dL_sum_70 rfl (lv_at hl 3 rfl) ?_
        refine lv_iload_n hx hb dL_sum_71 rfl (lv_at hl 1 rfl) ?_
        refine zt_callVi (As := [.int (iI k_)]) (rest := []) (L := [zW tA K ad g65_26]) (Lc := [zW tA K ad g65_26]) (Lr := []) (Lc' := fun (u : GL) => [zW tA K ad u]) (Lf := fun (u : GL) => [zW tA K ad u]) (is := [0]) (isF := [0]) ⟨hx, hb, hml, hown, hts⟩ (q_X10_upperPortAt_t hst hB hr.1 k_ (by omega) (by rw [hr.2.1]; exact ⟨by omega, by omega⟩)) (cwV 1 hts (goodIn_wid gL_sum_X10_upperPortAt) rfl rfl rfl (by decide +kernel) ⟨Nat.le_of_ble_eq_true rfl, Nat.le_of_ble_eq_true rfl⟩) hK hP hD hS hA hZ (zCut_1 _) (zBack_1 _) (ci := 12) (q0 := 0) rfl rfl (zW_0 tA K ad g65_26) rfl rfl hl.1 (Nat.le_of_ble_eq_true rfl) dL_sum_72 (by show _ + 1 ≤ 1000 ∧ _ + 6 ≤ 6000; omega) ?_
        intro z72_29 g72_28 H locs hp9 hP hD hS
        have q72 := hp9.2
        try rw [hr.2.1] at q72
        have hr := RDO_trans hr hp9.1
        clear hp9
        obtain ⟨e1, e2, e3, e4, e5, e6⟩ := lg_k hokv (k := k_) (by omega) (by omega)
        have hin9 : inP (GL_v g 0 0) (GL_v g 2 k_) (GL_v g 3 k_) := ⟨by omega, by omega, by omega, by omega⟩
        have hle9 : hasL (GL_v g 1 0) (GL_v g 2) (GL_v g 3) (GL_v g 2 k_) (GL_v g 3 k_) := ⟨k_, by omega, by omega, by omega, by omega⟩
        have h4f := lgk hu (k := k_) (by omega) (by omega) (by omega)
        have hmt9 := hmt k_ (by omega) (by omega)
        have hz72 : z72_29 = (GL_v g 3 k_) := by exact q72.2.2
        subst hz72
        refine lv_istore (lv' := [(5, .int (iI (GL_v g 3 k_))), (4, .int (iI (GL_v g 2 k_))), (3, .int (iI k_)), (1, .long (lI h_)), (0, .ref (ad 0))]) hx hb dL_sum_75 hl (by decide) rfl (fun ls hl => ?_)
        refine zz_ldc2 (n := 37) hx hb hown (hts (.constantLong RL 360 (37)) (by decide +kernel)) (by decide) dL_sum_77 ?_
        refine lv_lload_n hx hb dL_sum_80 rfl (lv_at hl 3 rfl) ?_
        refine zz_lmul hx hb dL_sum_81 ?_
        refine zz_bipush hx hb dL_sum_82 (by decide) ?_
        refine lv_iload hx hb dL_sum_84 (lv_at hl 1 rfl) ?_
        refine zz_imul hx hb dL_sum_86 ?_
        refine zz_i2l hx hb dL_sum_87 (by omega) ?_
        refine zz_ladd hx hb dL_sum_88 ?_
        refine lv_iload hx hb dL_sum_89 (lv_at hl 0 rfl) ?_
        refine zz_i2l hx hb dL_sum_91 (by omega) ?_
        refine zz_ladd hx hb dL_sum_92 ?_
        refine lv_lstore_n (lv' := [(1, .long (lI (((37 * h_) + (10 * (GL_v g 2 k_))) + (GL_v g 3 k_)))), (5, .int (iI (GL_v g 3 k_))), (4, .int (iI (GL_v g 2 k_))), (3, .int (iI k_)), (0, .ref (ad 0))]) hx hb dL_sum_93 rfl hl (by decide) rfl (fun ls hl => ?_)
        refine zz_ldc2 (n := 41) hx hb hown (hts (.constantLong RL 362 (41)) (by decide +kernel)) (by decide) dL_sum_94 ?_
        refine lv_lload_n hx hb dL_sum_97 rfl (lv_at hl 0 rfl) ?_
        refine zz_lmul hx hb dL_sum_98 ?_
        refine zz_sipush hx hb dL_sum_99 (by decide) ?_
        refine lv_aload_n hx hb dL_sum_102 rfl (lv_at hl 4 rfl) ?_
        refine lv_iload hx hb dL_sum_103 (lv_at hl 2 rfl) ?_
        refine lv_iload hx hb dL_sum_105 (lv_at hl 1 rfl) ?_
        refine zt_callVi (As := [.int (iI (GL_v g 2 k_)), .int (iI (GL_v g 3 k_))]) (rest := [.int (iI 10000), .long (lI (41 * (((37 * h_) + (10 * (GL_v g 2 k_))) + (GL_v g 3 k_))))]) (L := [zW tA K ad g72_28]) (Lc := [zW tA K ad g72_28]) (Lr := []) (Lc' := fun (u : GL) => [zW tA K ad u]) (Lf := fun (u : GL) => [zW tA K ad u]) (is := [0]) (isF := [0]) ⟨hx, hb, hml, hown, hts⟩ (q_X10_lengthOf_n hst hB hr.1 (GL_v g 2 k_) (GL_v g 3 k_) (by omega) (by omega) (by rw [hr.2.1]; exact hin9) (by rw [hr.2.1]; exact hle9)) (cwV 2 hts (goodIn_wid gL_sum_X10_lengthOf) rfl rfl rfl (by decide +kernel) ⟨Nat.le_of_ble_eq_true rfl, Nat.le_of_ble_eq_true rfl⟩) hK hP hD hS hA hZ (zCut_1 _) (zBack_1 _) (ci := 12) (q0 := 0) rfl rfl (zW_0 tA K ad g72_28) rfl rfl hl.1 (Nat.le_of_ble_eq_true rfl) dL_sum_107 (by show _ + 0 ≤ 1000 ∧ _ + 0 ≤ 6000; omega) ?_
        intro z107_31 g107_30 H locs hp9 hP hD hS
        have q107 := hp9.2
        try rw [hr.2.1] at q107
        have hr := RDO_trans hr hp9.1
        clear hp9
        have hz107 : z107_31 = (GL_v g 4 k_) := by exact lgp h4f q107
        subst hz107
        refine zz_imul hx hb dL_sum_110 ?_
        refine zz_i2l hx hb dL_sum_111 (by omega) ?_
        refine zz_ladd hx hb dL_sum_112 ?_
        refine zz_bipush hx hb dL_sum_113 (by decide) ?_
        refine lv_aload_n hx hb dL_sum_115 rfl (lv_at hl 4 rfl) ?_
        refine lv_iload hx hb dL_sum_116 (lv_at hl 2 rfl) ?_
        refine lv_iload hx hb dL_sum_118 (lv_at hl 1 rfl) ?_
        refine zt_callVi (As := [.int (iI (GL_v g 2 k_)), .int (iI (GL_v g 3 k_))]) (rest := [.int (iI 100), .long (lI ((41 * (((37 * h_) + (10 * (GL_v g 2 k_))) + (GL_v g 3 k_))) + (10000 * (GL_v g 4 k_))))]) (L := [zW tA K ad g107_30]) (Lc := [zW tA K ad g107_30]) (Lr := []) (Lc' := fun (u : GL) => [zW tA K ad u]) (Lf := fun (u : GL) => [zW tA K ad u]) (is := [0]) (isF := [0]) ⟨hx, hb, hml, hown, hts⟩ (q_X10_reachOf_n hst hB hr.1 (GL_v g 2 k_) (GL_v g 3 k_) (by omega) (by omega) (by rw [hr.2.1]; exact hin9) (by rw [hr.2.1]; exact hle9)) (cwV 2 hts (goodIn_wid gL_sum_X10_reachOf) rfl rfl rfl (by decide +kernel) ⟨Nat.le_of_ble_eq_true rfl, Nat.le_of_ble_eq_true rfl⟩) hK hP hD hS hA hZ (zCut_1 _) (zBack_1 _) (ci := 12) (q0 := 0) rfl rfl (zW_0 tA K ad g107_30) rfl rfl hl.1 (Nat.le_of_ble_eq_true rfl) dL_sum_120 (by show _ + 0 ≤ 1000 ∧ _ + 0 ≤ 6000; omega) ?_
        intro z120_33 g120_32 H locs hp9 hP hD hS
        have q120 := hp9.2
        try rw [hr.2.1] at q120
        have hr := RDO_trans hr hp9.1
        clear hp9
        have hz120 : z120_33 = (GL_v g 5 k_) := by exact lgp h4f q120
        subst hz120
        refine zz_imul hx hb dL_sum_123 ?_
        refine zz_i2l hx hb dL_sum_124 (by omega) ?_
        refine zz_ladd hx hb dL_sum_125 ?_
        refine lv_aload_n hx hb dL_sum_126 rfl (lv_at hl 4 rfl) ?_
        refine lv_iload hx hb dL_sum_127 (lv_at hl 2 rfl) ?_
        refine lv_iload hx hb dL_sum_129 (lv_at hl 1 rfl) ?_
        refine zt_callVi (As := [.int (iI (GL_v g 2 k_)), .int (iI (GL_v g 3 k_))]) (rest := [.long (lI (((41 * (((37 * h_) + (10 * (GL_v g 2 k_))) + (GL_v g 3 k_))) + (10000 * (GL_v g 4 k_))) + (100 * (GL_v g 5 k_))))]) (L := [zW tA K ad g120_32]) (Lc := [zW tA K ad g120_32]) (Lr := []) (Lc' := fun (u : GL) => [zW tA K ad u]) (Lf := fun (u : GL) => [zW tA K ad u]) (is := [0]) (isF := [0]) ⟨hx, hb, hml, hown, hts⟩ (q_X10_meterOf_t hst hB hr.1 (GL_v g 2 k_) (GL_v g 3 k_) (by omega) (by omega) (by rw [hr.2.1]; exact hin9) (by rw [hr.2.1]; exact hle9)) (cwV 2 hts (goodIn_wid gL_sum_X10_meterOf) rfl rfl rfl (by decide +kernel) ⟨Nat.le_of_ble_eq_true rfl, Nat.le_of_ble_eq_true rfl⟩) hK hP hD hS hA hZ (zCut_1 _) (zBack_1 _) (ci := 12) (q0 := 0) rfl rfl (zW_0 tA K ad g120_32) rfl rfl hl.1 (Nat.le_of_ble_eq_true rfl) dL_sum_131 (by show _ + 2 ≤ 1000 ∧ _ + 12 ≤ 6000; omega) ?_
        intro z131_35 g131_34 H locs hp9 hP hD hS
        have q131 := hp9.2
        try rw [hr.2.1] at q131
        have hr := RDO_trans hr hp9.1
        clear hp9
        have hz131 : z131_35 = (GL_v g 6 k_) := by exact lgp h4f q131.2
        subst hz131
        refine zz_i2l hx hb dL_sum_134 (by omega) ?_
        refine zz_ladd hx hb dL_sum_135 ?_
        refine lv_lstore_n (lv' := [(1, .long (lI ((((41 * (((37 * h_) + (10 * (GL_v g 2 k_))) + (GL_v g 3 k_))) + (10000 * (GL_v g 4 k_))) + (100 * (GL_v g 5 k_))) + (GL_v g 6 k_)))), (5, .int (iI (GL_v g 3 k_))), (4, .int (iI (GL_v g 2 k_))), (3, .int (iI k_)), (0, .ref (ad 0))]) hx hb dL_sum_136 rfl hl (by decide) rfl (fun ls hl => ?_)
        refine zz_iinc (lv' := [(3, .int (iI (k_ + 1))), (1, .long (lI ((((41 * (((37 * h_) + (10 * (GL_v g 2 k_))) + (GL_v g 3 k_))) + (10000 * (GL_v g 4 k_))) + (100 * (GL_v g 5 k_))) + (GL_v g 6 k_)))), (5, .int (iI (GL_v g 3 k_))), (4, .int (iI (GL_v g 2 k_))), (0, .ref (ad 0))]) hx hb dL_sum_137 hl (k := 3) rfl (by decide) rfl (fun ls hl => ?_)
        refine lv_goto (tgt := 55) hx hb dL_sum_140 (by decide) ?_
        exact ih55 (k_ + 1) ((((41 * (((37 * h_) + (10 * (GL_v g 2 k_))) + (GL_v g 3 k_))) + (10000 * (GL_v g 4 k_))) + (100 * (GL_v g 5 k_))) + (GL_v g 6 k_)) g131_34 _ _ _ _ _ (by exact hr) (by omega) (by rw [suN_s (by omega), ← hh1]; rfl) (by omega) (by omega) hP hD hS (lv_sub hl [0, 1, 4] rfl)
  exact L55 _ 0 ((31 * ((31 * (((31 * (7 + (GL_v g 14 0))) + (100 * (GL_v g 13 0))) + (GL_v g 15 0))) + (GL_v g 16 0))) + (GL_v g 17 0)) g48_8 _ _ _ _ _ (by exact hr) (by omega) (by rfl) (by omega) (Nat.lt_succ_self _) hP hD hS (lv_sub hl [0, 1, 2] rfl)
