/-! ===== HarborLightsModel: reading a text ===== -/
def skP (txt : Int → Int) (len p : Int) (i : Nat) (w p' w' : Int) : Prop := (w = 1 ∧ p' = p ∧ w' = 1) ∨ (w = 0 ∧ p' = p + mtW txt len p (sTx.getD i []) ∧ ((w' = 0 ∧ mtW txt len p (sTx.getD i []) = (sLn i : Nat)) ∨ (w' = 1 ∧ mtW txt len p (sTx.getD i []) ≠ (sLn i : Nat))))
def skI (txt : Int → Int) (len p : Int) (i : Nat) (w k p9 w9 : Int) : Prop := (w9 = 0 ∧ w = 0 ∧ mtI txt len p i k ∧ p9 = p + k) ∨ (w9 = 1 ∧ skP txt len p i w p9 1)
theorem skI_0 {txt : Int → Int} {len p w : Int} {i : Nat} (h : w = 0 ∨ w = 1) : skI txt len p i w 0 p w :=
  h.elim (fun h => Or.inl ⟨h, h, mtI_0, (Int.add_zero p).symm⟩) (fun h => Or.inr ⟨h, Or.inl ⟨h, rfl, rfl⟩⟩)
theorem skI_y {txt : Int → Int} {len p w k p9 w9 z p1 w1 : Int} {i : Nat} (h : skI txt len p i w k p9 w9) (h0 : w9 = 0) (hk : k < (sLn i : Nat)) (hz : (p9 < len ∧ z = txt p9) ∨ (len ≤ p9 ∧ z = -1)) (he : z = sCh i k) (hc : 0 ≤ sCh i k) (hp : p1 = p9 + 1) (hw : w1 = 0) : skI txt len p i w (k + 1) p1 w1 := by
  rcases h with ⟨a, b, c, d⟩ | ⟨a, -⟩
  · rcases hz with ⟨e, f⟩ | ⟨e, f⟩
    · exact Or.inl ⟨hw, b, mtI_s c hk (by omega) (by rw [← d, ← f]; exact he), by omega⟩
    · exfalso; omega
  · exfalso; omega
theorem skI_n {txt : Int → Int} {len p w k p9 w9 z p1 w1 : Int} {i : Nat} (h : skI txt len p i w k p9 w9) (h0 : w9 = 0) (hk : k < (sLn i : Nat)) (hz : (p9 < len ∧ z = txt p9) ∨ (len ≤ p9 ∧ z = -1)) (he : z ≠ sCh i k) (hp : p1 = p9) (hw : w1 = 1) : skI txt len p i w (k + 1) p1 w1 := by
  rcases h with ⟨a, b, c, d⟩ | ⟨a, -⟩
  · have e := mtI_end c (Or.inr (fun g => by
      rcases hz with ⟨e, f⟩ | ⟨e, f⟩
      · rw [d] at f
        exact he (f.trans g.2)
      · omega))
    exact Or.inr ⟨hw, Or.inr ⟨b, by omega, Or.inr ⟨rfl, by omega⟩⟩⟩
  · exfalso; omega
theorem skI_e {txt : Int → Int} {len p w k p9 w9 : Int} {i : Nat} (h : skI txt len p i w k p9 w9) (hk : k = (sLn i : Nat) ∨ w9 ≠ 0) : skP txt len p i w p9 w9 := by
  rcases h with ⟨a, b, c, d⟩ | ⟨a, b⟩
  · have g : k = (sLn i : Nat) := hk.elim id (fun g => absurd a g)
    have e := mtI_end c (Or.inl g)
    exact Or.inr ⟨b, by omega, Or.inl ⟨a, by omega⟩⟩
  · rw [a]; exact b
/-- a blank and a number -/
def rnP (txt : Int → Int) (len p w most z p' w' : Int) : Prop := (w = 1 ∧ z = 0 ∧ p' = p ∧ w' = 1) ∨ (w = 0 ∧ ¬ (p < len ∧ txt p = 32) ∧ z = 0 ∧ p' = p ∧ w' = 1) ∨ (w = 0 ∧ (p < len ∧ txt p = 32) ∧ ctD txt len most.toNat (p + 1) = 0 ∧ z = 0 ∧ p' = p + 1 ∧ w' = 1) ∨
  (w = 0 ∧ (p < len ∧ txt p = 32) ∧ ctD txt len most.toNat (p + 1) ≠ 0 ∧ z = nvD txt (p + 1) (ctD txt len most.toNat (p + 1)).toNat ∧ p' = p + 1 + ctD txt len most.toNat (p + 1) ∧ w' = 0)
def rnI (txt : Int → Int) (len p w most k v p9 w9 : Int) : Prop := (w9 = 1 ∧ rnP txt len p w most 0 p9 1 ∧ v = 0) ∨ (w9 = 0 ∧ w = 0 ∧ (p < len ∧ txt p = 32) ∧ ctD txt len most.toNat (p + 1) ≠ 0 ∧ ctI txt len (p + 1) most k v ∧ p9 = p + 1 + k)
theorem mt_sp {txt : Int → Int} {len p : Int} : (mtW txt len p (sTx.getD 14 []) = 1 ∧ p < len ∧ txt p = 32) ∨ (mtW txt len p (sTx.getD 14 []) = 0 ∧ ¬ (p < len ∧ txt p = 32)) := by
  have e : mtW txt len p (sTx.getD 14 []) = if p < len ∧ txt p = 32 then (0 : Int) + 1 else 0 := rfl
  rw [e]
  by_cases g : p < len ∧ txt p = 32
  · rw [if_pos g]; exact Or.inl ⟨rfl, g⟩
  · rw [if_neg g]; exact Or.inr ⟨rfl, g⟩
theorem ct_no {txt : Int → Int} {len p most : Int} (hm : 1 ≤ most) (h : ¬ (p < len ∧ 48 ≤ txt p ∧ txt p ≤ 57)) : ctD txt len most.toNat p = 0 := by
  rw [show most.toNat = (most.toNat - 1) + 1 by omega]
  exact if_neg h
theorem ct_ye {txt : Int → Int} {len p most : Int} (hm : 1 ≤ most) (hp : p + 1 ≤ len) (h : p < len ∧ 48 ≤ txt p ∧ txt p ≤ 57) : ctD txt len most.toNat p ≠ 0 := by
  rw [show most.toNat = (most.toNat - 1) + 1 by omega]
  have e : ctD txt len ((most.toNat - 1) + 1) p = ctD txt len (most.toNat - 1) (p + 1) + 1 := if_pos h
  rw [e]
  have := ctD_in txt len (most.toNat - 1) (p + 1) hp
  omega
theorem rnI_a {txt : Int → Int} {len p w most p1 w1 : Int} (h : skP txt len p 14 w p1 w1) (h1 : w1 = 1) : rnI txt len p w most 0 0 p1 1 := by
  refine Or.inl ⟨rfl, ?_, rfl⟩
  have g := @mt_sp txt len p
  have e : ((sLn 14 : Nat) : Int) = 1 := by decide
  rcases h with ⟨a, b, c⟩ | ⟨a, b, ⟨c, d⟩ | ⟨c, d⟩⟩
  · exact Or.inl ⟨a, rfl, b, rfl⟩
  · exfalso; omega
  · rcases g with g | g
    · exfalso; omega
    · exact Or.inr (Or.inl ⟨a, g.2, rfl, by omega, rfl⟩)
theorem rnI_b {txt : Int → Int} {len p w most p1 w1 z : Int} (h : skP txt len p 14 w p1 w1) (h1 : w1 = 0) (hm : 1 ≤ most) (hd : (z = 1 ∧ w1 = 0 ∧ p1 < len ∧ 48 ≤ txt p1 ∧ txt p1 ≤ 57) ∨ (z = 0 ∧ ¬ (w1 = 0 ∧ p1 < len ∧ 48 ≤ txt p1 ∧ txt p1 ≤ 57))) (hz : z = 0) : rnI txt len p w most 0 0 p1 1 := by
  refine Or.inl ⟨rfl, ?_, rfl⟩
  have g := @mt_sp txt len p
  have e : ((sLn 14 : Nat) : Int) = 1 := by decide
  rcases h with ⟨a, b, c⟩ | ⟨a, b, ⟨c, d⟩ | ⟨c, d⟩⟩
  · exfalso; omega
  · rcases g with g | g
    · have q : p1 = p + 1 := by omega
      subst q
      exact Or.inr (Or.inr (Or.inl ⟨a, g.2, ct_no hm (by omega), rfl, rfl, rfl⟩))
    · exfalso; omega
  · exfalso; omega
theorem rnI_c {txt : Int → Int} {len p w most p1 w1 z : Int} (h : skP txt len p 14 w p1 w1) (h1 : w1 = 0) (hm : 1 ≤ most) (hd : (z = 1 ∧ w1 = 0 ∧ p1 < len ∧ 48 ≤ txt p1 ∧ txt p1 ≤ 57) ∨ (z = 0 ∧ ¬ (w1 = 0 ∧ p1 < len ∧ 48 ≤ txt p1 ∧ txt p1 ≤ 57))) (hz : z ≠ 0) : rnI txt len p w most 0 0 p1 0 := by
  have g := @mt_sp txt len p
  have e : ((sLn 14 : Nat) : Int) = 1 := by decide
  rcases h with ⟨a, b, c⟩ | ⟨a, b, ⟨c, d⟩ | ⟨c, d⟩⟩
  · exfalso; omega
  · rcases g with g | g
    · have q : p1 = p + 1 := by omega
      subst q
      exact Or.inr ⟨rfl, a, g.2, ct_ye hm (by omega) (by omega), ctI_0 (by omega), by omega⟩
    · exfalso; omega
  · exfalso; omega
theorem rnI_s {txt : Int → Int} {len p w most k v p9 w9 z v1 p1 : Int} (h : rnI txt len p w most k v p9 w9) (hk : k < most) (hd : (z = 1 ∧ w9 = 0 ∧ p9 < len ∧ 48 ≤ txt p9 ∧ txt p9 ≤ 57) ∨ (z = 0 ∧ ¬ (w9 = 0 ∧ p9 < len ∧ 48 ≤ txt p9 ∧ txt p9 ≤ 57))) (hz : z ≠ 0) (hv : v1 = 10 * v + txt p9 - 48) (hp : p1 = p9 + 1) : rnI txt len p w most (k + 1) v1 p1 w9 := by
  rcases h with ⟨a, -⟩ | ⟨a, b, c, d, e, f⟩
  · exfalso; omega
  · have q : p + 1 + k = p9 := by omega
    have s := ctI_s e hk (by rw [q]; omega)
    rw [q] at s
    rw [show v1 = v * 10 + (txt p9 - 48) by omega]
    exact Or.inr ⟨a, b, c, d, s, by omega⟩
theorem rnI_e {txt : Int → Int} {len p w most k v p9 w9 z : Int} (h : rnI txt len p w most k v p9 w9) (hk : k = most ∨ ((z = 1 ∧ w9 = 0 ∧ p9 < len ∧ 48 ≤ txt p9 ∧ txt p9 ≤ 57) ∨ (z = 0 ∧ ¬ (w9 = 0 ∧ p9 < len ∧ 48 ≤ txt p9 ∧ txt p9 ≤ 57))) ∧ z = 0) : rnP txt len p w most v p9 w9 := by
  rcases h with ⟨a, b, c⟩ | ⟨a, b, c, d, e, f⟩
  · rw [a, c]; exact b
  · have q : p + 1 + k = p9 := by omega
    have s := ctI_end e (by rw [q]; omega)
    exact Or.inr (Or.inr (Or.inr ⟨b, c, d, s.2, by omega, a⟩))
set_option maxHeartbeats 4000000 in
set_option maxRecDepth 100000 in
theorem c_X11_skip (l : Launch) (K : Nat → Nat) (D : va_G) (tA : Nat → ClassId) (a0 a1 a2 a3 a4 a5 a6 a7 a8 a9 a10 : Nat) (sz : Nat) (ms : Int → Int) (mbef : Int → Int) (msav : Int → Int) (misv : Int) (mpast : Int → Int) (mpm : Int) (mthr : Int) (mways : Int → Int) (mnds : Int → Int) (mtkp : Int → Int) (mline : Int → Int) (mlm : Int) (mtxt : Int → Int) (mlen : Int) (mat : Int) (mwr : Int) (merr : Int) (mfail : Int) (mcmd : Int → Int) (mcm : Int) (si : Nat) (hsi : si < 15) (hln : 0 ≤ mlen ∧ mlen ≤ 60) (htx : ∀ j, 0 ≤ j → j < mlen → 0 ≤ mtxt j ∧ mtxt j ≤ 65535) (hat : 0 ≤ mat ∧ mat ≤ mlen) (hw : mwr = 0 ∨ mwr = 1) : zCv l yX11_skip wsX11_skip ({ frames := 4, cells := 0, slots := 0, locals := 85 }) K D tA [.ref a0, .ref (K (100 + si))] (bModel tA a0 a1 a2 a3 a4 a5 a6 a7 a8 a9 a10 ms mbef msav misv mpast mpm mthr mways mnds mtkp mline mlm mtxt mlen mat mwr merr mfail mcmd mcm) sz (fun (u : (Int) × (Int)) => (skP mtxt mlen mat si mwr u.1 u.2) ∧ (0 ≤ u.1 ∧ u.1 ≤ mlen ∧ (u.2 = 0 ∨ u.2 = 1))) (fun (u : (Int) × (Int)) => bModel tA a0 a1 a2 a3 a4 a5 a6 a7 a8 a9 a10 ms mbef msav misv mpast mpm mthr mways mnds mtkp mline mlm mtxt mlen u.1 u.2 merr mfail mcmd mcm) 0 0 := by
  refine zCv_of (cc := cX11_skip) (maxL := 3) (by decide) rfl (Nat.le_of_ble_eq_true rfl) ?_
  intro p e s m args below meth c A Q ls hx hb hml hts hown hK hP hD hA hCn hret hl
  obtain ⟨H, hHe⟩ : ∃ H : Heap, H = s.heap := ⟨_, rfl⟩
  have hS : va_S A s.heap H [] := by rw [hHe]; exact va_S.rf
  rw [← hHe] at hP ⊢
  have hl : lv_has ls 3 [(0, .ref a0), (1, .ref (K (100 + si)))] := hl
  have iX11 : ∀ v ∈ wsX110, v ∈ wsX11_skip := by decide +kernel
  have f_208 := hts (.fieldLink RX11 208 "HarborLightsModel" "at" "I") (by decide +kernel)
  have f_215 := hts (.fieldLink RX11 215 "HarborLightsModel" "isWrong" "Z") (by decide +kernel)
  refine zz_iconst hx hb dX11_skip_0 ?_
  refine lv_istore_n (lv' := [(2, .int (iI 0)), (0, .ref a0), (1, .ref (K (100 + si)))]) hx hb dX11_skip_1 rfl hl (by decide) rfl (fun ls hl => ?_)
  have L2 : ∀ (n : Nat) (k : Int) (p9 : Int) (w9 : Int) (H : Heap) (locs : List Loc) (ls : Array Slot), (0 ≤ k ∧ k ≤ ((sLn si : Nat) : Int)) → (skI mtxt mlen mat si mwr k p9 w9) → (0 ≤ p9 ∧ p9 ≤ mlen ∧ (w9 = 0 ∨ w9 = 1)) → (((sLn si : Nat) : Int) - k).toNat < n → va_P D vwCl (bModel tA a0 a1 a2 a3 a4 a5 a6 a7 a8 a9 a10 ms mbef msav misv mpast mpm mthr mways mnds mtkp mline mlm mtxt mlen p9 w9 merr mfail mcmd mcm) H → va_D A (bModel tA a0 a1 a2 a3 a4 a5 a6 a7 a8 a9 a10 ms mbef msav misv mpast mpm mthr mways mnds mtkp mline mlm mtxt mlen p9 w9 merr mfail mcmd mcm) → va_S A s.heap H locs → lv_has ls 3 [(2, .int (iI k)), (0, .ref a0), (1, .ref (K (100 + si)))] → W p l e (headSpec wsX11_skip ({ frames := 4, cells := 0, slots := 0, locals := 85 })).room s m args below meth c H locs 0 0 Q (F0 m 2 ls []) := by
    intro n
    induction n with
    | zero => intro k p9 w9 H locs ls i0 i1 i2 hmz; exact absurd hmz (Nat.not_lt_zero _)
    | succ n ih2 =>
      intro k p9 w9 H locs ls i0 i1 i2 hmz hP hD hS hl
      have k5 := sLn_le si
      refine lv_iload_n hx hb dX11_skip_2 rfl (lv_at hl 0 rfl) ?_
      refine lv_aload_n hx hb dX11_skip_3 rfl (lv_at hl 2 rfl) ?_
      refine zc_callOi (As := []) (rest := [.int (iI k)]) (wf := fun u => bModel tA a0 a1 a2 a3 a4 a5 a6 a7 a8 a9 a10 ms mbef msav misv mpast mpm mthr mways mnds mtkp mline mlm mtxt mlen p9 w9 merr mfail mcmd mcm) ⟨hx, hb, hml, hown, hts⟩ (c_J0_length_8abf5 l K D tA  H.size si (by first | assumption | omega)) (cwV 0 hts gX11_skip_J0_length_8abf5 rfl rfl rfl (by decide +kernel) ⟨Nat.le_of_ble_eq_true rfl, Nat.le_of_ble_eq_true rfl⟩) hK hP hD hS hA hCn [] [0, 1, 2, 3, 4, 5, 6, 7, 8, 9, 10] [0, 1, 2, 3, 4, 5, 6, 7, 8, 9, 10] rfl rfl (by decide) (by decide) (by decide) (by decide) (fun _ => rfl) (hCn.1.2.2 si (by omega)).1 rfl rfl hl.1 (Nat.le_of_ble_eq_true rfl) dX11_skip_4 ⟨Nat.le_of_ble_eq_true rfl, Nat.le_of_ble_eq_true rfl⟩ ?_
      intro z4_1 u H locs p4_2 hP hD hS
      have hP : va_P D vwCl (bModel tA a0 a1 a2 a3 a4 a5 a6 a7 a8 a9 a10 ms mbef msav misv mpast mpm mthr mways mnds mtkp mline mlm mtxt mlen p9 w9 merr mfail mcmd mcm) H := hP
      have hD : va_D A (bModel tA a0 a1 a2 a3 a4 a5 a6 a7 a8 a9 a10 ms mbef msav misv mpast mpm mthr mways mnds mtkp mline mlm mtxt mlen p9 w9 merr mfail mcmd mcm) := hD
      have q_4 : z4_1 = ((sLn si : Nat) : Int) := p4_2
      refine zz_icmp_ge (tgt := 66) hx hb dX11_skip_7 (by decide) (by omega) (by omega) (fun c_7 => ?_) (fun c_7 => ?_)
      · exact hret (p9, w9) _ _ _ _ dX11_skip_66 ⟨(show skP mtxt mlen mat si mwr p9 w9 from by exact skI_e i1 (by omega)), (show 0 ≤ p9 ∧ p9 ≤ mlen ∧ (w9 = 0 ∨ w9 = 1) from by omega)⟩ hP hD hS
      · refine lv_aload_n hx hb dX11_skip_10 rfl (lv_at hl 1 rfl) ?_
        refine va_get (D := D) (ci := 13) (v := .int (iI w9)) (C := RX11) (T := TX11) (N := 20) hx hb hts iX11 hown hK hP 0 rfl rfl 15 (by decide) f_215 (fun _ h9 => h9) rfl dX11_skip_11 ?_
        refine zz_if_ne (tgt := 66) hx hb dX11_skip_14 (by decide) (by omega) (fun c_14 => ?_) (fun c_14 => ?_)
        · exact hret (p9, w9) _ _ _ _ dX11_skip_66 ⟨(show skP mtxt mlen mat si mwr p9 w9 from by exact skI_e i1 (by omega)), (show 0 ≤ p9 ∧ p9 ≤ mlen ∧ (w9 = 0 ∨ w9 = 1) from by omega)⟩ hP hD hS
        · refine lv_aload_n hx hb dX11_skip_17 rfl (lv_at hl 1 rfl) ?_
          refine lv_aload_n hx hb dX11_skip_18 rfl (lv_at hl 1 rfl) ?_
          refine zz_iconst hx hb dX11_skip_19 ?_
          refine zz_callVi (As := [.int (iI 0)]) (rest := [.ref a0]) (wf := fun u => bModel tA a0 a1 a2 a3 a4 a5 a6 a7 a8 a9 a10 ms mbef msav misv mpast mpm mthr mways mnds mtkp mline mlm mtxt mlen p9 w9 merr mfail mcmd mcm) ⟨hx, hb, hml, hown, hts⟩ (c_X11_behind l D tA a0 a1 a2 a3 a4 a5 a6 a7 a8 a9 a10 H.size ms mbef msav misv mpast mpm mthr mways mnds mtkp mline mlm mtxt mlen p9 w9 merr mfail mcmd mcm 0 (by first | assumption | omega) (by first | assumption | omega) (by first | assumption | omega) (by first | assumption | omega) (by first | assumption | omega)) (cwV 1 hts gX11_skip_X11_behind rfl rfl rfl (by decide +kernel) ⟨Nat.le_of_ble_eq_true rfl, Nat.le_of_ble_eq_true rfl⟩) hK hP hD hS hA [0, 1, 2, 3, 4, 5, 6, 7, 8, 9, 10] [] [0, 1, 2, 3, 4, 5, 6, 7, 8, 9, 10] rfl rfl (by decide) (by decide) (by decide) (by decide) (fun _ => rfl) (ci := 13) (q0 := 0) rfl rfl rfl rfl rfl hl.1 (Nat.le_of_ble_eq_true rfl) dX11_skip_20 ⟨Nat.le_of_ble_eq_true rfl, Nat.le_of_ble_eq_true rfl⟩ ?_
          intro z20_3 u H locs p20_4 hP hD hS
          have hP : va_P D vwCl (bModel tA a0 a1 a2 a3 a4 a5 a6 a7 a8 a9 a10 ms mbef msav misv mpast mpm mthr mways mnds mtkp mline mlm mtxt mlen p9 w9 merr mfail mcmd mcm) H := hP
          have hD : va_D A (bModel tA a0 a1 a2 a3 a4 a5 a6 a7 a8 a9 a10 ms mbef msav misv mpast mpm mthr mways mnds mtkp mline mlm mtxt mlen p9 w9 merr mfail mcmd mcm) := hD
          have q_20 : (p9 + 0 < mlen ∧ z20_3 = mtxt (p9 + 0)) ∨ (mlen ≤ p9 + 0 ∧ z20_3 = -1) := p20_4.1
          have q2_20 : -1 ≤ z20_3 ∧ z20_3 ≤ 65535 := p20_4.2
          rw [Int.add_zero] at q_20
          refine lv_aload_n hx hb dX11_skip_23 rfl (lv_at hl 2 rfl) ?_
          refine lv_iload_n hx hb dX11_skip_24 rfl (lv_at hl 0 rfl) ?_
          refine zc_callOi (As := [.int (iI k)]) (rest := [.int (iI z20_3), .ref a0]) (wf := fun u => bModel tA a0 a1 a2 a3 a4 a5 a6 a7 a8 a9 a10 ms mbef msav misv mpast mpm mthr mways mnds mtkp mline mlm mtxt mlen p9 w9 merr mfail mcmd mcm) ⟨hx, hb, hml, hown, hts⟩ (c_J0_charAt_5068e l K D tA  H.size si k (by first | assumption | omega) (by first | assumption | omega) (by first | assumption | omega)) (cwV 1 hts gX11_skip_J0_charAt_5068e rfl rfl rfl (by decide +kernel) ⟨Nat.le_of_ble_eq_true rfl, Nat.le_of_ble_eq_true rfl⟩) hK hP hD hS hA hCn [] [0, 1, 2, 3, 4, 5, 6, 7, 8, 9, 10] [0, 1, 2, 3, 4, 5, 6, 7, 8, 9, 10] rfl rfl (by decide) (by decide) (by decide) (by decide) (fun _ => rfl) (hCn.1.2.2 si (by omega)).1 rfl rfl hl.1 (Nat.le_of_ble_eq_true rfl) dX11_skip_25 ⟨Nat.le_of_ble_eq_true rfl, Nat.le_of_ble_eq_true rfl⟩ ?_
          intro z25_5 u H locs p25_6 hP hD hS
          have hP : va_P D vwCl (bModel tA a0 a1 a2 a3 a4 a5 a6 a7 a8 a9 a10 ms mbef msav misv mpast mpm mthr mways mnds mtkp mline mlm mtxt mlen p9 w9 merr mfail mcmd mcm) H := hP
          have hD : va_D A (bModel tA a0 a1 a2 a3 a4 a5 a6 a7 a8 a9 a10 ms mbef msav misv mpast mpm mthr mways mnds mtkp mline mlm mtxt mlen p9 w9 merr mfail mcmd mcm) := hD
          have q_25 : z25_5 = sCh si k := p25_6.1
          have q2_25 : 0 ≤ z25_5 ∧ z25_5 ≤ 126 := p25_6.2
          refine zz_icmp_eq (tgt := 35) hx hb dX11_skip_28 (by decide) (by omega) (by omega) (fun c_28 => ?_) (fun c_28 => ?_)
          · refine zz_iconst hx hb dX11_skip_35 ?_
            refine va_put (D := D) (ci := 13) (v := .int (iI 0)) (ty := .boolean) (C := RX11) (T := TX11) (N := 20) hx hb hts iX11 tyX11 tyX11_ok nmX11 hown hK hP hD hS 0 rfl rfl 15 (by decide) f_215 (fun _ h9 => h9) rfl (by decide +kernel) (zbool _ (by omega)) (zfitZ _ (by omega)) (Nat.le_of_ble_eq_true rfl) dX11_skip_36 (fun H locs hP hD hS => ?_)
            have hP : va_P D vwCl (bModel tA a0 a1 a2 a3 a4 a5 a6 a7 a8 a9 a10 ms mbef msav misv mpast mpm mthr mways mnds mtkp mline mlm mtxt mlen p9 0 merr mfail mcmd mcm) H := hP
            have hD : va_D A (bModel tA a0 a1 a2 a3 a4 a5 a6 a7 a8 a9 a10 ms mbef msav misv mpast mpm mthr mways mnds mtkp mline mlm mtxt mlen p9 0 merr mfail mcmd mcm) := hD
            refine lv_aload_n hx hb dX11_skip_39 rfl (lv_at hl 1 rfl) ?_
            refine lv_dup hx hb dX11_skip_40 rfl ?_
            refine va_get (D := D) (ci := 13) (v := .int (iI p9)) (C := RX11) (T := TX11) (N := 20) hx hb hts iX11 hown hK hP 0 rfl rfl 14 (by decide) f_208 (fun _ h9 => h9) rfl dX11_skip_41 ?_
            refine lv_aload_n hx hb dX11_skip_44 rfl (lv_at hl 1 rfl) ?_
            refine va_get (D := D) (ci := 13) (v := .int (iI 0)) (C := RX11) (T := TX11) (N := 20) hx hb hts iX11 hown hK hP 0 rfl rfl 15 (by decide) f_215 (fun _ h9 => h9) rfl dX11_skip_45 ?_
            refine zz_if_eq (tgt := 55) hx hb dX11_skip_48 (by decide) (by decide) (fun c_48 => ?_) (fun c_48 => ?_)
            · refine zz_iconst hx hb dX11_skip_55 ?_
              refine zz_iadd hx hb dX11_skip_56 ?_
              refine va_put (D := D) (ci := 13) (v := .int (iI (p9 + 1))) (ty := .int) (C := RX11) (T := TX11) (N := 20) hx hb hts iX11 tyX11 tyX11_ok nmX11 hown hK hP hD hS 0 rfl rfl 14 (by decide) f_208 (fun _ h9 => h9) rfl (by decide +kernel) rfl rfl (Nat.le_of_ble_eq_true rfl) dX11_skip_57 (fun H locs hP hD hS => ?_)
              have hP : va_P D vwCl (bModel tA a0 a1 a2 a3 a4 a5 a6 a7 a8 a9 a10 ms mbef msav misv mpast mpm mthr mways mnds mtkp mline mlm mtxt mlen (p9 + 1) 0 merr mfail mcmd mcm) H := hP
              have hD : va_D A (bModel tA a0 a1 a2 a3 a4 a5 a6 a7 a8 a9 a10 ms mbef msav misv mpast mpm mthr mways mnds mtkp mline mlm mtxt mlen (p9 + 1) 0 merr mfail mcmd mcm) := hD
              refine zz_iinc (lv' := [(2, .int (iI (k + 1))), (0, .ref a0), (1, .ref (K (100 + si)))]) hx hb dX11_skip_60 hl (k := 0) rfl (by decide) rfl (fun ls hl => ?_)
              refine lv_goto (tgt := 2) hx hb dX11_skip_63 (by decide) ?_
              exact ih2 (k + 1) (p9 + 1) 0 _ _ _ (by omega) (by first | (exfalso; omega) | exact skI_y i1 (by omega) (by omega) q_20 (by omega) (by omega) (by omega) rfl | exact skI_n i1 (by omega) (by omega) q_20 (by omega) (by omega) rfl) (by omega) (by omega) hP hD hS (lv_sub hl [0, 1, 2] rfl)
            · exact absurd c_48 (by decide)
          · refine zz_iconst hx hb dX11_skip_31 ?_
            refine lv_goto (tgt := 36) hx hb dX11_skip_32 (by decide) ?_
            refine va_put (D := D) (ci := 13) (v := .int (iI 1)) (ty := .boolean) (C := RX11) (T := TX11) (N := 20) hx hb hts iX11 tyX11 tyX11_ok nmX11 hown hK hP hD hS 0 rfl rfl 15 (by decide) f_215 (fun _ h9 => h9) rfl (by decide +kernel) (zbool _ (by omega)) (zfitZ _ (by omega)) (Nat.le_of_ble_eq_true rfl) dX11_skip_36 (fun H locs hP hD hS => ?_)
            have hP : va_P D vwCl (bModel tA a0 a1 a2 a3 a4 a5 a6 a7 a8 a9 a10 ms mbef msav misv mpast mpm mthr mways mnds mtkp mline mlm mtxt mlen p9 1 merr mfail mcmd mcm) H := hP
            have hD : va_D A (bModel tA a0 a1 a2 a3 a4 a5 a6 a7 a8 a9 a10 ms mbef msav misv mpast mpm mthr mways mnds mtkp mline mlm mtxt mlen p9 1 merr mfail mcmd mcm) := hD
            refine lv_aload_n hx hb dX11_skip_39 rfl (lv_at hl 1 rfl) ?_
            refine lv_dup hx hb dX11_skip_40 rfl ?_
            refine va_get (D := D) (ci := 13) (v := .int (iI p9)) (C := RX11) (T := TX11) (N := 20) hx hb hts iX11 hown hK hP 0 rfl rfl 14 (by decide) f_208 (fun _ h9 => h9) rfl dX11_skip_41 ?_
            refine lv_aload_n hx hb dX11_skip_44 rfl (lv_at hl 1 rfl) ?_
            refine va_get (D := D) (ci := 13) (v := .int (iI 1)) (C := RX11) (T := TX11) (N := 20) hx hb hts iX11 hown hK hP 0 rfl rfl 15 (by decide) f_215 (fun _ h9 => h9) rfl dX11_skip_45 ?_
            refine zz_if_eq (tgt := 55) hx hb dX11_skip_48 (by decide) (by decide) (fun c_48 => ?_) (fun c_48 => ?_)
            · exact absurd c_48 (by decide)
            · refine zz_iconst hx hb dX11_skip_51 ?_
              refine lv_goto (tgt := 56) hx hb dX11_skip_52 (by decide) ?_
              refine zz_iadd hx hb dX11_skip_56 ?_
              refine va_put (D := D) (ci := 13) (v := .int (iI (p9 + 0))) (ty := .int) (C := RX11) (T := TX11) (N := 20) hx hb hts iX11 tyX11 tyX11_ok nmX11 hown hK hP hD hS 0 rfl rfl 14 (by decide) f_208 (fun _ h9 => h9) rfl (by decide +kernel) rfl rfl (Nat.le_of_ble_eq_true rfl) dX11_skip_57 (fun H locs hP hD hS => ?_)
              have hP : va_P D vwCl (bModel tA a0 a1 a2 a3 a4 a5 a6 a7 a8 a9 a10 ms mbef msav misv mpast mpm mthr mways mnds mtkp mline mlm mtxt mlen (p9 + 0) 1 merr mfail mcmd mcm) H := hP
              have hD : va_D A (bModel tA a0 a1 a2 a3 a4 a5 a6 a7 a8 a9 a10 ms mbef msav misv mpast mpm mthr mways mnds mtkp mline mlm mtxt mlen (p9 + 0) 1 merr mfail mcmd mcm) := hD
              refine zz_iinc (lv' := [(2, .int (iI (k + 1))), (0, .ref a0), (1, .ref (K (100 + si)))]) hx hb dX11_skip_60 hl (k := 0) rfl (by decide) rfl (fun ls hl => ?_)
              refine lv_goto (tgt := 2) hx hb dX11_skip_63 (by decide) ?_
              exact ih2 (k + 1) (p9 + 0) 1 _ _ _ (by omega) (by first | (exfalso; omega) | exact skI_y i1 (by omega) (by omega) q_20 (by omega) (by omega) (by omega) rfl | exact skI_n i1 (by omega) (by omega) q_20 (by omega) (by omega) rfl) (by omega) (by omega) hP hD hS (lv_sub hl [0, 1, 2] rfl)
  exact L2 _ 0 mat mwr _ _ _ (by omega) (by exact skI_0 hw) (by omega) (Nat.lt_succ_self _) hP hD hS (lv_sub hl [0, 1, 2] rfl)

set_option maxHeartbeats 4000000 in
set_option maxRecDepth 100000 in
theorem c_X11_readNumber (l : Launch) (K : Nat → Nat) (D : va_G) (tA : Nat → ClassId) (a0 a1 a2 a3 a4 a5 a6 a7 a8 a9 a10 : Nat) (sz : Nat) (ms : Int → Int) (mbef : Int → Int) (msav : Int → Int) (misv : Int) (mpast : Int → Int) (mpm : Int) (mthr : Int) (mways : Int → Int) (mnds : Int → Int) (mtkp : Int → Int) (mline : Int → Int) (mlm : Int) (mtxt : Int → Int) (mlen : Int) (mat : Int) (mwr : Int) (merr : Int) (mfail : Int) (mcmd : Int → Int) (mcm : Int) (most : Int) (r_most : -2147483648 ≤ most ∧ most ≤ 2147483647) (hmo : 1 ≤ most ∧ most ≤ 4) (hln : 0 ≤ mlen ∧ mlen ≤ 60) (htx : ∀ j, 0 ≤ j → j < mlen → 0 ≤ mtxt j ∧ mtxt j ≤ 65535) (hat : 0 ≤ mat ∧ mat ≤ mlen) (hw : mwr = 0 ∨ mwr = 1) : zCi l yX11_readNumber wsX11_readNumber ({ frames := 5, cells := 0, slots := 0, locals := 107 }) K D tA [.ref a0, .int (iI most)] (bModel tA a0 a1 a2 a3 a4 a5 a6 a7 a8 a9 a10 ms mbef msav misv mpast mpm mthr mways mnds mtkp mline mlm mtxt mlen mat mwr merr mfail mcmd mcm) sz (fun (z : Int) (u : (Int) × (Int)) => (rnP mtxt mlen mat mwr most z u.1 u.2) ∧ (0 ≤ u.1 ∧ u.1 ≤ mlen ∧ (u.2 = 0 ∨ u.2 = 1))) (fun (u : (Int) × (Int)) => bModel tA a0 a1 a2 a3 a4 a5 a6 a7 a8 a9 a10 ms mbef msav misv mpast mpm mthr mways mnds mtkp mline mlm mtxt mlen u.1 u.2 merr mfail mcmd mcm) 0 0 := by
  refine zCi_of (cc := cX11_readNumber) (maxL := 4) (by decide) rfl (fun z u h => rfl) (Nat.le_of_ble_eq_true rfl) ?_
  intro p e s m args below meth c A Q ls hx hb hml hts hown hK hP hD hA hCn hret hl
  obtain ⟨H, hHe⟩ : ∃ H : Heap, H = s.heap := ⟨_, rfl⟩
  have hS : va_S A s.heap H [] := by rw [hHe]; exact va_S.rf
  rw [← hHe] at hP ⊢
  have hl : lv_has ls 4 [(0, .ref a0), (1, .int (iI most))] := hl
  have iX11 : ∀ v ∈ wsX110, v ∈ wsX11_readNumber := by decide +kernel
  have f_36 := hts (.fieldLink RX11 36 "HarborLightsModel" "text" "[C") (by decide +kernel)
  have f_208 := hts (.fieldLink RX11 208 "HarborLightsModel" "at" "I") (by decide +kernel)
  have f_215 := hts (.fieldLink RX11 215 "HarborLightsModel" "isWrong" "Z") (by decide +kernel)
  refine lv_aload_n hx hb dX11_readNumber_0 rfl (lv_at hl 0 rfl) ?_
  refine va_ldcS hx hb hown (hCn.2 (226, " ", 14) (by decide)) dX11_readNumber_1 ?_
  refine zc_callVv (As := [.ref (K (100 + 14))]) (rest := []) (wf := fun u => bModel tA a0 a1 a2 a3 a4 a5 a6 a7 a8 a9 a10 ms mbef msav misv mpast mpm mthr mways mnds mtkp mline mlm mtxt mlen u.1 u.2 merr mfail mcmd mcm) ⟨hx, hb, hml, hown, hts⟩ (c_X11_skip l K D tA a0 a1 a2 a3 a4 a5 a6 a7 a8 a9 a10 H.size ms mbef msav misv mpast mpm mthr mways mnds mtkp mline mlm mtxt mlen mat mwr merr mfail mcmd mcm 14 (by first | assumption | omega) (by first | assumption | omega) (by first | assumption | omega) (by first | assumption | omega) (by first | assumption | omega)) (cwV 1 hts gX11_readNumber_X11_skip rfl rfl rfl (by decide +kernel) ⟨Nat.le_of_ble_eq_true rfl, Nat.le_of_ble_eq_true rfl⟩) hK hP hD hS hA hCn [0, 1, 2, 3, 4, 5, 6, 7, 8, 9, 10] [] [0, 1, 2, 3, 4, 5, 6, 7, 8, 9, 10] rfl rfl (by decide) (by decide) (by decide) (by decide) (fun _ => rfl) (ci := 13) (q0 := 0) rfl rfl rfl rfl rfl hl.1 (Nat.le_of_ble_eq_true rfl) dX11_readNumber_3 ⟨Nat.le_of_ble_eq_true rfl, Nat.le_of_ble_eq_true rfl⟩ ?_
  intro u H locs p3_3 hP hD hS
  obtain ⟨mat_1, mwr_2⟩ := u
  have hP : va_P D vwCl (bModel tA a0 a1 a2 a3 a4 a5 a6 a7 a8 a9 a10 ms mbef msav misv mpast mpm mthr mways mnds mtkp mline mlm mtxt mlen mat_1 mwr_2 merr mfail mcmd mcm) H := hP
  have hD : va_D A (bModel tA a0 a1 a2 a3 a4 a5 a6 a7 a8 a9 a10 ms mbef msav misv mpast mpm mthr mways mnds mtkp mline mlm mtxt mlen mat_1 mwr_2 merr mfail mcmd mcm) := hD
  have q_3 : skP mtxt mlen mat 14 mwr mat_1 mwr_2 := p3_3.1
  have q2_3 : 0 ≤ mat_1 ∧ mat_1 ≤ mlen ∧ (mwr_2 = 0 ∨ mwr_2 = 1) := p3_3.2
  refine lv_aload_n hx hb dX11_readNumber_6 rfl (lv_at hl 0 rfl) ?_
  refine lv_aload_n hx hb dX11_readNumber_7 rfl (lv_at hl 0 rfl) ?_
  refine va_get (D := D) (ci := 13) (v := .int (iI mwr_2)) (C := RX11) (T := TX11) (N := 20) hx hb hts iX11 hown hK hP 0 rfl rfl 15 (by decide) f_215 (fun _ h9 => h9) rfl dX11_readNumber_8 ?_
  refine zz_if_ne (tgt := 21) hx hb dX11_readNumber_11 (by decide) (by omega) (fun c_11 => ?_) (fun c_11 => ?_)
  · refine zz_iconst hx hb dX11_readNumber_21 ?_
    refine lv_goto (tgt := 26) hx hb dX11_readNumber_22 (by decide) ?_
    refine va_put (D := D) (ci := 13) (v := .int (iI 1)) (ty := .boolean) (C := RX11) (T := TX11) (N := 20) hx hb hts iX11 tyX11 tyX11_ok nmX11 hown hK hP hD hS 0 rfl rfl 15 (by decide) f_215 (fun _ h9 => h9) rfl (by decide +kernel) (zbool _ (by omega)) (zfitZ _ (by omega)) (Nat.le_of_ble_eq_true rfl) dX11_readNumber_26 (fun H locs hP hD hS => ?_)
    have hP : va_P D vwCl (bModel tA a0 a1 a2 a3 a4 a5 a6 a7 a8 a9 a10 ms mbef msav misv mpast mpm mthr mways mnds mtkp mline mlm mtxt mlen mat_1 1 merr mfail mcmd mcm) H := hP
    have hD : va_D A (bModel tA a0 a1 a2 a3 a4 a5 a6 a7 a8 a9 a10 ms mbef msav misv mpast mpm mthr mways mnds mtkp mline mlm mtxt mlen mat_1 1 merr mfail mcmd mcm) := hD
    refine zz_iconst hx hb dX11_readNumber_29 ?_
    refine lv_istore_n (lv' := [(2, .int (iI 0)), (0, .ref a0), (1, .int (iI most))]) hx hb dX11_readNumber_30 rfl hl (by decide) rfl (fun ls hl => ?_)
    refine zz_iconst hx hb dX11_readNumber_31 ?_
    refine lv_istore_n (lv' := [(3, .int (iI 0)), (2, .int (iI 0)), (0, .ref a0), (1, .int (iI most))]) hx hb dX11_readNumber_32 rfl hl (by decide) rfl (fun ls hl => ?_)
    have L33 : ∀ (n : Nat) (k : Int) (v : Int) (p9 : Int) (w9 : Int) (H : Heap) (locs : List Loc) (ls : Array Slot), (0 ≤ k ∧ k ≤ most) → (rnI mtxt mlen mat mwr most k v p9 w9) → (0 ≤ p9 ∧ p9 ≤ mlen ∧ (w9 = 0 ∨ w9 = 1)) → (most - k).toNat < n → va_P D vwCl (bModel tA a0 a1 a2 a3 a4 a5 a6 a7 a8 a9 a10 ms mbef msav misv mpast mpm mthr mways mnds mtkp mline mlm mtxt mlen p9 w9 merr mfail mcmd mcm) H → va_D A (bModel tA a0 a1 a2 a3 a4 a5 a6 a7 a8 a9 a10 ms mbef msav misv mpast mpm mthr mways mnds mtkp mline mlm mtxt mlen p9 w9 merr mfail mcmd mcm) → va_S A s.heap H locs → lv_has ls 4 [(3, .int (iI k)), (2, .int (iI v)), (0, .ref a0), (1, .int (iI most))] → W p l e (headSpec wsX11_readNumber ({ frames := 5, cells := 0, slots := 0, locals := 107 })).room s m args below meth c H locs 0 0 Q (F0 m 33 ls []) := by
      intro n
      induction n with
      | zero => intro k v p9 w9 H locs ls i0 i1 i2 hmz; exact absurd hmz (Nat.not_lt_zero _)
      | succ n ih33 =>
        intro k v p9 w9 H locs ls i0 i1 i2 hmz hP hD hS hl
        refine lv_iload_n hx hb dX11_readNumber_33 rfl (lv_at hl 0 rfl) ?_
        refine lv_iload_n hx hb dX11_readNumber_34 rfl (lv_at hl 3 rfl) ?_
        refine zz_icmp_ge (tgt := 79) hx hb dX11_readNumber_35 (by decide) (by omega) (by omega) (fun c_35 => ?_) (fun c_35 => ?_)
        · refine lv_iload_n hx hb dX11_readNumber_79 rfl (lv_at hl 1 rfl) ?_
          exact hret v (p9, w9) _ _ _ _ dX11_readNumber_80 ⟨(show rnP mtxt mlen mat mwr most v p9 w9 from by first | exact rnI_e (z := 0) i1 (Or.inl (by omega)) | exact rnI_e i1 (Or.inr ⟨q_39, by omega⟩)), (show 0 ≤ p9 ∧ p9 ≤ mlen ∧ (w9 = 0 ∨ w9 = 1) from by omega)⟩ hP hD hS
        · refine lv_aload_n hx hb dX11_readNumber_38 rfl (lv_at hl 2 rfl) ?_
          refine zz_callVi (As := []) (rest := []) (wf := fun u => bModel tA a0 a1 a2 a3 a4 a5 a6 a7 a8 a9 a10 ms mbef msav misv mpast mpm mthr mways mnds mtkp mline mlm mtxt mlen p9 w9 merr mfail mcmd mcm) ⟨hx, hb, hml, hown, hts⟩ (c_X11_isDigit l D tA a0 a1 a2 a3 a4 a5 a6 a7 a8 a9 a10 H.size ms mbef msav misv mpast mpm mthr mways mnds mtkp mline mlm mtxt mlen p9 w9 merr mfail mcmd mcm (by first | assumption | omega) (by first | assumption | omega) (by first | assumption | omega) (by first | assumption | omega)) (cwV 0 hts gX11_readNumber_X11_isDigit rfl rfl rfl (by decide +kernel) ⟨Nat.le_of_ble_eq_true rfl, Nat.le_of_ble_eq_true rfl⟩) hK hP hD hS hA [0, 1, 2, 3, 4, 5, 6, 7, 8, 9, 10] [] [0, 1, 2, 3, 4, 5, 6, 7, 8, 9, 10] rfl rfl (by decide) (by decide) (by decide) (by decide) (fun _ => rfl) (ci := 13) (q0 := 0) rfl rfl rfl rfl rfl hl.1 (Nat.le_of_ble_eq_true rfl) dX11_readNumber_39 ⟨Nat.le_of_ble_eq_true rfl, Nat.le_of_ble_eq_true rfl⟩ ?_
          intro z39_4 u H locs p39_5 hP hD hS
          have hP : va_P D vwCl (bModel tA a0 a1 a2 a3 a4 a5 a6 a7 a8 a9 a10 ms mbef msav misv mpast mpm mthr mways mnds mtkp mline mlm mtxt mlen p9 w9 merr mfail mcmd mcm) H := hP
          have hD : va_D A (bModel tA a0 a1 a2 a3 a4 a5 a6 a7 a8 a9 a10 ms mbef msav misv mpast mpm mthr mways mnds mtkp mline mlm mtxt mlen p9 w9 merr mfail mcmd mcm) := hD
          have q_39 : (z39_4 = 1 ∧ w9 = 0 ∧ p9 < mlen ∧ 48 ≤ mtxt p9 ∧ mtxt p9 ≤ 57) ∨ (z39_4 = 0 ∧ ¬ (w9 = 0 ∧ p9 < mlen ∧ 48 ≤ mtxt p9 ∧ mtxt p9 ≤ 57)) := p39_5
          refine zz_if_eq (tgt := 79) hx hb dX11_readNumber_42 (by decide) (by omega) (fun c_42 => ?_) (fun c_42 => ?_)
          · refine lv_iload_n hx hb dX11_readNumber_79 rfl (lv_at hl 1 rfl) ?_
            exact hret v (p9, w9) _ _ _ _ dX11_readNumber_80 ⟨(show rnP mtxt mlen mat mwr most v p9 w9 from by first | exact rnI_e (z := 0) i1 (Or.inl (by omega)) | exact rnI_e i1 (Or.inr ⟨q_39, by omega⟩)), (show 0 ≤ p9 ∧ p9 ≤ mlen ∧ (w9 = 0 ∨ w9 = 1) from by omega)⟩ hP hD hS
          · refine zz_bipush hx hb dX11_readNumber_45 (by decide) ?_
            refine lv_iload_n hx hb dX11_readNumber_47 rfl (lv_at hl 1 rfl) ?_
            refine zz_imul hx hb dX11_readNumber_48 ?_
            refine lv_aload_n hx hb dX11_readNumber_49 rfl (lv_at hl 2 rfl) ?_
            refine va_get (D := D) (ci := 13) (v := .ref a9) (C := RX11) (T := TX11) (N := 20) hx hb hts iX11 hown hK hP 0 rfl rfl 12 (by decide) f_36 (fun _ h9 => h9) rfl dX11_readNumber_50 ?_
            refine lv_aload_n hx hb dX11_readNumber_53 rfl (lv_at hl 2 rfl) ?_
            refine va_get (D := D) (ci := 13) (v := .int (iI p9)) (C := RX11) (T := TX11) (N := 20) hx hb hts iX11 hown hK hP 0 rfl rfl 14 (by decide) f_208 (fun _ h9 => h9) rfl dX11_readNumber_54 ?_
            refine zz_cald hx hb hK hP 9 rfl (by decide) (by omega) dX11_readNumber_57 ?_
            have r_57 := htx p9 (by omega) (by omega)
            refine zz_iadd hx hb dX11_readNumber_58 ?_
            refine zz_bipush hx hb dX11_readNumber_59 (by decide) ?_
            refine zz_isub hx hb dX11_readNumber_61 ?_
            refine lv_istore_n (lv' := [(2, .int (iI (((10 * v) + (mtxt p9)) - 48))), (3, .int (iI k)), (0, .ref a0), (1, .int (iI most))]) hx hb dX11_readNumber_62 rfl hl (by decide) rfl (fun ls hl => ?_)
            refine lv_aload_n hx hb dX11_readNumber_63 rfl (lv_at hl 2 rfl) ?_
            refine lv_dup hx hb dX11_readNumber_64 rfl ?_
            refine va_get (D := D) (ci := 13) (v := .int (iI p9)) (C := RX11) (T := TX11) (N := 20) hx hb hts iX11 hown hK hP 0 rfl rfl 14 (by decide) f_208 (fun _ h9 => h9) rfl dX11_readNumber_65 ?_
            refine zz_iconst hx hb dX11_readNumber_68 ?_
            refine zz_iadd hx hb dX11_readNumber_69 ?_
            refine va_put (D := D) (ci := 13) (v := .int (iI (p9 + 1))) (ty := .int) (C := RX11) (T := TX11) (N := 20) hx hb hts iX11 tyX11 tyX11_ok nmX11 hown hK hP hD hS 0 rfl rfl 14 (by decide) f_208 (fun _ h9 => h9) rfl (by decide +kernel) rfl rfl (Nat.le_of_ble_eq_true rfl) dX11_readNumber_70 (fun H locs hP hD hS => ?_)
            have hP : va_P D vwCl (bModel tA a0 a1 a2 a3 a4 a5 a6 a7 a8 a9 a10 ms mbef msav misv mpast mpm mthr mways mnds mtkp mline mlm mtxt mlen (p9 + 1) w9 merr mfail mcmd mcm) H := hP
            have hD : va_D A (bModel tA a0 a1 a2 a3 a4 a5 a6 a7 a8 a9 a10 ms mbef msav misv mpast mpm mthr mways mnds mtkp mline mlm mtxt mlen (p9 + 1) w9 merr mfail mcmd mcm) := hD
            refine zz_iinc (lv' := [(3, .int (iI (k + 1))), (2, .int (iI (((10 * v) + (mtxt p9)) - 48))), (0, .ref a0), (1, .int (iI most))]) hx hb dX11_readNumber_73 hl (k := 1) rfl (by decide) rfl (fun ls hl => ?_)
            refine lv_goto (tgt := 33) hx hb dX11_readNumber_76 (by decide) ?_
            exact ih33 (k + 1) (((10 * v) + (mtxt p9)) - 48) (p9 + 1) w9 _ _ _ (by omega) (by exact rnI_s i1 (by omega) q_39 (by omega) rfl rfl) (by omega) (by omega) hP hD hS (lv_sub hl [0, 1, 2, 3] rfl)
    exact L33 _ 0 0 mat_1 1 _ _ _ (by omega) (by first | exact rnI_a q_3 (by omega) | exact rnI_b q_3 (by omega) (by omega) q_15 (by omega) | exact rnI_c q_3 (by omega) (by omega) q_15 (by omega)) (by omega) (Nat.lt_succ_self _) hP hD hS (lv_sub hl [0, 1, 2, 3] rfl)
  · refine lv_aload_n hx hb dX11_readNumber_14 rfl (lv_at hl 0 rfl) ?_
    refine zz_callVi (As := []) (rest := [.ref a0]) (wf := fun u => bModel tA a0 a1 a2 a3 a4 a5 a6 a7 a8 a9 a10 ms mbef msav misv mpast mpm mthr mways mnds mtkp mline mlm mtxt mlen mat_1 mwr_2 merr mfail mcmd mcm) ⟨hx, hb, hml, hown, hts⟩ (c_X11_isDigit l D tA a0 a1 a2 a3 a4 a5 a6 a7 a8 a9 a10 H.size ms mbef msav misv mpast mpm mthr mways mnds mtkp mline mlm mtxt mlen mat_1 mwr_2 merr mfail mcmd mcm (by first | assumption | omega) (by first | assumption | omega) (by first | assumption | omega) (by first | assumption | omega)) (cwV 0 hts gX11_readNumber_X11_isDigit rfl rfl rfl (by decide +kernel) ⟨Nat.le_of_ble_eq_true rfl, Nat.le_of_ble_eq_true rfl⟩) hK hP hD hS hA [0, 1, 2, 3, 4, 5, 6, 7, 8, 9, 10] [] [0, 1, 2, 3, 4, 5, 6, 7, 8, 9, 10] rfl rfl (by decide) (by decide) (by decide) (by decide) (fun _ => rfl) (ci := 13) (q0 := 0) rfl rfl rfl rfl rfl hl.1 (Nat.le_of_ble_eq_true rfl) dX11_readNumber_15 ⟨Nat.le_of_ble_eq_true rfl, Nat.le_of_ble_eq_true rfl⟩ ?_
    intro z15_6 u H locs p15_7 hP hD hS
    have hP : va_P D vwCl (bModel tA a0 a1 a2 a3 a4 a5 a6 a7 a8 a9 a10 ms mbef msav misv mpast mpm mthr mways mnds mtkp mline mlm mtxt mlen mat_1 mwr_2 merr mfail mcmd mcm) H := hP
    have hD : va_D A (bModel tA a0 a1 a2 a3 a4 a5 a6 a7 a8 a9 a10 ms mbef msav misv mpast mpm mthr mways mnds mtkp mline mlm mtxt mlen mat_1 mwr_2 merr mfail mcmd mcm) := hD
    have q_15 : (z15_6 = 1 ∧ mwr_2 = 0 ∧ mat_1 < mlen ∧ 48 ≤ mtxt mat_1 ∧ mtxt mat_1 ≤ 57) ∨ (z15_6 = 0 ∧ ¬ (mwr_2 = 0 ∧ mat_1 < mlen ∧ 48 ≤ mtxt mat_1 ∧ mtxt mat_1 ≤ 57)) := p15_7
    refine zz_if_ne (tgt := 25) hx hb dX11_readNumber_18 (by decide) (by omega) (fun c_18 => ?_) (fun c_18 => ?_)
    · refine zz_iconst hx hb dX11_readNumber_25 ?_
      refine va_put (D := D) (ci := 13) (v := .int (iI 0)) (ty := .boolean) (C := RX11) (T := TX11) (N := 20) hx hb hts iX11 tyX11 tyX11_ok nmX11 hown hK hP hD hS 0 rfl rfl 15 (by decide) f_215 (fun _ h9 => h9) rfl (by decide +kernel) (zbool _ (by omega)) (zfitZ _ (by omega)) (Nat.le_of_ble_eq_true rfl) dX11_readNumber_26 (fun H locs hP hD hS => ?_)
      have hP : va_P D vwCl (bModel tA a0 a1 a2 a3 a4 a5 a6 a7 a8 a9 a10 ms mbef msav misv mpast mpm mthr mways mnds mtkp mline mlm mtxt mlen mat_1 0 merr mfail mcmd mcm) H := hP
      have hD : va_D A (bModel tA a0 a1 a2 a3 a4 a5 a6 a7 a8 a9 a10 ms mbef msav misv mpast mpm mthr mways mnds mtkp mline mlm mtxt mlen mat_1 0 merr mfail mcmd mcm) := hD
      refine zz_iconst hx hb dX11_readNumber_29 ?_
      refine lv_istore_n (lv' := [(2, .int (iI 0)), (0, .ref a0), (1, .int (iI most))]) hx hb dX11_readNumber_30 rfl hl (by decide) rfl (fun ls hl => ?_)
      refine zz_iconst hx hb dX11_readNumber_31 ?_
      refine lv_istore_n (lv' := [(3, .int (iI 0)), (2, .int (iI 0)), (0, .ref a0), (1, .int (iI most))]) hx hb dX11_readNumber_32 rfl hl (by decide) rfl (fun ls hl => ?_)
      have L33 : ∀ (n : Nat) (k : Int) (v : Int) (p9 : Int) (w9 : Int) (H : Heap) (locs : List Loc) (ls : Array Slot), (0 ≤ k ∧ k ≤ most) → (rnI mtxt mlen mat mwr most k v p9 w9) → (0 ≤ p9 ∧ p9 ≤ mlen ∧ (w9 = 0 ∨ w9 = 1)) → (most - k).toNat < n → va_P D vwCl (bModel tA a0 a1 a2 a3 a4 a5 a6 a7 a8 a9 a10 ms mbef msav misv mpast mpm mthr mways mnds mtkp mline mlm mtxt mlen p9 w9 merr mfail mcmd mcm) H → va_D A (bModel tA a0 a1 a2 a3 a4 a5 a6 a7 a8 a9 a10 ms mbef msav misv mpast mpm mthr mways mnds mtkp mline mlm mtxt mlen p9 w9 merr mfail mcmd mcm) → va_S A s.heap H locs → lv_has ls 4 [(3, .int (iI k)), (2, .int (iI v)), (0, .ref a0), (1, .int (iI most))] → W p l e (headSpec wsX11_readNumber ({ frames := 5, cells := 0, slots := 0, locals := 107 })).room s m args below meth c H locs 0 0 Q (F0 m 33 ls []) := by
        intro n
        induction n with
        | zero => intro k v p9 w9 H locs ls i0 i1 i2 hmz; exact absurd hmz (Nat.not_lt_zero _)
        | succ n ih33 =>
          intro k v p9 w9 H locs ls i0 i1 i2 hmz hP hD hS hl
          refine lv_iload_n hx hb dX11_readNumber_33 rfl (lv_at hl 0 rfl) ?_
          refine lv_iload_n hx hb dX11_readNumber_34 rfl (lv_at hl 3 rfl) ?_
          refine zz_icmp_ge (tgt := 79) hx hb dX11_readNumber_35 (by decide) (by omega) (by omega) (fun c_35 => ?_) (fun c_35 => ?_)
          · refine lv_iload_n hx hb dX11_readNumber_79 rfl (lv_at hl 1 rfl) ?_
            exact hret v (p9, w9) _ _ _ _ dX11_readNumber_80 ⟨(show rnP mtxt mlen mat mwr most v p9 w9 from by first | exact rnI_e (z := 0) i1 (Or.inl (by omega)) | exact rnI_e i1 (Or.inr ⟨q_39, by omega⟩)), (show 0 ≤ p9 ∧ p9 ≤ mlen ∧ (w9 = 0 ∨ w9 = 1) from by omega)⟩ hP hD hS
          · refine lv_aload_n hx hb dX11_readNumber_38 rfl (lv_at hl 2 rfl) ?_
            refine zz_callVi (As := []) (rest := []) (wf := fun u => bModel tA a0 a1 a2 a3 a4 a5 a6 a7 a8 a9 a10 ms mbef msav misv mpast mpm mthr mways mnds mtkp mline mlm mtxt mlen p9 w9 merr mfail mcmd mcm) ⟨hx, hb, hml, hown, hts⟩ (c_X11_isDigit l D tA a0 a1 a2 a3 a4 a5 a6 a7 a8 a9 a10 H.size ms mbef msav misv mpast mpm mthr mways mnds mtkp mline mlm mtxt mlen p9 w9 merr mfail mcmd mcm (by first | assumption | omega) (by first | assumption | omega) (by first | assumption | omega) (by first | assumption | omega)) (cwV 0 hts gX11_readNumber_X11_isDigit rfl rfl rfl (by decide +kernel) ⟨Nat.le_of_ble_eq_true rfl, Nat.le_of_ble_eq_true rfl⟩) hK hP hD hS hA [0, 1, 2, 3, 4, 5, 6, 7, 8, 9, 10] [] [0, 1, 2, 3, 4, 5, 6, 7, 8, 9, 10] rfl rfl (by decide) (by decide) (by decide) (by decide) (fun _ => rfl) (ci := 13) (q0 := 0) rfl rfl rfl rfl rfl hl.1 (Nat.le_of_ble_eq_true rfl) dX11_readNumber_39 ⟨Nat.le_of_ble_eq_true rfl, Nat.le_of_ble_eq_true rfl⟩ ?_
            intro z39_8 u H locs p39_9 hP hD hS
            have hP : va_P D vwCl (bModel tA a0 a1 a2 a3 a4 a5 a6 a7 a8 a9 a10 ms mbef msav misv mpast mpm mthr mways mnds mtkp mline mlm mtxt mlen p9 w9 merr mfail mcmd mcm) H := hP
            have hD : va_D A (bModel tA a0 a1 a2 a3 a4 a5 a6 a7 a8 a9 a10 ms mbef msav misv mpast mpm mthr mways mnds mtkp mline mlm mtxt mlen p9 w9 merr mfail mcmd mcm) := hD
            have q_39 : (z39_8 = 1 ∧ w9 = 0 ∧ p9 < mlen ∧ 48 ≤ mtxt p9 ∧ mtxt p9 ≤ 57) ∨ (z39_8 = 0 ∧ ¬ (w9 = 0 ∧ p9 < mlen ∧ 48 ≤ mtxt p9 ∧ mtxt p9 ≤ 57)) := p39_9
            refine zz_if_eq (tgt := 79) hx hb dX11_readNumber_42 (by decide) (by omega) (fun c_42 => ?_) (fun c_42 => ?_)
            · refine lv_iload_n hx hb dX11_readNumber_79 rfl (lv_at hl 1 rfl) ?_
              exact hret v (p9, w9) _ _ _ _ dX11_readNumber_80 ⟨(show rnP mtxt mlen mat mwr most v p9 w9 from by first | exact rnI_e (z := 0) i1 (Or.inl (by omega)) | exact rnI_e i1 (Or.inr ⟨q_39, by omega⟩)), (show 0 ≤ p9 ∧ p9 ≤ mlen ∧ (w9 = 0 ∨ w9 = 1) from by omega)⟩ hP hD hS
            · refine zz_bipush hx hb dX11_readNumber_45 (by decide) ?_
              refine lv_iload_n hx hb dX11_readNumber_47 rfl (lv_at hl 1 rfl) ?_
              refine zz_imul hx hb dX11_readNumber_48 ?_
              refine lv_aload_n hx hb dX11_readNumber_49 rfl (lv_at hl 2 rfl) ?_
              refine va_get (D := D) (ci := 13) (v := .ref a9) (C := RX11) (T := TX11) (N := 20) hx hb hts iX11 hown hK hP 0 rfl rfl 12 (by decide) f_36 (fun _ h9 => h9) rfl dX11_readNumber_50 ?_
              refine lv_aload_n hx hb dX11_readNumber_53 rfl (lv_at hl 2 rfl) ?_
              refine va_get (D := D) (ci := 13) (v := .int (iI p9)) (C := RX11) (T := TX11) (N := 20) hx hb hts iX11 hown hK hP 0 rfl rfl 14 (by decide) f_208 (fun _ h9 => h9) rfl dX11_readNumber_54 ?_
              refine zz_cald hx hb hK hP 9 rfl (by decide) (by omega) dX11_readNumber_57 ?_
              have r_57 := htx p9 (by omega) (by omega)
              refine zz_iadd hx hb dX11_readNumber_58 ?_
              refine zz_bipush hx hb dX11_readNumber_59 (by decide) ?_
              refine zz_isub hx hb dX11_readNumber_61 ?_
              refine lv_istore_n (lv' := [(2, .int (iI (((10 * v) + (mtxt p9)) - 48))), (3, .int (iI k)), (0, .ref a0), (1, .int (iI most))]) hx hb dX11_readNumber_62 rfl hl (by decide) rfl (fun ls hl => ?_)
              refine lv_aload_n hx hb dX11_readNumber_63 rfl (lv_at hl 2 rfl) ?_
              refine lv_dup hx hb dX11_readNumber_64 rfl ?_
              refine va_get (D := D) (ci := 13) (v := .int (iI p9)) (C := RX11) (T := TX11) (N := 20) hx hb hts iX11 hown hK hP 0 rfl rfl 14 (by decide) f_208 (fun _ h9 => h9) rfl dX11_readNumber_65 ?_
              refine zz_iconst hx hb dX11_readNumber_68 ?_
              refine zz_iadd hx hb dX11_readNumber_69 ?_
              refine va_put (D := D) (ci := 13) (v := .int (iI (p9 + 1))) (ty := .int) (C := RX11) (T := TX11) (N := 20) hx hb hts iX11 tyX11 tyX11_ok nmX11 hown hK hP hD hS 0 rfl rfl 14 (by decide) f_208 (fun _ h9 => h9) rfl (by decide +kernel) rfl rfl (Nat.le_of_ble_eq_true rfl) dX11_readNumber_70 (fun H locs hP hD hS => ?_)
              have hP : va_P D vwCl (bModel tA a0 a1 a2 a3 a4 a5 a6 a7 a8 a9 a10 ms mbef msav misv mpast mpm mthr mways mnds mtkp mline mlm mtxt mlen (p9 + 1) w9 merr mfail mcmd mcm) H := hP
              have hD : va_D A (bModel tA a0 a1 a2 a3 a4 a5 a6 a7 a8 a9 a10 ms mbef msav misv mpast mpm mthr mways mnds mtkp mline mlm mtxt mlen (p9 + 1) w9 merr mfail mcmd mcm) := hD
              refine zz_iinc (lv' := [(3, .int (iI (k + 1))), (2, .int (iI (((10 * v) + (mtxt p9)) - 48))), (0, .ref a0), (1, .int (iI most))]) hx hb dX11_readNumber_73 hl (k := 1) rfl (by decide) rfl (fun ls hl => ?_)
              refine lv_goto (tgt := 33) hx hb dX11_readNumber_76 (by decide) ?_
              exact ih33 (k + 1) (((10 * v) + (mtxt p9)) - 48) (p9 + 1) w9 _ _ _ (by omega) (by exact rnI_s i1 (by omega) q_39 (by omega) rfl rfl) (by omega) (by omega) hP hD hS (lv_sub hl [0, 1, 2, 3] rfl)
      exact L33 _ 0 0 mat_1 0 _ _ _ (by omega) (by first | exact rnI_a q_3 (by omega) | exact rnI_b q_3 (by omega) (by omega) q_15 (by omega) | exact rnI_c q_3 (by omega) (by omega) q_15 (by omega)) (by omega) (Nat.lt_succ_self _) hP hD hS (lv_sub hl [0, 1, 2, 3] rfl)
    · refine zz_iconst hx hb dX11_readNumber_21 ?_
      refine lv_goto (tgt := 26) hx hb dX11_readNumber_22 (by decide) ?_
      refine va_put (D := D) (ci := 13) (v := .int (iI 1)) (ty := .boolean) (C := RX11) (T := TX11) (N := 20) hx hb hts iX11 tyX11 tyX11_ok nmX11 hown hK hP hD hS 0 rfl rfl 15 (by decide) f_215 (fun _ h9 => h9) rfl (by decide +kernel) (zbool _ (by omega)) (zfitZ _ (by omega)) (Nat.le_of_ble_eq_true rfl) dX11_readNumber_26 (fun H locs hP hD hS => ?_)
      have hP : va_P D vwCl (bModel tA a0 a1 a2 a3 a4 a5 a6 a7 a8 a9 a10 ms mbef msav misv mpast mpm mthr mways mnds mtkp mline mlm mtxt mlen mat_1 1 merr mfail mcmd mcm) H := hP
      have hD : va_D A (bModel tA a0 a1 a2 a3 a4 a5 a6 a7 a8 a9 a10 ms mbef msav misv mpast mpm mthr mways mnds mtkp mline mlm mtxt mlen mat_1 1 merr mfail mcmd mcm) := hD
      refine zz_iconst hx hb dX11_readNumber_29 ?_
      refine lv_istore_n (lv' := [(2, .int (iI 0)), (0, .ref a0), (1, .int (iI most))]) hx hb dX11_readNumber_30 rfl hl (by decide) rfl (fun ls hl => ?_)
      refine zz_iconst hx hb dX11_readNumber_31 ?_
      refine lv_istore_n (lv' := [(3, .int (iI 0)), (2, .int (iI 0)), (0, .ref a0), (1, .int (iI most))]) hx hb dX11_readNumber_32 rfl hl (by decide) rfl (fun ls hl => ?_)
      have L33 : ∀ (n : Nat) (k : Int) (v : Int) (p9 : Int) (w9 : Int) (H : Heap) (locs : List Loc) (ls : Array Slot), (0 ≤ k ∧ k ≤ most) → (rnI mtxt mlen mat mwr most k v p9 w9) → (0 ≤ p9 ∧ p9 ≤ mlen ∧ (w9 = 0 ∨ w9 = 1)) → (most - k).toNat < n → va_P D vwCl (bModel tA a0 a1 a2 a3 a4 a5 a6 a7 a8 a9 a10 ms mbef msav misv mpast mpm mthr mways mnds mtkp mline mlm mtxt mlen p9 w9 merr mfail mcmd mcm) H → va_D A (bModel tA a0 a1 a2 a3 a4 a5 a6 a7 a8 a9 a10 ms mbef msav misv mpast mpm mthr mways mnds mtkp mline mlm mtxt mlen p9 w9 merr mfail mcmd mcm) → va_S A s.heap H locs → lv_has ls 4 [(3, .int (iI k)), (2, .int (iI v)), (0, .ref a0), (1, .int (iI most))] → W p l e (headSpec wsX11_readNumber ({ frames := 5, cells := 0, slots := 0, locals := 107 })).room s m args below meth c H locs 0 0 Q (F0 m 33 ls []) := by
        intro n
        induction n with
        | zero => intro k v p9 w9 H locs ls i0 i1 i2 hmz; exact absurd hmz (Nat.not_lt_zero _)
        | succ n ih33 =>
          intro k v p9 w9 H locs ls i0 i1 i2 hmz hP hD hS hl
          refine lv_iload_n hx hb dX11_readNumber_33 rfl (lv_at hl 0 rfl) ?_
          refine lv_iload_n hx hb dX11_readNumber_34 rfl (lv_at hl 3 rfl) ?_
          refine zz_icmp_ge (tgt := 79) hx hb dX11_readNumber_35 (by decide) (by omega) (by omega) (fun c_35 => ?_) (fun c_35 => ?_)
          · refine lv_iload_n hx hb dX11_readNumber_79 rfl (lv_at hl 1 rfl) ?_
            exact hret v (p9, w9) _ _ _ _ dX11_readNumber_80 ⟨(show rnP mtxt mlen mat mwr most v p9 w9 from by first | exact rnI_e (z := 0) i1 (Or.inl (by omega)) | exact rnI_e i1 (Or.inr ⟨q_39, by omega⟩)), (show 0 ≤ p9 ∧ p9 ≤ mlen ∧ (w9 = 0 ∨ w9 = 1) from by omega)⟩ hP hD hS
          · refine lv_aload_n hx hb dX11_readNumber_38 rfl (lv_at hl 2 rfl) ?_
            refine zz_callVi (As := []) (rest := []) (wf := fun u => bModel tA a0 a1 a2 a3 a4 a5 a6 a7 a8 a9 a10 ms mbef msav misv mpast mpm mthr mways mnds mtkp mline mlm mtxt mlen p9 w9 merr mfail mcmd mcm) ⟨hx, hb, hml, hown, hts⟩ (c_X11_isDigit l D tA a0 a1 a2 a3 a4 a5 a6 a7 a8 a9 a10 H.size ms mbef msav misv mpast mpm mthr mways mnds mtkp mline mlm mtxt mlen p9 w9 merr mfail mcmd mcm (by first | assumption | omega) (by first | assumption | omega) (by first | assumption | omega) (by first | assumption | omega)) (cwV 0 hts gX11_readNumber_X11_isDigit rfl rfl rfl (by decide +kernel) ⟨Nat.le_of_ble_eq_true rfl, Nat.le_of_ble_eq_true rfl⟩) hK hP hD hS hA [0, 1, 2, 3, 4, 5, 6, 7, 8, 9, 10] [] [0, 1, 2, 3, 4, 5, 6, 7, 8, 9, 10] rfl rfl (by decide) (by decide) (by decide) (by decide) (fun _ => rfl) (ci := 13) (q0 := 0) rfl rfl rfl rfl rfl hl.1 (Nat.le_of_ble_eq_true rfl) dX11_readNumber_39 ⟨Nat.le_of_ble_eq_true rfl, Nat.le_of_ble_eq_true rfl⟩ ?_
            intro z39_10 u H locs p39_11 hP hD hS
            have hP : va_P D vwCl (bModel tA a0 a1 a2 a3 a4 a5 a6 a7 a8 a9 a10 ms mbef msav misv mpast mpm mthr mways mnds mtkp mline mlm mtxt mlen p9 w9 merr mfail mcmd mcm) H := hP
            have hD : va_D A (bModel tA a0 a1 a2 a3 a4 a5 a6 a7 a8 a9 a10 ms mbef msav misv mpast mpm mthr mways mnds mtkp mline mlm mtxt mlen p9 w9 merr mfail mcmd mcm) := hD
            have q_39 : (z39_10 = 1 ∧ w9 = 0 ∧ p9 < mlen ∧ 48 ≤ mtxt p9 ∧ mtxt p9 ≤ 57) ∨ (z39_10 = 0 ∧ ¬ (w9 = 0 ∧ p9 < mlen ∧ 48 ≤ mtxt p9 ∧ mtxt p9 ≤ 57)) := p39_11
            refine zz_if_eq (tgt := 79) hx hb dX11_readNumber_42 (by decide) (by omega) (fun c_42 => ?_) (fun c_42 => ?_)
            · refine lv_iload_n hx hb dX11_readNumber_79 rfl (lv_at hl 1 rfl) ?_
              exact hret v (p9, w9) _ _ _ _ dX11_readNumber_80 ⟨(show rnP mtxt mlen mat mwr most v p9 w9 from by first | exact rnI_e (z := 0) i1 (Or.inl (by omega)) | exact rnI_e i1 (Or.inr ⟨q_39, by omega⟩)), (show 0 ≤ p9 ∧ p9 ≤ mlen ∧ (w9 = 0 ∨ w9 = 1) from by omega)⟩ hP hD hS
            · refine zz_bipush hx hb dX11_readNumber_45 (by decide) ?_
              refine lv_iload_n hx hb dX11_readNumber_47 rfl (lv_at hl 1 rfl) ?_
              refine zz_imul hx hb dX11_readNumber_48 ?_
              refine lv_aload_n hx hb dX11_readNumber_49 rfl (lv_at hl 2 rfl) ?_
              refine va_get (D := D) (ci := 13) (v := .ref a9) (C := RX11) (T := TX11) (N := 20) hx hb hts iX11 hown hK hP 0 rfl rfl 12 (by decide) f_36 (fun _ h9 => h9) rfl dX11_readNumber_50 ?_
              refine lv_aload_n hx hb dX11_readNumber_53 rfl (lv_at hl 2 rfl) ?_
              refine va_get (D := D) (ci := 13) (v := .int (iI p9)) (C := RX11) (T := TX11) (N := 20) hx hb hts iX11 hown hK hP 0 rfl rfl 14 (by decide) f_208 (fun _ h9 => h9) rfl dX11_readNumber_54 ?_
              refine zz_cald hx hb hK hP 9 rfl (by decide) (by omega) dX11_readNumber_57 ?_
              have r_57 := htx p9 (by omega) (by omega)
              refine zz_iadd hx hb dX11_readNumber_58 ?_
              refine zz_bipush hx hb dX11_readNumber_59 (by decide) ?_
              refine zz_isub hx hb dX11_readNumber_61 ?_
              refine lv_istore_n (lv' := [(2, .int (iI (((10 * v) + (mtxt p9)) - 48))), (3, .int (iI k)), (0, .ref a0), (1, .int (iI most))]) hx hb dX11_readNumber_62 rfl hl (by decide) rfl (fun ls hl => ?_)
              refine lv_aload_n hx hb dX11_readNumber_63 rfl (lv_at hl 2 rfl) ?_
              refine lv_dup hx hb dX11_readNumber_64 rfl ?_
              refine va_get (D := D) (ci := 13) (v := .int (iI p9)) (C := RX11) (T := TX11) (N := 20) hx hb hts iX11 hown hK hP 0 rfl rfl 14 (by decide) f_208 (fun _ h9 => h9) rfl dX11_readNumber_65 ?_
              refine zz_iconst hx hb dX11_readNumber_68 ?_
              refine zz_iadd hx hb dX11_readNumber_69 ?_
              refine va_put (D := D) (ci := 13) (v := .int (iI (p9 + 1))) (ty := .int) (C := RX11) (T := TX11) (N := 20) hx hb hts iX11 tyX11 tyX11_ok nmX11 hown hK hP hD hS 0 rfl rfl 14 (by decide) f_208 (fun _ h9 => h9) rfl (by decide +kernel) rfl rfl (Nat.le_of_ble_eq_true rfl) dX11_readNumber_70 (fun H locs hP hD hS => ?_)
              have hP : va_P D vwCl (bModel tA a0 a1 a2 a3 a4 a5 a6 a7 a8 a9 a10 ms mbef msav misv mpast mpm mthr mways mnds mtkp mline mlm mtxt mlen (p9 + 1) w9 merr mfail mcmd mcm) H := hP
              have hD : va_D A (bModel tA a0 a1 a2 a3 a4 a5 a6 a7 a8 a9 a10 ms mbef msav misv mpast mpm mthr mways mnds mtkp mline mlm mtxt mlen (p9 + 1) w9 merr mfail mcmd mcm) := hD
              refine zz_iinc (lv' := [(3, .int (iI (k + 1))), (2, .int (iI (((10 * v) + (mtxt p9)) - 48))), (0, .ref a0), (1, .int (iI most))]) hx hb dX11_readNumber_73 hl (k := 1) rfl (by decide) rfl (fun ls hl => ?_)
              refine lv_goto (tgt := 33) hx hb dX11_readNumber_76 (by decide) ?_
              exact ih33 (k + 1) (((10 * v) + (mtxt p9)) - 48) (p9 + 1) w9 _ _ _ (by omega) (by exact rnI_s i1 (by omega) q_39 (by omega) rfl rfl) (by omega) (by omega) hP hD hS (lv_sub hl [0, 1, 2, 3] rfl)
      exact L33 _ 0 0 mat_1 1 _ _ _ (by omega) (by first | exact rnI_a q_3 (by omega) | exact rnI_b q_3 (by omega) (by omega) q_15 (by omega) | exact rnI_c q_3 (by omega) (by omega) q_15 (by omega)) (by omega) (Nat.lt_succ_self _) hP hD hS (lv_sub hl [0, 1, 2, 3] rfl)
