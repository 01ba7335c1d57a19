/-! ===== HarborLightsModel: execute ===== -/
def prM (txt : Int → Int) (len : Int) (c0 : Int → Int) : Nat → Int → Int → (Int → Int) → Prop
  | 0, p, w, c => rcP txt len 0 0 c0 0 c 1 p w
  | k + 1, p', w', c' => ∃ p c, prM txt len c0 k p 0 c ∧ (p < len ∧ txt p = 59) ∧ rcP txt len (p + 1) 0 c ((k : Int) + 1) c' ((k : Int) + 2) p' w'
def runM (c : Int → Int) : Nat → (Int → Int) → (Int → Int) → Prop
  | 0, s, s' => s' = s
  | k + 1, s, s' => ∃ q, runM c k s q ∧ doM (c (5 * (k : Int))) (c (5 * (k : Int) + 1)) (c (5 * (k : Int) + 2)) (c (5 * (k : Int) + 3)) (c (5 * (k : Int) + 4)) q 0 s'
def okM (txt : Int → Int) (len : Int) (c0 : Int → Int) (n : Int) (c : Int → Int) : Prop := 1 ≤ n ∧ prM txt len c0 (n - 1).toNat len 0 c
def okMV (txt : Int → Int) (len : Int) (c0 ms : Int → Int) : Prop := ∀ n c, okM txt len c0 n c → ∀ k : Nat, (k : Int) < n → ∀ q, runM c k ms q → MV q ∧ MMt q
def badM (txt : Int → Int) (len : Int) (c0 : Int → Int) (p : Int) : Prop := ∃ k c w, prM txt len c0 k p w c ∧ (w = 1 ∨ (p < len ∧ txt p ≠ 59))
def fdM (c : Int → Int) (f : Int) (ms : Int → Int) : Prop := ∃ q q' t, runM c f.toNat ms q ∧ 0 < t ∧ doM (c (5 * f)) (c (5 * f + 1)) (c (5 * f + 2)) (c (5 * f + 3)) (c (5 * f + 4)) q t q'
def exP (txt : Int → Int) (len : Int) (c0 ms bef past : Int → Int) (pm err0 fl0 z th err fl : Int) (ms' bef' past' : Int → Int) (pm' : Int) (c' : Int → Int) (n' : Int) : Prop :=
  (th = 1 ∧ z = 0 ∧ fl = fl0 ∧ ms' = ms ∧ bef' = bef ∧ past' = past ∧ pm' = pm ∧ 0 ≤ err ∧ err ≤ len ∧ badM txt len c0 err) ∨
  (th = 2 ∧ z = 0 ∧ err = err0 ∧ ms' = ms ∧ past' = past ∧ pm' = pm ∧ 0 ≤ fl ∧ fl < n' ∧ okM txt len c0 n' c' ∧ fdM c' fl ms) ∨
  (th = 0 ∧ z = n' ∧ err = err0 ∧ fl = fl0 ∧ past' = pastP ms pm past ∧ pm' = (if pm = 8 then 8 else pm + 1) ∧ okM txt len c0 n' c' ∧ runM c' n'.toNat ms ms')
theorem rcP_go {txt : Int → Int} {len p w : Int} {f : Int → Int} {n : Int} {c' : Int → Int} {n' p' w' : Int} (hp : p ≤ len) (hw : w = 0) (h : rcP txt len p w f n c' n' p' w') : n' = n + 1 ∧ (w' = 0 → p + 1 ≤ p') ∧ (w' = 1 ∨ w' ≠ 0 ∨ p + 1 ≤ p') := by
  have g := rcP_ge hp h
  have e : n' = n + 1 := by
    rcases h with ⟨a, -⟩ | ⟨a, b, -⟩
    · exact absurd (hw.symm.trans a) (by decide)
    · exact b
  refine ⟨e, fun h0 => (g h0).2.2.1, ?_⟩
  by_cases q : w' = 0
  · exact Or.inr (Or.inr (g q).2.2.1)
  · exact Or.inr (Or.inl q)
theorem wrL_rng {lo hi : Int} {vs : List Int} {f : Int → Int} {b : Int} (hv : ∀ v ∈ vs, lo ≤ v ∧ v ≤ hi) (hf : ∀ j, 0 ≤ j → j < 300 → lo ≤ f j ∧ f j ≤ hi) : ∀ j, 0 ≤ j → j < 300 → lo ≤ wrL f b vs j ∧ wrL f b vs j ≤ hi := by
  intro j j0 j1
  by_cases h : b ≤ j ∧ j < b + (vs.length : Nat)
  · have h9 : (j - b).toNat < vs.length := by omega
    have q9 := hv _ (List.getElem_mem h9)
    rw [wrL_in h, List.getD_eq_getElem?_getD, List.getElem?_eq_getElem h9]
    exact q9
  · rw [wrL_out h]; exact hf j j0 j1
theorem kdC_in : ∀ c : Nat, 0 ≤ kdC c ∧ kdC c ≤ 9999
  | 0 => by decide
  | 1 => by decide
  | 2 => by decide
  | 3 => by decide
  | 4 => by decide
  | 5 => by decide
  | 6 => by decide
  | _ + 7 => by show (0 : Int) ≤ 110 ∧ (110 : Int) ≤ 9999; decide
theorem rcP_rng {txt : Int → Int} {len p w : Int} {f : Int → Int} {n : Int} {c' : Int → Int} {n' p' w' : Int} (hp : p ≤ len) (_hn : 0 ≤ n) (h : rcP txt len p w f n c' n' p' w') (hf : ∀ j, 0 ≤ j → j < 300 → 0 ≤ f j ∧ f j ≤ 9999) : ∀ j, 0 ≤ j → j < 300 → 0 ≤ c' j ∧ c' j ≤ 9999 := by
  rcases h with ⟨a, b, -⟩ | ⟨a, b, p1, w1, s, c, d, e⟩
  · rw [b]; exact hf
  · have m := mtW_in txt len (sTx.getD (chC txt len p) []) p hp
    have r : p1 ≤ len ∧ (w1 = 0 ∨ w1 = 1) := by
      rcases s with ⟨g, g2, g3⟩ | ⟨g, g1, ⟨g2, g3⟩ | ⟨g2, g3⟩⟩
      · exact ⟨by omega, Or.inr g3⟩
      · exact ⟨by omega, Or.inl g2⟩
      · exact ⟨by omega, Or.inr g2⟩
    have q := rdF_in (txt := txt) (len := len) (ds := sTx.getD (dgI (chC txt len p)) []) (p := p1) (w := w1) r.1 r.2 (dg_52 _)
    rw [c]
    refine wrL_rng q.2.2.2.2.2 (fun i i0 i1 => ?_)
    by_cases e : i = 5 * n
    · rw [e, zU_same]; exact kdC_in _
    · rw [zU_ne e]; exact hf i i0 i1
theorem prM_0 {txt : Int → Int} {len : Int} {c0 : Int → Int} {p w : Int} {c : Int → Int} {n' : Int} (hn : n' = 0 + 1) (h : rcP txt len 0 0 c0 0 c n' p w) : prM txt len c0 (n' - 1).toNat p w c := by
  subst hn
  exact h
theorem prM_s {txt : Int → Int} {len : Int} {c0 : Int → Int} {n p w z n' p1 p' w1 w' : Int} {c c' : Int → Int} (h : prM txt len c0 (n - 1).toNat p w c) (hn : 1 ≤ n) (hw : w = 0) (hz : (p < len ∧ z = txt p) ∨ (len ≤ p ∧ z = -1)) (hz2 : z = 59) (hn' : n' = n + 1) (hp1 : p1 = p + 1 ∧ w1 = 0) (hr : rcP txt len p1 w1 c n c' n' p' w') : prM txt len c0 (n' - 1).toNat p' w' c' := by
  subst hw
  obtain ⟨rfl, rfl⟩ := hp1
  obtain ⟨k, hk⟩ : ∃ k : Nat, (k : Int) + 1 = n := ⟨(n - 1).toNat, by omega⟩
  have e1 : (n - 1).toNat = k := by omega
  have e2 : (n' - 1).toNat = k + 1 := by omega
  rw [e1] at h
  rw [e2]
  refine ⟨p, c, h, ⟨by omega, by omega⟩, ?_⟩
  rw [hk, show (k : Int) + 2 = n' by omega]
  exact hr
theorem doM_th {kd a b c d : Int} {ms : Int → Int} {th : Int} {ms' : Int → Int} (h : doM kd a b c d ms th ms') : 0 ≤ th ∧ th ≤ 9 := by
  rcases h with ⟨-, z, h⟩ | ⟨-, z, h⟩ | ⟨-, z, h⟩ | ⟨-, z, h⟩ | ⟨-, z, h⟩ | ⟨-, z, h⟩ | ⟨-, h, -⟩ | ⟨-, z, h⟩
  · rcases h with ⟨h, -⟩ | ⟨h, -⟩ <;> omega
  · rcases h with ⟨h, -⟩ | ⟨-, ⟨h, -⟩ | ⟨-, ⟨h, -⟩ | ⟨h, -⟩⟩⟩ <;> omega
  · rcases h with ⟨h, -⟩ | ⟨-, ⟨h, -⟩ | ⟨h, -⟩⟩ <;> omega
  · rcases h with ⟨h, -⟩ | ⟨-, ⟨h, -⟩ | ⟨-, ⟨h, -⟩ | ⟨-, ⟨h, -⟩ | ⟨h, -⟩⟩⟩⟩ <;> omega
  · rcases h with ⟨h, -⟩ | ⟨-, ⟨h, -⟩ | ⟨h, -⟩⟩ <;> omega
  · rcases h with ⟨h, -⟩ | ⟨h, -⟩ <;> omega
  · omega
  · rcases h with ⟨h, -⟩ | ⟨h, -⟩ <;> omega
theorem runM_s {c : Int → Int} {n : Int} {s q q' : Int → Int} {t : Int} (hn : 0 ≤ n) (h : runM c n.toNat s q) (ht : t = 0) (hd : doM (c (5 * n)) (c (5 * n + 1)) (c (5 * n + 2)) (c (5 * n + 3)) (c (5 * n + 4)) q t q') : runM c (n + 1).toNat s q' := by
  obtain ⟨k, rfl⟩ : ∃ k : Nat, (k : Int) = n := ⟨n.toNat, by omega⟩
  subst ht
  exact ⟨q, h, hd⟩
theorem okM_of {txt : Int → Int} {len : Int} {c0 : Int → Int} {n p w : Int} {c : Int → Int} (h : prM txt len c0 (n - 1).toNat p w c) (hn : 1 ≤ n) (hw : w = 0) (hp : p = len) : okM txt len c0 n c := by
  subst hw
  subst hp
  exact ⟨hn, h⟩
section EXM
variable {txt : Int → Int} {len : Int} {c0 ms bef past : Int → Int} {pm err0 fl0 z th err fl : Int} {ms' bef' past' : Int → Int} {pm' : Int} {c' : Int → Int} {n' : Int}
theorem exP_1 {n p w : Int} {c : Int → Int} (h : prM txt len c0 (n - 1).toNat p w c) (hw : w = 1 ∨ p < len) (h2 : w = 1 ∨ (p < len ∧ txt p ≠ 59) ∨ len ≤ p) (hth : th = 1) (hz : z = 0) (he : err = p) (hp : 0 ≤ p ∧ p ≤ len) : exP txt len c0 ms bef past pm err0 fl0 z th err fl0 ms bef past pm c' n' := by
  subst he
  exact Or.inl ⟨hth, hz, rfl, rfl, rfl, rfl, rfl, hp.1, hp.2, (n - 1).toNat, c, w, h, by omega⟩
theorem exP_2 {n : Int} {q q' : Int → Int} {t : Int} {m9 p9 : Int → Int} {pm9 : Int} (hok : okM txt len c0 n c') (h0 : 0 ≤ fl) (h1 : fl < n) (hr : runM c' fl.toNat ms q) (ht : 0 < t) (hd : doM (c' (5 * fl)) (c' (5 * fl + 1)) (c' (5 * fl + 2)) (c' (5 * fl + 3)) (c' (5 * fl + 4)) q t q') (hth : th = 2) (hz : z = 0) (he : err = err0) (hn : n' = n) : exP txt len c0 ms bef past pm err0 fl0 z th err fl (if 0 < (2 : Int) then ms else m9) bef' (if 0 < (2 : Int) then past else p9) (if 0 < (2 : Int) then pm else pm9) c' n' := by
  subst hn
  rw [if_pos (by decide), if_pos (by decide), if_pos (by decide)]
  exact Or.inr (Or.inl ⟨hth, hz, he, rfl, rfl, rfl, h0, h1, hok, q, q', t, hr, ht, hd⟩)
theorem exP_0 {n dn t : Int} {m9 b9 p9 : Int → Int} {pm9 : Int} (hok : okM txt len c0 n c') (hd : dn = n ∧ t = 0) (hr : runM c' dn.toNat ms m9) (hth : th = t) (hz : z = n ∧ err = err0) (hf : fl = fl0) (hn : n' = n) : exP txt len c0 ms bef past pm err0 fl0 z th err fl (if 0 < t then b9 else m9) bef' (if 0 < t then p9 else pastP ms pm past) (if 0 < t then pm9 else if pm = 8 then 8 else pm + 1) c' n' := by
  obtain ⟨rfl, rfl⟩ := hd
  subst hn
  rw [if_neg (by decide), if_neg (by decide), if_neg (by decide)]
  exact Or.inr (Or.inr ⟨hth, hz.1, hz.2, hf, rfl, rfl, hok, hr⟩)
end EXM
set_option maxHeartbeats 4000000 in
set_option maxRecDepth 100000 in
theorem c_X11_execute (l : Launch) (K : Nat → Nat) (D : va_G) (tA : Nat → ClassId) (a0 a1 a2 a3 a4 a5 a6 a7 a8 a9 a10 : Nat) (sz : Nat) (ms : Int → Int) (mbef : Int → Int) (msav : Int → Int) (misv : Int) (mpast : Int → Int) (mpm : Int) (mthr : Int) (mways : Int → Int) (mnds : Int → Int) (mtkp : Int → Int) (mline : Int → Int) (mlm : Int) (mtxt : Int → Int) (mlen : Int) (mat : Int) (mwr : Int) (merr : Int) (mfail : Int) (mcmd : Int → Int) (mcm : Int) (hln : 0 ≤ mlen ∧ mlen ≤ 60) (htx : ∀ j, 0 ≤ j → j < mlen → 0 ≤ mtxt j ∧ mtxt j ≤ 65535) (hpm : 0 ≤ mpm ∧ mpm ≤ 8) (hcr : ∀ j, 0 ≤ j → j < 300 → 0 ≤ mcmd j ∧ mcmd j ≤ 9999) (hall : okMV mtxt mlen mcmd ms) : zCi l yX11_execute wsX11_execute ({ frames := 8, cells := 0, slots := 0, locals := 176 }) K D tA [.ref a0] (bModel tA a0 a1 a2 a3 a4 a5 a6 a7 a8 a9 a10 ms mbef msav misv mpast mpm mthr mways mnds mtkp mline mlm mtxt mlen mat mwr merr mfail mcmd mcm) sz (fun (z : Int) (u : (Int → Int) × (Int → Int) × (Int → Int) × (Int) × (Int) × (Int → Int) × (Int → Int) × (Int → Int) × (Int) × (Int) × (Int) × (Int) × (Int → Int) × (Int)) => (exP mtxt mlen mcmd ms mbef mpast mpm merr mfail z u.2.2.2.2.1 u.2.2.2.2.2.2.2.2.2.2.1 u.2.2.2.2.2.2.2.2.2.2.2.1 u.1 u.2.1 u.2.2.1 u.2.2.2.1 u.2.2.2.2.2.2.2.2.2.2.2.2.1 u.2.2.2.2.2.2.2.2.2.2.2.2.2) ∧ (0 ≤ u.2.2.2.2.2.2.2.2.2.2.2.2.2 ∧ u.2.2.2.2.2.2.2.2.2.2.2.2.2 ≤ 60 ∧ ∀ j, 0 ≤ j → j < 300 → 0 ≤ u.2.2.2.2.2.2.2.2.2.2.2.2.1 j ∧ u.2.2.2.2.2.2.2.2.2.2.2.2.1 j ≤ 9999)) (fun (u : (Int → Int) × (Int → Int) × (Int → Int) × (Int) × (Int) × (Int → Int) × (Int → Int) × (Int → Int) × (Int) × (Int) × (Int) × (Int) × (Int → Int) × (Int)) => bModel tA a0 a1 a2 a3 a4 a5 a6 a7 a8 a9 a10 u.1 u.2.1 msav misv u.2.2.1 u.2.2.2.1 u.2.2.2.2.1 u.2.2.2.2.2.1 u.2.2.2.2.2.2.1 u.2.2.2.2.2.2.2.1 mline mlm mtxt 0 u.2.2.2.2.2.2.2.2.1 u.2.2.2.2.2.2.2.2.2.1 u.2.2.2.2.2.2.2.2.2.2.1 u.2.2.2.2.2.2.2.2.2.2.2.1 u.2.2.2.2.2.2.2.2.2.2.2.2.1 u.2.2.2.2.2.2.2.2.2.2.2.2.2) 0 0 := by
  refine zCi_of (cc := cX11_execute) (maxL := 2) (by decide) rfl (fun z u h => rfl) (Nat.le_of_ble_eq_true rfl) ?_
  intro p e s m args below meth c A Q ls hx hb hml hts hown hK hP hD hA hCn hret hl
  obtain ⟨H, hHe⟩ : ∃ H : Heap, H = s.heap := ⟨_, rfl⟩
  have hS : va_S A s.heap H [] := by rw [hHe]; exact va_S.rf
  rw [← hHe] at hP ⊢
  have hl : lv_has ls 2 [(0, .ref a0)] := hl
  have iX11 : ∀ v ∈ wsX110, v ∈ wsX11_execute := by decide +kernel
  have f_39 := hts (.fieldLink RX11 39 "HarborLightsModel" "errorAt" "I") (by decide +kernel)
  have f_43 := hts (.fieldLink RX11 43 "HarborLightsModel" "failedAt" "I") (by decide +kernel)
  have f_49 := hts (.fieldLink RX11 49 "HarborLightsModel" "thrown" "I") (by decide +kernel)
  have f_205 := hts (.fieldLink RX11 205 "HarborLightsModel" "length" "I") (by decide +kernel)
  have f_208 := hts (.fieldLink RX11 208 "HarborLightsModel" "at" "I") (by decide +kernel)
  have f_215 := hts (.fieldLink RX11 215 "HarborLightsModel" "isWrong" "Z") (by decide +kernel)
  have f_236 := hts (.fieldLink RX11 236 "HarborLightsModel" "commandMany" "I") (by decide +kernel)
  refine lv_aload_n hx hb dX11_execute_0 rfl (lv_at hl 0 rfl) ?_
  refine zz_iconst hx hb dX11_execute_1 ?_
  refine va_put (D := D) (ci := 13) (v := .int (iI 0)) (ty := .int) (C := RX11) (T := TX11) (N := 20) hx hb hts iX11 tyX11 tyX11_ok nmX11 hown hK hP hD hS 0 rfl rfl 14 (by decide) f_208 (fun _ h9 => h9) rfl (by decide +kernel) rfl rfl (Nat.le_of_ble_eq_true rfl) dX11_execute_2 (fun H locs hP hD hS => ?_)
  have hP : va_P D vwCl (bModel tA a0 a1 a2 a3 a4 a5 a6 a7 a8 a9 a10 ms mbef msav misv mpast mpm mthr mways mnds mtkp mline mlm mtxt mlen 0 mwr merr mfail mcmd mcm) H := hP
  have hD : va_D A (bModel tA a0 a1 a2 a3 a4 a5 a6 a7 a8 a9 a10 ms mbef msav misv mpast mpm mthr mways mnds mtkp mline mlm mtxt mlen 0 mwr merr mfail mcmd mcm) := hD
  refine lv_aload_n hx hb dX11_execute_5 rfl (lv_at hl 0 rfl) ?_
  refine zz_iconst hx hb dX11_execute_6 ?_
  refine va_put (D := D) (ci := 13) (v := .int (iI 0)) (ty := .boolean) (C := RX11) (T := TX11) (N := 20) hx hb hts iX11 tyX11 tyX11_ok nmX11 hown hK hP hD hS 0 rfl rfl 15 (by decide) f_215 (fun _ h9 => h9) rfl (by decide +kernel) (zbool _ (by omega)) (zfitZ _ (by omega)) (Nat.le_of_ble_eq_true rfl) dX11_execute_7 (fun H locs hP hD hS => ?_)
  have hP : va_P D vwCl (bModel tA a0 a1 a2 a3 a4 a5 a6 a7 a8 a9 a10 ms mbef msav misv mpast mpm mthr mways mnds mtkp mline mlm mtxt mlen 0 0 merr mfail mcmd mcm) H := hP
  have hD : va_D A (bModel tA a0 a1 a2 a3 a4 a5 a6 a7 a8 a9 a10 ms mbef msav misv mpast mpm mthr mways mnds mtkp mline mlm mtxt mlen 0 0 merr mfail mcmd mcm) := hD
  refine lv_aload_n hx hb dX11_execute_10 rfl (lv_at hl 0 rfl) ?_
  refine zz_iconst hx hb dX11_execute_11 ?_
  refine va_put (D := D) (ci := 13) (v := .int (iI 0)) (ty := .int) (C := RX11) (T := TX11) (N := 20) hx hb hts iX11 tyX11 tyX11_ok nmX11 hown hK hP hD hS 0 rfl rfl 19 (by decide) f_236 (fun _ h9 => h9) rfl (by decide +kernel) rfl rfl (Nat.le_of_ble_eq_true rfl) dX11_execute_12 (fun H locs hP hD hS => ?_)
  have hP : va_P D vwCl (bModel tA a0 a1 a2 a3 a4 a5 a6 a7 a8 a9 a10 ms mbef msav misv mpast mpm mthr mways mnds mtkp mline mlm mtxt mlen 0 0 merr mfail mcmd 0) H := hP
  have hD : va_D A (bModel tA a0 a1 a2 a3 a4 a5 a6 a7 a8 a9 a10 ms mbef msav misv mpast mpm mthr mways mnds mtkp mline mlm mtxt mlen 0 0 merr mfail mcmd 0) := hD
  refine lv_aload_n hx hb dX11_execute_15 rfl (lv_at hl 0 rfl) ?_
  refine zc_callVv (As := []) (rest := []) (wf := fun u => bModel tA a0 a1 a2 a3 a4 a5 a6 a7 a8 a9 a10 ms mbef msav misv mpast mpm mthr mways mnds mtkp mline mlm mtxt mlen u.2.2.1 u.2.2.2 merr mfail u.1 u.2.1) ⟨hx, hb, hml, hown, hts⟩ (c_X11_readCommand l K D tA a0 a1 a2 a3 a4 a5 a6 a7 a8 a9 a10 H.size ms mbef msav misv mpast mpm mthr mways mnds mtkp mline mlm mtxt mlen 0 0 merr mfail mcmd 0 (by first | assumption | omega) (by first | assumption | omega) (by first | assumption | omega) (by first | assumption | omega) (by first | assumption | omega)) (cwV 0 hts gX11_execute_X11_readCommand rfl rfl rfl (by decide +kernel) ⟨Nat.le_of_ble_eq_true rfl, Nat.le_of_ble_eq_true rfl⟩) hK hP hD hS hA hCn [0, 1, 2, 3, 4, 5, 6, 7, 8, 9, 10] [] [0, 1, 2, 3, 4, 5, 6, 7, 8, 9, 10] rfl rfl (by decide) (by decide) (by decide) (by decide) (fun _ => rfl) (ci := 13) (q0 := 0) rfl rfl rfl rfl rfl hl.1 (Nat.le_of_ble_eq_true rfl) dX11_execute_16 ⟨Nat.le_of_ble_eq_true rfl, Nat.le_of_ble_eq_true rfl⟩ ?_
  intro u H locs p16_5 hP hD hS
  obtain ⟨mcmd_1, mcm_2, mat_3, mwr_4⟩ := u
  have hP : va_P D vwCl (bModel tA a0 a1 a2 a3 a4 a5 a6 a7 a8 a9 a10 ms mbef msav misv mpast mpm mthr mways mnds mtkp mline mlm mtxt mlen mat_3 mwr_4 merr mfail mcmd_1 mcm_2) H := hP
  have hD : va_D A (bModel tA a0 a1 a2 a3 a4 a5 a6 a7 a8 a9 a10 ms mbef msav misv mpast mpm mthr mways mnds mtkp mline mlm mtxt mlen mat_3 mwr_4 merr mfail mcmd_1 mcm_2) := hD
  have q_16 : rcP mtxt mlen 0 0 mcmd 0 mcmd_1 mcm_2 mat_3 mwr_4 := p16_5.1
  have q2_16 : 0 ≤ mat_3 ∧ mat_3 ≤ mlen ∧ (mwr_4 = 0 ∨ mwr_4 = 1) ∧ mcm_2 ≤ 0 + 1 ∧ 0 ≤ mcm_2 := p16_5.2
  have g_16 := rcP_go (by omega) rfl q_16
  have L19 : ∀ (n : Nat) (p9 : Int) (w9 : Int) (c9 : Int → Int) (n9 : Int) (H : Heap) (locs : List Loc) (ls : Array Slot), ((1 ≤ n9 ∧ n9 ≤ 60) ∧ 0 ≤ p9 ∧ p9 ≤ mlen ∧ (w9 = 0 ∨ w9 = 1)) → (w9 = 1 ∨ n9 ≤ p9) → (prM mtxt mlen mcmd (n9 - 1).toNat p9 w9 c9) → (∀ j, 0 ≤ j → j < 300 → 0 ≤ c9 j ∧ c9 j ≤ 9999) → (60 - n9).toNat < n → va_P D vwCl (bModel tA a0 a1 a2 a3 a4 a5 a6 a7 a8 a9 a10 ms mbef msav misv mpast mpm mthr mways mnds mtkp mline mlm mtxt mlen p9 w9 merr mfail c9 n9) H → va_D A (bModel tA a0 a1 a2 a3 a4 a5 a6 a7 a8 a9 a10 ms mbef msav misv mpast mpm mthr mways mnds mtkp mline mlm mtxt mlen p9 w9 merr mfail c9 n9) → va_S A s.heap H locs → lv_has ls 2 [(0, .ref a0)] → W p l e (headSpec wsX11_execute ({ frames := 8, cells := 0, slots := 0, locals := 176 })).room s m args below meth c H locs 0 0 Q (F0 m 19 ls []) := by
    intro n
    induction n with
    | zero => intro p9 w9 c9 n9 H locs ls g0 g1 g2 g3 hmz; exact absurd hmz (Nat.not_lt_zero _)
    | succ n ih19 =>
      intro p9 w9 c9 n9 H locs ls g0 g1 g2 g3 hmz hP hD hS hl
      refine lv_aload_n hx hb dX11_execute_19 rfl (lv_at hl 0 rfl) ?_
      have J53 : ∀  (H : Heap) (locs : List Loc) (ls : Array Slot), (w9 = 1 ∨ (p9 < mlen ∧ mtxt p9 ≠ 59) ∨ mlen ≤ p9) → va_P D vwCl (bModel tA a0 a1 a2 a3 a4 a5 a6 a7 a8 a9 a10 ms mbef msav misv mpast mpm mthr mways mnds mtkp mline mlm mtxt mlen p9 w9 merr mfail c9 n9) H → va_D A (bModel tA a0 a1 a2 a3 a4 a5 a6 a7 a8 a9 a10 ms mbef msav misv mpast mpm mthr mways mnds mtkp mline mlm mtxt mlen p9 w9 merr mfail c9 n9) → va_S A s.heap H locs → lv_has ls 2 [(0, .ref a0)] → W p l e (headSpec wsX11_execute ({ frames := 8, cells := 0, slots := 0, locals := 176 })).room s m args below meth c H locs 0 0 Q (F0 m 53 ls []) := by
        intro  H locs ls ex hP hD hS hl
        refine lv_aload_n hx hb dX11_execute_53 rfl (lv_at hl 0 rfl) ?_
        have J77 : ∀ (w2 : Int) (H : Heap) (locs : List Loc) (ls : Array Slot), ((w2 = 1 ∧ (w9 = 1 ∨ p9 < mlen)) ∨ (w2 = 0 ∧ w9 = 0 ∧ p9 = mlen)) → va_P D vwCl (bModel tA a0 a1 a2 a3 a4 a5 a6 a7 a8 a9 a10 ms mbef msav misv mpast mpm mthr mways mnds mtkp mline mlm mtxt mlen p9 w9 merr mfail c9 n9) H → va_D A (bModel tA a0 a1 a2 a3 a4 a5 a6 a7 a8 a9 a10 ms mbef msav misv mpast mpm mthr mways mnds mtkp mline mlm mtxt mlen p9 w9 merr mfail c9 n9) → va_S A s.heap H locs → lv_has ls 2 [(0, .ref a0)] → W p l e (headSpec wsX11_execute ({ frames := 8, cells := 0, slots := 0, locals := 176 })).room s m args below meth c H locs 0 0 Q (F0 m 77 ls [.int (iI w2), .ref a0]) := by
          intro w2 H locs ls jw hP hD hS hl
          refine va_put (D := D) (ci := 13) (v := .int (iI w2)) (ty := .boolean) (C := RX11) (T := TX11) (N := 20) hx hb hts iX11 tyX11 tyX11_ok nmX11 hown hK hP hD hS 0 rfl rfl 15 (by decide) f_215 (fun _ h9 => h9) rfl (by decide +kernel) (zbool _ (by omega)) (zfitZ _ (by omega)) (Nat.le_of_ble_eq_true rfl) dX11_execute_77 (fun H locs hP hD hS => ?_)
          have hP : va_P D vwCl (bModel tA a0 a1 a2 a3 a4 a5 a6 a7 a8 a9 a10 ms mbef msav misv mpast mpm mthr mways mnds mtkp mline mlm mtxt mlen p9 w2 merr mfail c9 n9) H := hP
          have hD : va_D A (bModel tA a0 a1 a2 a3 a4 a5 a6 a7 a8 a9 a10 ms mbef msav misv mpast mpm mthr mways mnds mtkp mline mlm mtxt mlen p9 w2 merr mfail c9 n9) := hD
          refine lv_aload_n hx hb dX11_execute_80 rfl (lv_at hl 0 rfl) ?_
          have J99 : ∀ (me : Int) (H : Heap) (locs : List Loc) (ls : Array Slot), ((w2 = 1 ∧ me = p9) ∨ (w2 = 0 ∧ me = merr)) → va_P D vwCl (bModel tA a0 a1 a2 a3 a4 a5 a6 a7 a8 a9 a10 ms mbef msav misv mpast mpm mthr mways mnds mtkp mline mlm mtxt mlen p9 w2 merr mfail c9 n9) H → va_D A (bModel tA a0 a1 a2 a3 a4 a5 a6 a7 a8 a9 a10 ms mbef msav misv mpast mpm mthr mways mnds mtkp mline mlm mtxt mlen p9 w2 merr mfail c9 n9) → va_S A s.heap H locs → lv_has ls 2 [(0, .ref a0)] → W p l e (headSpec wsX11_execute ({ frames := 8, cells := 0, slots := 0, locals := 176 })).room s m args below meth c H locs 0 0 Q (F0 m 99 ls [.int (iI me), .ref a0]) := by
            intro me H locs ls je hP hD hS hl
            refine va_put (D := D) (ci := 13) (v := .int (iI me)) (ty := .int) (C := RX11) (T := TX11) (N := 20) hx hb hts iX11 tyX11 tyX11_ok nmX11 hown hK hP hD hS 0 rfl rfl 16 (by decide) f_39 (fun _ h9 => h9) rfl (by decide +kernel) rfl rfl (Nat.le_of_ble_eq_true rfl) dX11_execute_99 (fun H locs hP hD hS => ?_)
            have hP : va_P D vwCl (bModel tA a0 a1 a2 a3 a4 a5 a6 a7 a8 a9 a10 ms mbef msav misv mpast mpm mthr mways mnds mtkp mline mlm mtxt mlen p9 w2 me mfail c9 n9) H := hP
            have hD : va_D A (bModel tA a0 a1 a2 a3 a4 a5 a6 a7 a8 a9 a10 ms mbef msav misv mpast mpm mthr mways mnds mtkp mline mlm mtxt mlen p9 w2 me mfail c9 n9) := hD
            refine lv_aload_n hx hb dX11_execute_102 rfl (lv_at hl 0 rfl) ?_
            refine zz_iconst hx hb dX11_execute_103 ?_
            refine va_put (D := D) (ci := 13) (v := .int (iI 0)) (ty := .int) (C := RX11) (T := TX11) (N := 20) hx hb hts iX11 tyX11 tyX11_ok nmX11 hown hK hP hD hS 0 rfl rfl 13 (by decide) f_205 (fun _ h9 => h9) rfl (by decide +kernel) rfl rfl (Nat.le_of_ble_eq_true rfl) dX11_execute_104 (fun H locs hP hD hS => ?_)
            have hP : va_P D vwCl (bModel tA a0 a1 a2 a3 a4 a5 a6 a7 a8 a9 a10 ms mbef msav misv mpast mpm mthr mways mnds mtkp mline mlm mtxt 0 p9 w2 me mfail c9 n9) H := hP
            have hD : va_D A (bModel tA a0 a1 a2 a3 a4 a5 a6 a7 a8 a9 a10 ms mbef msav misv mpast mpm mthr mways mnds mtkp mline mlm mtxt 0 p9 w2 me mfail c9 n9) := hD
            refine lv_aload_n hx hb dX11_execute_107 rfl (lv_at hl 0 rfl) ?_
            refine va_get (D := D) (ci := 13) (v := .int (iI w2)) (C := RX11) (T := TX11) (N := 20) hx hb hts iX11 hown hK hP 0 rfl rfl 15 (by decide) f_215 (fun _ h9 => h9) rfl dX11_execute_108 ?_
            refine zz_if_eq (tgt := 120) hx hb dX11_execute_111 (by decide) (by omega) (fun c_111 => ?_) (fun c_111 => ?_)
            · have hok := okM_of g2 g0.1.1 (by omega) (by omega)
              refine lv_aload_n hx hb dX11_execute_120 rfl (lv_at hl 0 rfl) ?_
              refine zz_callVv (As := []) (rest := []) (wf := fun u => bModel tA a0 a1 a2 a3 a4 a5 a6 a7 a8 a9 a10 ms ms msav misv mpast mpm 0 mways mnds mtkp mline mlm mtxt 0 p9 w2 me mfail c9 n9) ⟨hx, hb, hml, hown, hts⟩ (c_X11_keep l D tA a0 a1 a2 a3 a4 a5 a6 a7 a8 a9 a10 H.size ms mbef msav misv mpast mpm mthr mways mnds mtkp mline mlm mtxt 0 p9 w2 me mfail c9 n9) (cwV 0 hts gX11_execute_X11_keep rfl rfl rfl (by decide +kernel) ⟨Nat.le_of_ble_eq_true rfl, Nat.le_of_ble_eq_true rfl⟩) hK hP hD hS hA [0, 1, 2, 3, 4, 5, 6, 7, 8, 9, 10] [] [0, 1, 2, 3, 4, 5, 6, 7, 8, 9, 10] rfl rfl (by decide) (by decide) (by decide) (by decide) (fun _ => rfl) (ci := 13) (q0 := 0) rfl rfl rfl rfl rfl hl.1 (Nat.le_of_ble_eq_true rfl) dX11_execute_121 ⟨Nat.le_of_ble_eq_true rfl, Nat.le_of_ble_eq_true rfl⟩ ?_
              intro u H locs p121_6 hP hD hS
              have hP : va_P D vwCl (bModel tA a0 a1 a2 a3 a4 a5 a6 a7 a8 a9 a10 ms ms msav misv mpast mpm 0 mways mnds mtkp mline mlm mtxt 0 p9 w2 me mfail c9 n9) H := hP
              have hD : va_D A (bModel tA a0 a1 a2 a3 a4 a5 a6 a7 a8 a9 a10 ms ms msav misv mpast mpm 0 mways mnds mtkp mline mlm mtxt 0 p9 w2 me mfail c9 n9) := hD
              refine zz_iconst hx hb dX11_execute_124 ?_
              refine lv_istore_n (lv' := [(1, .int (iI 0)), (0, .ref a0)]) hx hb dX11_execute_125 rfl hl (by decide) rfl (fun ls hl => ?_)
              have L126 : ∀ (n : Nat) (dn : Int) (m9 : Int → Int) (mways9 : Int → Int) (mnds9 : Int → Int) (mtkp9 : Int → Int) (t9 : Int) (H : Heap) (locs : List Loc) (ls : Array Slot), (0 ≤ dn ∧ dn ≤ n9) → (runM c9 dn.toNat ms m9) → (t9 = 0) → (n9 - dn).toNat < n → va_P D vwCl (bModel tA a0 a1 a2 a3 a4 a5 a6 a7 a8 a9 a10 m9 ms msav misv mpast mpm t9 mways9 mnds9 mtkp9 mline mlm mtxt 0 p9 w2 me mfail c9 n9) H → va_D A (bModel tA a0 a1 a2 a3 a4 a5 a6 a7 a8 a9 a10 m9 ms msav misv mpast mpm t9 mways9 mnds9 mtkp9 mline mlm mtxt 0 p9 w2 me mfail c9 n9) → va_S A s.heap H locs → lv_has ls 2 [(1, .int (iI dn)), (0, .ref a0)] → W p l e (headSpec wsX11_execute ({ frames := 8, cells := 0, slots := 0, locals := 176 })).room s m args below meth c H locs 0 0 Q (F0 m 126 ls []) := by
                intro n
                induction n with
                | zero => intro dn m9 mways9 mnds9 mtkp9 t9 H locs ls h0 h1 h2 hmz; exact absurd hmz (Nat.not_lt_zero _)
                | succ n ih126 =>
                  intro dn m9 mways9 mnds9 mtkp9 t9 H locs ls h0 h1 h2 hmz hP hD hS hl
                  refine lv_iload_n hx hb dX11_execute_126 rfl (lv_at hl 0 rfl) ?_
                  refine lv_aload_n hx hb dX11_execute_127 rfl (lv_at hl 1 rfl) ?_
                  refine va_get (D := D) (ci := 13) (v := .int (iI n9)) (C := RX11) (T := TX11) (N := 20) hx hb hts iX11 hown hK hP 0 rfl rfl 19 (by decide) f_236 (fun _ h9 => h9) rfl dX11_execute_128 ?_
                  refine zz_icmp_ge (tgt := 167) hx hb dX11_execute_131 (by decide) (by omega) (by omega) (fun c_131 => ?_) (fun c_131 => ?_)
                  · refine lv_aload_n hx hb dX11_execute_167 rfl (lv_at hl 1 rfl) ?_
                    refine lv_aload_n hx hb dX11_execute_168 rfl (lv_at hl 1 rfl) ?_
                    refine va_get (D := D) (ci := 13) (v := .int (iI n9)) (C := RX11) (T := TX11) (N := 20) hx hb hts iX11 hown hK hP 0 rfl rfl 19 (by decide) f_236 (fun _ h9 => h9) rfl dX11_execute_169 ?_
                    refine zz_callVi (As := [.int (iI n9)]) (rest := []) (wf := fun u => bModel tA a0 a1 a2 a3 a4 a5 a6 a7 a8 a9 a10 (if 0 < t9 then ms else m9) ms msav misv (if 0 < t9 then mpast else pastP ms mpm mpast) (if 0 < t9 then mpm else if mpm = 8 then 8 else mpm + 1) t9 mways9 mnds9 mtkp9 mline mlm mtxt 0 p9 w2 me mfail c9 n9) ⟨hx, hb, hml, hown, hts⟩ (c_X11_ends l D tA a0 a1 a2 a3 a4 a5 a6 a7 a8 a9 a10 H.size m9 ms msav misv mpast mpm t9 mways9 mnds9 mtkp9 mline mlm mtxt 0 p9 w2 me mfail c9 n9 n9 (by first | assumption | omega) (by first | assumption | omega)) (cwV 1 hts gX11_execute_X11_ends rfl rfl rfl (by decide +kernel) ⟨Nat.le_of_ble_eq_true rfl, Nat.le_of_ble_eq_true rfl⟩) hK hP hD hS hA [0, 1, 2, 3, 4, 5, 6, 7, 8, 9, 10] [] [0, 1, 2, 3, 4, 5, 6, 7, 8, 9, 10] rfl rfl (by decide) (by decide) (by decide) (by decide) (fun _ => rfl) (ci := 13) (q0 := 0) rfl rfl rfl rfl rfl hl.1 (Nat.le_of_ble_eq_true rfl) dX11_execute_172 ⟨Nat.le_of_ble_eq_true rfl, Nat.le_of_ble_eq_true rfl⟩ ?_
                    intro z172_7 u H locs p172_8 hP hD hS
                    have hP : va_P D vwCl (bModel tA a0 a1 a2 a3 a4 a5 a6 a7 a8 a9 a10 (if 0 < t9 then ms else m9) ms msav misv (if 0 < t9 then mpast else pastP ms mpm mpast) (if 0 < t9 then mpm else if mpm = 8 then 8 else mpm + 1) t9 mways9 mnds9 mtkp9 mline mlm mtxt 0 p9 w2 me mfail c9 n9) H := hP
                    have hD : va_D A (bModel tA a0 a1 a2 a3 a4 a5 a6 a7 a8 a9 a10 (if 0 < t9 then ms else m9) ms msav misv (if 0 < t9 then mpast else pastP ms mpm mpast) (if 0 < t9 then mpm else if mpm = 8 then 8 else mpm + 1) t9 mways9 mnds9 mtkp9 mline mlm mtxt 0 p9 w2 me mfail c9 n9) := hD
                    have q_172 : ((0 : Int) < t9 ∧ z172_7 = 0) ∨ (t9 = (0 : Int) ∧ z172_7 = n9) := p172_8
                    exact hret z172_7 ((if 0 < t9 then ms else m9), ms, (if 0 < t9 then mpast else pastP ms mpm mpast), (if 0 < t9 then mpm else if mpm = 8 then 8 else mpm + 1), t9, mways9, mnds9, mtkp9, p9, w2, me, mfail, c9, n9) _ _ _ _ dX11_execute_175 ⟨(show exP mtxt mlen mcmd ms mbef mpast mpm merr mfail z172_7 t9 me mfail (if 0 < t9 then ms else m9) ms (if 0 < t9 then mpast else pastP ms mpm mpast) (if 0 < t9 then mpm else if mpm = 8 then 8 else mpm + 1) c9 n9 from by exact exP_0 hok (by omega) h1 rfl (by omega) rfl rfl), (show 0 ≤ n9 ∧ n9 ≤ 60 ∧ ∀ j, 0 ≤ j → j < 300 → 0 ≤ c9 j ∧ c9 j ≤ 9999 from by exact ⟨by omega, by omega, g3⟩)⟩ hP hD hS
                  · have hmm := hall n9 c9 hok dn.toNat (by omega) m9 h1
                    refine lv_aload_n hx hb dX11_execute_134 rfl (lv_at hl 1 rfl) ?_
                    refine lv_iload_n hx hb dX11_execute_135 rfl (lv_at hl 0 rfl) ?_
                    refine zz_callVv (As := [.int (iI dn)]) (rest := []) (wf := fun u => bModel tA a0 a1 a2 a3 a4 a5 a6 a7 a8 a9 a10 u.1 ms msav misv mpast mpm u.2.1 u.2.2.1 u.2.2.2.1 u.2.2.2.2 mline mlm mtxt 0 p9 w2 me mfail c9 n9) ⟨hx, hb, hml, hown, hts⟩ (c_X11_does l D tA a0 a1 a2 a3 a4 a5 a6 a7 a8 a9 a10 H.size m9 ms msav misv mpast mpm t9 mways9 mnds9 mtkp9 mline mlm mtxt 0 p9 w2 me mfail c9 n9 dn (by first | assumption | omega) hmm.1 hmm.2 (by omega) (by omega) (fun j j0 j1 => by have := g3 j j0 j1; omega)) (cwV 1 hts gX11_execute_X11_does rfl rfl rfl (by decide +kernel) ⟨Nat.le_of_ble_eq_true rfl, Nat.le_of_ble_eq_true rfl⟩) hK hP hD hS hA [0, 1, 2, 3, 4, 5, 6, 7, 8, 9, 10] [] [0, 1, 2, 3, 4, 5, 6, 7, 8, 9, 10] rfl rfl (by decide) (by decide) (by decide) (by decide) (fun _ => rfl) (ci := 13) (q0 := 0) rfl rfl rfl rfl rfl hl.1 (Nat.le_of_ble_eq_true rfl) dX11_execute_136 ⟨Nat.le_of_ble_eq_true rfl, Nat.le_of_ble_eq_true rfl⟩ ?_
                    intro u H locs p136_14 hP hD hS
                    obtain ⟨ms_9, mthr_10, mways_11, mnds_12, mtkp_13⟩ := u
                    have hP : va_P D vwCl (bModel tA a0 a1 a2 a3 a4 a5 a6 a7 a8 a9 a10 ms_9 ms msav misv mpast mpm mthr_10 mways_11 mnds_12 mtkp_13 mline mlm mtxt 0 p9 w2 me mfail c9 n9) H := hP
                    have hD : va_D A (bModel tA a0 a1 a2 a3 a4 a5 a6 a7 a8 a9 a10 ms_9 ms msav misv mpast mpm mthr_10 mways_11 mnds_12 mtkp_13 mline mlm mtxt 0 p9 w2 me mfail c9 n9) := hD
                    have q_136 : doM (c9 (5 * dn)) (c9 (5 * dn + 1)) (c9 (5 * dn + 2)) (c9 (5 * dn + 3)) (c9 (5 * dn + 4)) m9 mthr_10 ms_9 := p136_14
                    have t_136 := doM_th q_136
                    refine lv_aload_n hx hb dX11_execute_139 rfl (lv_at hl 1 rfl) ?_
                    refine va_get (D := D) (ci := 13) (v := .int (iI mthr_10)) (C := RX11) (T := TX11) (N := 20) hx hb hts iX11 hown hK hP 0 rfl rfl 6 (by decide) f_49 (fun _ h9 => h9) rfl dX11_execute_140 ?_
                    refine zz_if_le (tgt := 161) hx hb dX11_execute_143 (by decide) (by omega) (fun c_143 => ?_) (fun c_143 => ?_)
                    · refine zz_iinc (lv' := [(1, .int (iI (dn + 1))), (0, .ref a0)]) hx hb dX11_execute_161 hl (k := 0) rfl (by decide) rfl (fun ls hl => ?_)
                      refine lv_goto (tgt := 126) hx hb dX11_execute_164 (by decide) ?_
                      exact ih126 (dn + 1) ms_9 mways_11 mnds_12 mtkp_13 mthr_10 _ _ _ (by omega) (by exact runM_s h0.1 h1 (by omega) q_136) (by omega) (by omega) hP hD hS (lv_sub hl [0, 1] rfl)
                    · refine lv_aload_n hx hb dX11_execute_146 rfl (lv_at hl 1 rfl) ?_
                      refine lv_iload_n hx hb dX11_execute_147 rfl (lv_at hl 0 rfl) ?_
                      refine va_put (D := D) (ci := 13) (v := .int (iI dn)) (ty := .int) (C := RX11) (T := TX11) (N := 20) hx hb hts iX11 tyX11 tyX11_ok nmX11 hown hK hP hD hS 0 rfl rfl 17 (by decide) f_43 (fun _ h9 => h9) rfl (by decide +kernel) rfl rfl (Nat.le_of_ble_eq_true rfl) dX11_execute_148 (fun H locs hP hD hS => ?_)
                      have hP : va_P D vwCl (bModel tA a0 a1 a2 a3 a4 a5 a6 a7 a8 a9 a10 ms_9 ms msav misv mpast mpm mthr_10 mways_11 mnds_12 mtkp_13 mline mlm mtxt 0 p9 w2 me dn c9 n9) H := hP
                      have hD : va_D A (bModel tA a0 a1 a2 a3 a4 a5 a6 a7 a8 a9 a10 ms_9 ms msav misv mpast mpm mthr_10 mways_11 mnds_12 mtkp_13 mline mlm mtxt 0 p9 w2 me dn c9 n9) := hD
                      refine lv_aload_n hx hb dX11_execute_151 rfl (lv_at hl 1 rfl) ?_
                      refine lv_aload_n hx hb dX11_execute_152 rfl (lv_at hl 1 rfl) ?_
                      refine zz_iconst hx hb dX11_execute_153 ?_
                      refine zz_callVi (As := [.int (iI 2)]) (rest := [.ref a0]) (wf := fun u => bModel tA a0 a1 a2 a3 a4 a5 a6 a7 a8 a9 a10 ms_9 ms msav misv mpast mpm 2 mways_11 mnds_12 mtkp_13 mline mlm mtxt 0 p9 w2 me dn c9 n9) ⟨hx, hb, hml, hown, hts⟩ (c_X11_fails l D tA a0 a1 a2 a3 a4 a5 a6 a7 a8 a9 a10 H.size ms_9 ms msav misv mpast mpm mthr_10 mways_11 mnds_12 mtkp_13 mline mlm mtxt 0 p9 w2 me dn c9 n9 2 (by first | assumption | omega)) (cwV 1 hts gX11_execute_X11_fails rfl rfl rfl (by decide +kernel) ⟨Nat.le_of_ble_eq_true rfl, Nat.le_of_ble_eq_true rfl⟩) hK hP hD hS hA [0, 1, 2, 3, 4, 5, 6, 7, 8, 9, 10] [] [0, 1, 2, 3, 4, 5, 6, 7, 8, 9, 10] rfl rfl (by decide) (by decide) (by decide) (by decide) (fun _ => rfl) (ci := 13) (q0 := 0) rfl rfl rfl rfl rfl hl.1 (Nat.le_of_ble_eq_true rfl) dX11_execute_154 ⟨Nat.le_of_ble_eq_true rfl, Nat.le_of_ble_eq_true rfl⟩ ?_
                      intro z154_15 u H locs p154_16 hP hD hS
                      have hP : va_P D vwCl (bModel tA a0 a1 a2 a3 a4 a5 a6 a7 a8 a9 a10 ms_9 ms msav misv mpast mpm 2 mways_11 mnds_12 mtkp_13 mline mlm mtxt 0 p9 w2 me dn c9 n9) H := hP
                      have hD : va_D A (bModel tA a0 a1 a2 a3 a4 a5 a6 a7 a8 a9 a10 ms_9 ms msav misv mpast mpm 2 mways_11 mnds_12 mtkp_13 mline mlm mtxt 0 p9 w2 me dn c9 n9) := hD
                      have q_154 : z154_15 = 0 := p154_16
                      refine zz_callVi (As := [.int (iI z154_15)]) (rest := []) (wf := fun u => bModel tA a0 a1 a2 a3 a4 a5 a6 a7 a8 a9 a10 (if (0 : Int) < 2 then ms else ms_9) ms msav misv (if (0 : Int) < 2 then mpast else pastP ms mpm mpast) (if (0 : Int) < 2 then mpm else if mpm = 8 then 8 else mpm + 1) 2 mways_11 mnds_12 mtkp_13 mline mlm mtxt 0 p9 w2 me dn c9 n9) ⟨hx, hb, hml, hown, hts⟩ (c_X11_ends l D tA a0 a1 a2 a3 a4 a5 a6 a7 a8 a9 a10 H.size ms_9 ms msav misv mpast mpm 2 mways_11 mnds_12 mtkp_13 mline mlm mtxt 0 p9 w2 me dn c9 n9 z154_15 (by first | assumption | omega) (by first | assumption | omega)) (cwV 1 hts gX11_execute_X11_ends rfl rfl rfl (by decide +kernel) ⟨Nat.le_of_ble_eq_true rfl, Nat.le_of_ble_eq_true rfl⟩) hK hP hD hS hA [0, 1, 2, 3, 4, 5, 6, 7, 8, 9, 10] [] [0, 1, 2, 3, 4, 5, 6, 7, 8, 9, 10] rfl rfl (by decide) (by decide) (by decide) (by decide) (fun _ => rfl) (ci := 13) (q0 := 0) rfl rfl rfl rfl rfl hl.1 (Nat.le_of_ble_eq_true rfl) dX11_execute_157 ⟨Nat.le_of_ble_eq_true rfl, Nat.le_of_ble_eq_true rfl⟩ ?_
                      intro z157_17 u H locs p157_18 hP hD hS
                      have hP : va_P D vwCl (bModel tA a0 a1 a2 a3 a4 a5 a6 a7 a8 a9 a10 (if (0 : Int) < 2 then ms else ms_9) ms msav misv (if (0 : Int) < 2 then mpast else pastP ms mpm mpast) (if (0 : Int) < 2 then mpm else if mpm = 8 then 8 else mpm + 1) 2 mways_11 mnds_12 mtkp_13 mline mlm mtxt 0 p9 w2 me dn c9 n9) H := hP
                      have hD : va_D A (bModel tA a0 a1 a2 a3 a4 a5 a6 a7 a8 a9 a10 (if (0 : Int) < 2 then ms else ms_9) ms msav misv (if (0 : Int) < 2 then mpast else pastP ms mpm mpast) (if (0 : Int) < 2 then mpm else if mpm = 8 then 8 else mpm + 1) 2 mways_11 mnds_12 mtkp_13 mline mlm mtxt 0 p9 w2 me dn c9 n9) := hD
                      have q_157 : ((0 : Int) < 2 ∧ z157_17 = 0) ∨ ((2 : Int) = 0 ∧ z157_17 = z154_15) := p157_18
                      exact hret z157_17 ((if (0 : Int) < 2 then ms else ms_9), ms, (if (0 : Int) < 2 then mpast else pastP ms mpm mpast), (if (0 : Int) < 2 then mpm else if mpm = 8 then 8 else mpm + 1), 2, mways_11, mnds_12, mtkp_13, p9, w2, me, dn, c9, n9) _ _ _ _ dX11_execute_160 ⟨(show exP mtxt mlen mcmd ms mbef mpast mpm merr mfail z157_17 2 me dn (if (0 : Int) < 2 then ms else ms_9) ms (if (0 : Int) < 2 then mpast else pastP ms mpm mpast) (if (0 : Int) < 2 then mpm else if mpm = 8 then 8 else mpm + 1) c9 n9 from by exact exP_2 hok (by omega) (by omega) h1 (by omega) q_136 rfl (by omega) (by omega) rfl), (show 0 ≤ n9 ∧ n9 ≤ 60 ∧ ∀ j, 0 ≤ j → j < 300 → 0 ≤ c9 j ∧ c9 j ≤ 9999 from by exact ⟨by omega, by omega, g3⟩)⟩ hP hD hS
              exact L126 _ 0 ms mways mnds mtkp 0 _ _ _ (by omega) (by exact rfl) (by rfl) (Nat.lt_succ_self _) hP hD hS (lv_sub hl [0, 1] rfl)
            · refine lv_aload_n hx hb dX11_execute_114 rfl (lv_at hl 0 rfl) ?_
              refine zz_iconst hx hb dX11_execute_115 ?_
              refine zz_callVi (As := [.int (iI 1)]) (rest := []) (wf := fun u => bModel tA a0 a1 a2 a3 a4 a5 a6 a7 a8 a9 a10 ms mbef msav misv mpast mpm 1 mways mnds mtkp mline mlm mtxt 0 p9 w2 me mfail c9 n9) ⟨hx, hb, hml, hown, hts⟩ (c_X11_fails l D tA a0 a1 a2 a3 a4 a5 a6 a7 a8 a9 a10 H.size ms mbef msav misv mpast mpm mthr mways mnds mtkp mline mlm mtxt 0 p9 w2 me mfail c9 n9 1 (by first | assumption | omega)) (cwV 1 hts gX11_execute_X11_fails rfl rfl rfl (by decide +kernel) ⟨Nat.le_of_ble_eq_true rfl, Nat.le_of_ble_eq_true rfl⟩) hK hP hD hS hA [0, 1, 2, 3, 4, 5, 6, 7, 8, 9, 10] [] [0, 1, 2, 3, 4, 5, 6, 7, 8, 9, 10] rfl rfl (by decide) (by decide) (by decide) (by decide) (fun _ => rfl) (ci := 13) (q0 := 0) rfl rfl rfl rfl rfl hl.1 (Nat.le_of_ble_eq_true rfl) dX11_execute_116 ⟨Nat.le_of_ble_eq_true rfl, Nat.le_of_ble_eq_true rfl⟩ ?_
              intro z116_19 u H locs p116_20 hP hD hS
              have hP : va_P D vwCl (bModel tA a0 a1 a2 a3 a4 a5 a6 a7 a8 a9 a10 ms mbef msav misv mpast mpm 1 mways mnds mtkp mline mlm mtxt 0 p9 w2 me mfail c9 n9) H := hP
              have hD : va_D A (bModel tA a0 a1 a2 a3 a4 a5 a6 a7 a8 a9 a10 ms mbef msav misv mpast mpm 1 mways mnds mtkp mline mlm mtxt 0 p9 w2 me mfail c9 n9) := hD
              have q_116 : z116_19 = 0 := p116_20
              exact hret z116_19 (ms, mbef, mpast, mpm, 1, mways, mnds, mtkp, p9, w2, me, mfail, c9, n9) _ _ _ _ dX11_execute_119 ⟨(show exP mtxt mlen mcmd ms mbef mpast mpm merr mfail z116_19 1 me mfail ms mbef mpast mpm c9 n9 from by exact exP_1 g2 (by omega) (by omega) (by omega) (by omega) (by omega) (by omega)), (show 0 ≤ n9 ∧ n9 ≤ 60 ∧ ∀ j, 0 ≤ j → j < 300 → 0 ≤ c9 j ∧ c9 j ≤ 9999 from by exact ⟨by omega, by omega, g3⟩)⟩ hP hD hS
          refine lv_aload_n hx hb dX11_execute_81 rfl (lv_at hl 0 rfl) ?_
          refine va_get (D := D) (ci := 13) (v := .int (iI w2)) (C := RX11) (T := TX11) (N := 20) hx hb hts iX11 hown hK hP 0 rfl rfl 15 (by decide) f_215 (fun _ h9 => h9) rfl dX11_execute_82 ?_
          refine zz_if_eq (tgt := 95) hx hb dX11_execute_85 (by decide) (by omega) (fun c_85 => ?_) (fun c_85 => ?_)
          · refine lv_aload_n hx hb dX11_execute_95 rfl (lv_at hl 0 rfl) ?_
            refine va_get (D := D) (ci := 13) (v := .int (iI merr)) (C := RX11) (T := TX11) (N := 20) hx hb hts iX11 hown hK hP 0 rfl rfl 16 (by decide) f_39 (fun _ h9 => h9) rfl dX11_execute_96 ?_
            exact J99 merr _ _ _ (by omega) hP hD hS (lv_sub hl [0] rfl)
          · refine lv_aload_n hx hb dX11_execute_88 rfl (lv_at hl 0 rfl) ?_
            refine va_get (D := D) (ci := 13) (v := .int (iI p9)) (C := RX11) (T := TX11) (N := 20) hx hb hts iX11 hown hK hP 0 rfl rfl 14 (by decide) f_208 (fun _ h9 => h9) rfl dX11_execute_89 ?_
            refine lv_goto (tgt := 99) hx hb dX11_execute_92 (by decide) ?_
            exact J99 p9 _ _ _ (by omega) hP hD hS (lv_sub hl [0] rfl)
        refine lv_aload_n hx hb dX11_execute_54 rfl (lv_at hl 0 rfl) ?_
        refine va_get (D := D) (ci := 13) (v := .int (iI w9)) (C := RX11) (T := TX11) (N := 20) hx hb hts iX11 hown hK hP 0 rfl rfl 15 (by decide) f_215 (fun _ h9 => h9) rfl dX11_execute_55 ?_
        refine zz_if_ne (tgt := 72) hx hb dX11_execute_58 (by decide) (by omega) (fun c_58 => ?_) (fun c_58 => ?_)
        · refine zz_iconst hx hb dX11_execute_72 ?_
          refine lv_goto (tgt := 77) hx hb dX11_execute_73 (by decide) ?_
          exact J77 1 _ _ _ (by omega) hP hD hS (lv_sub hl [0] rfl)
        · refine lv_aload_n hx hb dX11_execute_61 rfl (lv_at hl 0 rfl) ?_
          refine va_get (D := D) (ci := 13) (v := .int (iI p9)) (C := RX11) (T := TX11) (N := 20) hx hb hts iX11 hown hK hP 0 rfl rfl 14 (by decide) f_208 (fun _ h9 => h9) rfl dX11_execute_62 ?_
          refine lv_aload_n hx hb dX11_execute_65 rfl (lv_at hl 0 rfl) ?_
          refine va_get (D := D) (ci := 13) (v := .int (iI mlen)) (C := RX11) (T := TX11) (N := 20) hx hb hts iX11 hown hK hP 0 rfl rfl 13 (by decide) f_205 (fun _ h9 => h9) rfl dX11_execute_66 ?_
          refine zz_icmp_ge (tgt := 76) hx hb dX11_execute_69 (by decide) (by omega) (by omega) (fun c_69 => ?_) (fun c_69 => ?_)
          · refine zz_iconst hx hb dX11_execute_76 ?_
            exact J77 0 _ _ _ (by omega) hP hD hS (lv_sub hl [0] rfl)
          · refine zz_iconst hx hb dX11_execute_72 ?_
            refine lv_goto (tgt := 77) hx hb dX11_execute_73 (by decide) ?_
            exact J77 1 _ _ _ (by omega) hP hD hS (lv_sub hl [0] rfl)
      refine va_get (D := D) (ci := 13) (v := .int (iI w9)) (C := RX11) (T := TX11) (N := 20) hx hb hts iX11 hown hK hP 0 rfl rfl 15 (by decide) f_215 (fun _ h9 => h9) rfl dX11_execute_20 ?_
      refine zz_if_ne (tgt := 53) hx hb dX11_execute_23 (by decide) (by omega) (fun c_23 => ?_) (fun c_23 => ?_)
      · exact J53  _ _ _ (by omega) hP hD hS (lv_sub hl [0] rfl)
      · refine lv_aload_n hx hb dX11_execute_26 rfl (lv_at hl 0 rfl) ?_
        refine zz_iconst hx hb dX11_execute_27 ?_
        refine zz_callVi (As := [.int (iI 0)]) (rest := []) (wf := fun u => bModel tA a0 a1 a2 a3 a4 a5 a6 a7 a8 a9 a10 ms mbef msav misv mpast mpm mthr mways mnds mtkp mline mlm mtxt mlen p9 w9 merr mfail c9 n9) ⟨hx, hb, hml, hown, hts⟩ (c_X11_behind l D tA a0 a1 a2 a3 a4 a5 a6 a7 a8 a9 a10 H.size ms mbef msav misv mpast mpm mthr mways mnds mtkp mline mlm mtxt mlen p9 w9 merr mfail c9 n9 0 (by first | assumption | omega) (by first | assumption | omega) (by first | assumption | omega) (by first | assumption | omega) (by first | assumption | omega)) (cwV 1 hts gX11_execute_X11_behind rfl rfl rfl (by decide +kernel) ⟨Nat.le_of_ble_eq_true rfl, Nat.le_of_ble_eq_true rfl⟩) hK hP hD hS hA [0, 1, 2, 3, 4, 5, 6, 7, 8, 9, 10] [] [0, 1, 2, 3, 4, 5, 6, 7, 8, 9, 10] rfl rfl (by decide) (by decide) (by decide) (by decide) (fun _ => rfl) (ci := 13) (q0 := 0) rfl rfl rfl rfl rfl hl.1 (Nat.le_of_ble_eq_true rfl) dX11_execute_28 ⟨Nat.le_of_ble_eq_true rfl, Nat.le_of_ble_eq_true rfl⟩ ?_
        intro z28_21 u H locs p28_22 hP hD hS
        have hP : va_P D vwCl (bModel tA a0 a1 a2 a3 a4 a5 a6 a7 a8 a9 a10 ms mbef msav misv mpast mpm mthr mways mnds mtkp mline mlm mtxt mlen p9 w9 merr mfail c9 n9) H := hP
        have hD : va_D A (bModel tA a0 a1 a2 a3 a4 a5 a6 a7 a8 a9 a10 ms mbef msav misv mpast mpm mthr mways mnds mtkp mline mlm mtxt mlen p9 w9 merr mfail c9 n9) := hD
        have q_28 : (p9 + 0 < mlen ∧ z28_21 = mtxt (p9 + 0)) ∨ (mlen ≤ p9 + 0 ∧ z28_21 = -1) := p28_22.1
        have q2_28 : -1 ≤ z28_21 ∧ z28_21 ≤ 65535 := p28_22.2
        rw [Int.add_zero] at q_28
        refine zz_bipush hx hb dX11_execute_31 (by decide) ?_
        refine zz_icmp_ne (tgt := 53) hx hb dX11_execute_33 (by decide) (by omega) (by decide) (fun c_33 => ?_) (fun c_33 => ?_)
        · exact J53  _ _ _ (by omega) hP hD hS (lv_sub hl [0] rfl)
        · refine lv_aload_n hx hb dX11_execute_36 rfl (lv_at hl 0 rfl) ?_
          refine lv_dup hx hb dX11_execute_37 rfl ?_
          refine va_get (D := D) (ci := 13) (v := .int (iI p9)) (C := RX11) (T := TX11) (N := 20) hx hb hts iX11 hown hK hP 0 rfl rfl 14 (by decide) f_208 (fun _ h9 => h9) rfl dX11_execute_38 ?_
          refine zz_iconst hx hb dX11_execute_41 ?_
          refine zz_iadd hx hb dX11_execute_42 ?_
          refine va_put (D := D) (ci := 13) (v := .int (iI (p9 + 1))) (ty := .int) (C := RX11) (T := TX11) (N := 20) hx hb hts iX11 tyX11 tyX11_ok nmX11 hown hK hP hD hS 0 rfl rfl 14 (by decide) f_208 (fun _ h9 => h9) rfl (by decide +kernel) rfl rfl (Nat.le_of_ble_eq_true rfl) dX11_execute_43 (fun H locs hP hD hS => ?_)
          have hP : va_P D vwCl (bModel tA a0 a1 a2 a3 a4 a5 a6 a7 a8 a9 a10 ms mbef msav misv mpast mpm mthr mways mnds mtkp mline mlm mtxt mlen (p9 + 1) w9 merr mfail c9 n9) H := hP
          have hD : va_D A (bModel tA a0 a1 a2 a3 a4 a5 a6 a7 a8 a9 a10 ms mbef msav misv mpast mpm mthr mways mnds mtkp mline mlm mtxt mlen (p9 + 1) w9 merr mfail c9 n9) := hD
          refine lv_aload_n hx hb dX11_execute_46 rfl (lv_at hl 0 rfl) ?_
          refine zc_callVv (As := []) (rest := []) (wf := fun u => bModel tA a0 a1 a2 a3 a4 a5 a6 a7 a8 a9 a10 ms mbef msav misv mpast mpm mthr mways mnds mtkp mline mlm mtxt mlen u.2.2.1 u.2.2.2 merr mfail u.1 u.2.1) ⟨hx, hb, hml, hown, hts⟩ (c_X11_readCommand l K D tA a0 a1 a2 a3 a4 a5 a6 a7 a8 a9 a10 H.size ms mbef msav misv mpast mpm mthr mways mnds mtkp mline mlm mtxt mlen (p9 + 1) w9 merr mfail c9 n9 (by first | assumption | omega) (by first | assumption | omega) (by first | assumption | omega) (by first | assumption | omega) (by first | assumption | omega)) (cwV 0 hts gX11_execute_X11_readCommand rfl rfl rfl (by decide +kernel) ⟨Nat.le_of_ble_eq_true rfl, Nat.le_of_ble_eq_true rfl⟩) hK hP hD hS hA hCn [0, 1, 2, 3, 4, 5, 6, 7, 8, 9, 10] [] [0, 1, 2, 3, 4, 5, 6, 7, 8, 9, 10] rfl rfl (by decide) (by decide) (by decide) (by decide) (fun _ => rfl) (ci := 13) (q0 := 0) rfl rfl rfl rfl rfl hl.1 (Nat.le_of_ble_eq_true rfl) dX11_execute_47 ⟨Nat.le_of_ble_eq_true rfl, Nat.le_of_ble_eq_true rfl⟩ ?_
          intro u H locs p47_27 hP hD hS
          obtain ⟨mcmd_23, mcm_24, mat_25, mwr_26⟩ := u
          have hP : va_P D vwCl (bModel tA a0 a1 a2 a3 a4 a5 a6 a7 a8 a9 a10 ms mbef msav misv mpast mpm mthr mways mnds mtkp mline mlm mtxt mlen mat_25 mwr_26 merr mfail mcmd_23 mcm_24) H := hP
          have hD : va_D A (bModel tA a0 a1 a2 a3 a4 a5 a6 a7 a8 a9 a10 ms mbef msav misv mpast mpm mthr mways mnds mtkp mline mlm mtxt mlen mat_25 mwr_26 merr mfail mcmd_23 mcm_24) := hD
          have q_47 : rcP mtxt mlen (p9 + 1) w9 c9 n9 mcmd_23 mcm_24 mat_25 mwr_26 := p47_27.1
          have q2_47 : 0 ≤ mat_25 ∧ mat_25 ≤ mlen ∧ (mwr_26 = 0 ∨ mwr_26 = 1) ∧ mcm_24 ≤ n9 + 1 ∧ n9 ≤ mcm_24 := p47_27.2
          have g_47 := rcP_go (by omega) (by omega) q_47
          refine lv_goto (tgt := 19) hx hb dX11_execute_50 (by decide) ?_
          exact ih19 mat_25 mwr_26 mcmd_23 mcm_24 _ _ _ (by omega) (by omega) (by exact prM_s g2 g0.1.1 (by omega) q_28 (by omega) g_47.1 (by omega) q_47) (by exact rcP_rng (by omega) (by omega) q_47 g3) (by omega) hP hD hS (lv_sub hl [0] rfl)
  exact L19 _ mat_3 mwr_4 mcmd_1 mcm_2 _ _ _ (by omega) (by omega) (by exact prM_0 g_16.1 q_16) (by exact rcP_rng (by omega) (by omega) q_16 hcr) (Nat.lt_succ_self _) hP hD hS (lv_sub hl [0] rfl)
