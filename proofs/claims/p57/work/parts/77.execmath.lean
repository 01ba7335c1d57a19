/-! ===== running a text: where each command stands, what it does ===== -/
theorem sm_has {f : Int → Int} {k : Int} (k0 : 0 ≤ k) {n : Nat} (hk : k < n) (h : ∀ j : Int, 0 ≤ j → j < n → 0 ≤ f j) : f k ≤ sm f n := by
  have a := sm_zU (f := f) (v := 0) k0 hk
  have b := sm_pos (f := zU f k 0) (n := n) (fun j j0 j1 => by
    by_cases e : j = k
    · rw [e, zU_same]; omega
    · rw [zU_ne e]; exact h j j0 j1)
  omega
theorem SVk_out {B N ports legs : Int} {lower upper leng reach meter : Int → Int} {cnt : Int} {strt goal money litN darkN : Int → Int} {rng nights fog fund refd brt : Int} (h : SVk B N (mkS ports legs lower upper leng reach meter cnt strt goal money litN darkN rng nights fog fund refd brt)) :
    ChV ports legs lower upper leng reach ∧ ChU legs lower upper ∧ (0 ≤ cnt ∧ cnt ≤ 6) ∧ (∀ j, 0 ≤ j → j < cnt → (0 ≤ strt j ∧ strt j < ports ∧ 0 ≤ goal j ∧ goal j < ports ∧ strt j ≠ goal j)) ∧ (∀ j, 0 ≤ j → j < cnt → (0 ≤ money j ∧ money j ≤ B)) ∧ (0 ≤ fog ∧ fog ≤ 9) ∧ (0 ≤ rng ∧ rng ≤ 20) ∧ (0 ≤ nights ∧ nights ≤ N) ∧
    (0 ≤ refd ∧ refd ≤ fund ∧ fund ≤ B ∧ brt ≤ B) ∧ (∀ j, 0 ≤ j → j < legs → 0 ≤ meter j ∧ meter j ≤ N) ∧ (∀ j, 0 ≤ j → j < cnt → (0 ≤ litN j ∧ litN j ≤ N) ∧ (0 ≤ darkN j ∧ darkN j ≤ N)) ∧ sm money cnt.toNat + fund = brt := by
  obtain ⟨h1, h2, h3, h4, h5, ⟨h6, h7, h8⟩, h9, h10, h11⟩ := h
  have h4 : 0 ≤ cnt ∧ cnt ≤ 6 := h4
  have h5 : ∀ j, 0 ≤ j → j < cnt → (0 ≤ strt j ∧ strt j < ports ∧ 0 ≤ goal j ∧ goal j < ports ∧ strt j ≠ goal j) ∧ 0 ≤ money j ∧ (0 ≤ litN j ∧ litN j ≤ N) ∧ (0 ≤ darkN j ∧ darkN j ≤ N) := h5
  have h9 : 0 ≤ refd ∧ refd ≤ fund := h9
  have h10 : sm money cnt.toNat + fund = brt := h10
  have h11 : brt ≤ B := h11
  have hpos : ∀ j : Int, 0 ≤ j → j < (cnt.toNat : Nat) → 0 ≤ money j := fun j j0 j1 => (h5 j j0 (by omega)).2.1
  have hs0 := sm_pos hpos
  refine ⟨h1, h2, h4, fun j j0 j1 => (h5 j j0 j1).1, fun j j0 j1 => ?_, h8, h6, h7, ⟨h9.1, h9.2, by omega, h11⟩, h3, fun j j0 j1 => (h5 j j0 j1).2.2, h10⟩
  have := sm_has j0 (n := cnt.toNat) (by omega) hpos
  exact ⟨(h5 j j0 j1).2.1, by omega⟩
/-- the place where command k begins -/
def psk (txt : Int → Int) (len : Int) : Nat → Int
  | 0 => 0
  | k + 1 => (pNx txt len (psk txt len k)).2.2.1
def cmK (txt : Int → Int) (len : Int) (k : Nat) : Nat := (pNx txt len (psk txt len k)).2.1.toNat
def vlK (txt : Int → Int) (len : Int) (k : Nat) (j : Nat) : Int := (pNx txt len (psk txt len k)).2.2.2.getD j 0
theorem cnt_run {txt : Int → Int} {len : Int} : ∀ (f k : Nat), (pCnt txt len f ((k : Int) + 1) (psk txt len k)).1 ≠ -1 →
    ((k : Int) + 1 ≤ (pCnt txt len f ((k : Int) + 1) (psk txt len k)).1) ∧ (∀ i : Nat, k ≤ i → (i : Int) < (pCnt txt len f ((k : Int) + 1) (psk txt len k)).1 → (pNx txt len (psk txt len i)).1 = 1) ∧
    ∃ N : Nat, (N : Int) = (pCnt txt len f ((k : Int) + 1) (psk txt len k)).1 ∧ psk txt len N = len
  | 0, k, h => absurd (rfl : (-1 : Int) = -1) h
  | f + 1, k, h => by
    have e : pCnt txt len (f + 1) ((k : Int) + 1) (psk txt len k) = if (pNx txt len (psk txt len k)).1 = 1 then (if (pNx txt len (psk txt len k)).2.2.1 = len then ((k : Int) + 1, len) else pCnt txt len f ((k : Int) + 1 + 1) (pNx txt len (psk txt len k)).2.2.1) else (-1, (pNx txt len (psk txt len k)).2.2.1) := rfl
    by_cases a : (pNx txt len (psk txt len k)).1 = 1
    · rw [if_pos a] at e
      by_cases b : (pNx txt len (psk txt len k)).2.2.1 = len
      · rw [if_pos b] at e
        rw [e]
        refine ⟨Int.le_refl _, fun i i0 i1 => ?_, k + 1, by show ((k + 1 : Nat) : Int) = (k : Int) + 1; omega, b⟩
        have i1 : (i : Int) < (k : Int) + 1 := i1
        rw [show i = k by omega]
        exact a
      · rw [if_neg b] at e
        have e2 : ((k + 1 : Nat) : Int) = (k : Int) + 1 := by omega
        have g : pCnt txt len f (((k + 1 : Nat) : Int) + 1) (psk txt len (k + 1)) = pCnt txt len (f + 1) ((k : Int) + 1) (psk txt len k) := by rw [e, e2]; rfl
        have r := cnt_run f (k + 1) (by rw [g]; exact h)
        rw [g] at r
        refine ⟨by omega, fun i i0 i1 => ?_, r.2.2⟩
        by_cases c : i = k
        · rw [c]; exact a
        · exact r.2.1 i (by omega) i1
    · rw [if_neg a] at e
      rw [e] at h
      exact absurd rfl h
theorem cnt_run0 {txt : Int → Int} {len : Int} (h : (pCnt txt len 60 1 0).1 ≠ -1) : ∀ i : Nat, (i : Int) < (pCnt txt len 60 1 0).1 → (pNx txt len (psk txt len i)).1 = 1 :=
  fun i hi => (cnt_run 60 0 h).2.1 i (Nat.zero_le _) hi
theorem pVals_ge {txt : Int → Int} {len : Int} : ∀ {ds : List Int} {p : Int}, p ≤ len → p ≤ (pVals txt len ds p).2.1
  | [], p, h => Int.le_refl _
  | d :: ds, p, h => by
    rw [pVals_c]
    by_cases a : p < len ∧ txt p = 32
    · rw [if_pos a]
      by_cases b : ctD txt len (d - 48).toNat (p + 1) = 0
      · rw [if_pos b]; show p ≤ p + 1; omega
      · rw [if_neg b]
        have c := ctD_in txt len (d - 48).toNat (p + 1) (by omega)
        have r := pVals_ge (txt := txt) (len := len) (ds := ds) (p := p + 1 + ctD txt len (d - 48).toNat (p + 1)) (by omega)
        show p ≤ (pVals txt len ds (p + 1 + ctD txt len (d - 48).toNat (p + 1))).2.1
        omega
    · rw [if_neg a]; exact Int.le_refl _
theorem pWd_ge {txt : Int → Int} {len p : Int} (hp : p ≤ len) : ∀ {n i : Nat} {f : Int}, i + n = 8 → (pWd txt len p n i f).1 = 1 → p + 1 ≤ (pWd txt len p n i f).2.2 ∧ (pWd txt len p n i f).2.2 ≤ len
  | 0, i, f, hi, h => absurd (show (0 : Int) = 1 from h) (by decide)
  | n + 1, i, f, hi, h => by
    have e : pWd txt len p (n + 1) i f = if mtW txt len p (sTx.getD i []) = (sLn i : Nat) then ((1 : Int), ((i : Nat) : Int), p + mtW txt len p (sTx.getD i [])) else pWd txt len p n (i + 1) (max f (mtW txt len p (sTx.getD i []))) := rfl
    have hl : ∀ i, i < 8 → 1 ≤ sLn i := by decide
    have m := mtW_in txt len (sTx.getD i []) p hp
    by_cases a : mtW txt len p (sTx.getD i []) = (sLn i : Nat)
    · rw [e, if_pos a]
      have := hl i (by omega)
      show p + 1 ≤ p + mtW txt len p (sTx.getD i []) ∧ p + mtW txt len p (sTx.getD i []) ≤ len
      omega
    · rw [e, if_neg a] at h ⊢
      exact pWd_ge hp (by omega) h
theorem pCmd_ge {txt : Int → Int} {len p : Int} (hp : p ≤ len) (h : (pCmd txt len p).1 = 1) : p + 1 ≤ (pCmd txt len p).2.2.1 := by
  by_cases a : (pWd txt len p 8 0 0).1 = 1
  · have w := pWd_ge hp (n := 8) (i := 0) (f := 0) rfl a
    have v := pVals_ge (txt := txt) (len := len) (ds := sTx.getD (dgI (pWd txt len p 8 0 0).2.1.toNat) []) (p := (pWd txt len p 8 0 0).2.2) w.2
    rw [pCmd_1 a]
    show p + 1 ≤ (pVals txt len (sTx.getD (dgI (pWd txt len p 8 0 0).2.1.toNat) []) (pWd txt len p 8 0 0).2.2).2.1
    omega
  · rw [pCmd_0 a] at h
    exact absurd (show (0 : Int) = 1 from h) (by decide)
theorem pNx_ge {txt : Int → Int} {len p : Int} (hp : p ≤ len) (h : (pNx txt len p).1 = 1) : p + 1 ≤ (pNx txt len p).2.2.1 := by
  unfold pNx at h ⊢
  by_cases a : 0 < p
  · rw [if_pos a] at h ⊢
    by_cases b : p < len ∧ txt p = 59
    · rw [if_pos b] at h ⊢
      have := pCmd_ge (txt := txt) (len := len) (p := p + 1) (by omega) h
      omega
    · rw [if_neg b] at h
      exact absurd (show (0 : Int) = 1 from h) (by decide)
  · rw [if_neg a] at h ⊢
    exact pCmd_ge hp h
/-! a command's numbers beyond those that it reads do not matter -/
theorem fltC_cg {ports legs : Int} {lower upper : Int → Int} {cnt : Int} {E : Int → Int → Int → Int → Prop} {c : Nat} {a b x y a' b' x' y' z : Int} (h1 : 0 < sLn (dgI c) → a = a') (h2 : 1 < sLn (dgI c) → b = b') (h3 : 2 < sLn (dgI c) → x = x') (h4 : 3 < sLn (dgI c) → y = y') (h : fltC ports legs lower upper cnt E c a b x y z) : fltC ports legs lower upper cnt E c a' b' x' y' z := by
  rcases h with ⟨hc, h⟩ | ⟨hc, h⟩ | ⟨hc, h⟩ | ⟨hc, h⟩ | ⟨hc, h⟩ | ⟨hc, h⟩ | ⟨hc, h⟩ | ⟨hc, h⟩
  · exact fltC_0 hc h
  · subst hc; have e1 := h1 (by decide); have e2 := h2 (by decide); have e3 := h3 (by decide); have e4 := h4 (by decide); subst e1 e2 e3 e4; exact fltC_1 rfl h
  · subst hc; have e1 := h1 (by decide); have e2 := h2 (by decide); subst e1 e2; exact fltC_2 rfl h
  · subst hc; have e1 := h1 (by decide); have e2 := h2 (by decide); have e3 := h3 (by decide); subst e1 e2 e3; exact fltC_3 rfl h
  · subst hc; have e1 := h1 (by decide); have e2 := h2 (by decide); subst e1 e2; exact fltC_4 rfl h
  · subst hc; have e1 := h1 (by decide); subst e1; exact fltC_5 rfl h
  · subst hc; have e1 := h1 (by decide); subst e1; exact fltC_6 rfl h
  · exact fltC_7 hc h
theorem effC_cg {c : Nat} {a b x y a' b' x' y' : Int} {s s' : Nat → Int → Int} (h1 : 0 < sLn (dgI c) → a = a') (h2 : 1 < sLn (dgI c) → b = b') (h3 : 2 < sLn (dgI c) → x = x') (h4 : 3 < sLn (dgI c) → y = y') (h : effC c a b x y s s') : effC c a' b' x' y' s s' := by
  rcases h with ⟨hc, h⟩ | ⟨hc, h⟩ | ⟨hc, h⟩ | ⟨hc, h⟩ | ⟨hc, h⟩ | ⟨hc, h⟩ | ⟨hc, h⟩ | ⟨hc, h⟩
  · exact Or.inl ⟨hc, h⟩
  · subst hc; have e1 := h1 (by decide); have e2 := h2 (by decide); have e3 := h3 (by decide); have e4 := h4 (by decide); subst e1 e2 e3 e4; exact Or.inr (Or.inl ⟨rfl, h⟩)
  · subst hc; have e1 := h1 (by decide); have e2 := h2 (by decide); subst e1 e2; exact Or.inr (Or.inr (Or.inl ⟨rfl, h⟩))
  · subst hc; have e1 := h1 (by decide); have e2 := h2 (by decide); have e3 := h3 (by decide); subst e1 e2 e3; exact effC_3 rfl h
  · subst hc; have e1 := h1 (by decide); have e2 := h2 (by decide); subst e1 e2; exact effC_4 rfl h
  · subst hc; have e1 := h1 (by decide); subst e1; exact effC_5 rfl h
  · subst hc; have e1 := h1 (by decide); subst e1; exact effC_6 rfl h
  · obtain ⟨tp, nd, sh, g, q1, q2, q3⟩ := h
    exact effC_7 hc q1 q2 q3
/-- command k: refused with f, or done -/
def fltK (txt : Int → Int) (len : Int) (k : Nat) (s : Nat → Int → Int) (f : Int) : Prop := fltC (s 0 0) (s 1 0) (s 2) (s 3) (s 7 0) (sE s) (cmK txt len k) (vlK txt len k 0) (vlK txt len k 1) (vlK txt len k 2) (vlK txt len k 3) f
def stpC (txt : Int → Int) (len : Int) (k : Nat) (s s' : Nat → Int → Int) : Prop := fltK txt len k s 0 ∧ effC (cmK txt len k) (vlK txt len k 0) (vlK txt len k 1) (vlK txt len k 2) (vlK txt len k 3) s s'
def flsC (txt : Int → Int) (len : Int) (k : Nat) (s : Nat → Int → Int) : Prop := ∃ f, f ≠ 0 ∧ fltK txt len k s f
def runC (txt : Int → Int) (len : Int) : Nat → (Nat → Int → Int) → (Nat → Int → Int) → Prop
  | 0, s, s' => s' = s
  | k + 1, s, s' => ∃ q, runC txt len k s q ∧ stpC txt len k q s'
/-- the text stops at command f -/
def failC (txt : Int → Int) (len : Int) (s : Nat → Int → Int) (f : Int) : Prop := ∃ n : Nat, ∃ q, f = (n : Int) ∧ (n : Int) < (pCnt txt len 60 1 0).1 ∧ runC txt len n s q ∧ flsC txt len n q
theorem stp_of {txt : Int → Int} {len p z cmd p' w : Int} {v : Int → Int} {k : Nat} {s s' : Nat → Int → Int} (hx : nxP txt len p z cmd p' v) (hz : z = 1) (hp : p = psk txt len k)
    (hq : (w = 0 ∧ (∃ f, f ≠ 0 ∧ fltC (s 0 0) (s 1 0) (s 2) (s 3) (s 7 0) (sE s) (Int.toNat cmd) (v 0) (v 1) (v 2) (v 3) f) ∧ s' = s) ∨ (w = 1 ∧ fltC (s 0 0) (s 1 0) (s 2) (s 3) (s 7 0) (sE s) (Int.toNat cmd) (v 0) (v 1) (v 2) (v 3) 0 ∧ effC (Int.toNat cmd) (v 0) (v 1) (v 2) (v 3) s s')) :
    (w = 1 ∧ stpC txt len k s s') ∨ (w = 0 ∧ flsC txt len k s ∧ s' = s) := by
  obtain ⟨-, -, hx3⟩ := hx
  obtain ⟨hc, hv⟩ := hx3 hz
  subst hp
  have ec : Int.toNat cmd = cmK txt len k := by rw [hc]; rfl
  have e1 : 0 < sLn (dgI (cmK txt len k)) → v 0 = vlK txt len k 0 := fun h => hv 0 (by decide) (by rw [ec]; omega)
  have e2 : 1 < sLn (dgI (cmK txt len k)) → v 1 = vlK txt len k 1 := fun h => hv 1 (by decide) (by rw [ec]; omega)
  have e3 : 2 < sLn (dgI (cmK txt len k)) → v 2 = vlK txt len k 2 := fun h => hv 2 (by decide) (by rw [ec]; omega)
  have e4 : 3 < sLn (dgI (cmK txt len k)) → v 3 = vlK txt len k 3 := fun h => hv 3 (by decide) (by rw [ec]; omega)
  rw [ec] at hq
  rcases hq with ⟨w0, ⟨f, f0, hf⟩, hs⟩ | ⟨w1, hf, he⟩
  · exact Or.inr ⟨w0, ⟨f, f0, fltC_cg e1 e2 e3 e4 hf⟩, hs⟩
  · exact Or.inl ⟨w1, fltC_cg e1 e2 e3 e4 hf, effC_cg e1 e2 e3 e4 he⟩
theorem psk_s {txt : Int → Int} {len p z cmd p' d : Int} {v : Int → Int} (h : nxP txt len p z cmd p' v) (hp : p = psk txt len d.toNat) (hd : 0 ≤ d) : p' = psk txt len (d + 1).toNat := by
  rw [show (d + 1).toNat = d.toNat + 1 by omega, h.2.1, hp]
  rfl
theorem run_s {txt : Int → Int} {len d : Int} {s q s' : Nat → Int → Int} (hd : 0 ≤ d) (h : runC txt len d.toNat s q) (g : stpC txt len d.toNat q s') : runC txt len (d + 1).toNat s s' := by
  rw [show (d + 1).toNat = d.toNat + 1 by omega]
  exact ⟨q, h, g⟩
theorem SVk_stp {B N d : Int} {txt : Int → Int} {len : Int} {k : Nat} {s s' : Nat → Int → Int} (h : SVk (B + 9999 * d) (N + d) s) (hB : 0 ≤ B) (hN : 0 ≤ N) (hd : 0 ≤ d) (g : stpC txt len k s s') : SVk (B + 9999 * (d + 1)) (N + (d + 1)) s' :=
  SVk_mono (SVk_eff h (by omega) (by omega) g.1 g.2) (by omega) (by omega)
/-- as many commands as characters at the most -/
theorem psk_ge {txt : Int → Int} {len : Int} : ∀ {n : Nat}, 0 ≤ len → (∀ i : Nat, i < n → (pNx txt len (psk txt len i)).1 = 1 ∧ psk txt len i ≤ len) → (n : Int) ≤ psk txt len n
  | 0, h, g => Int.le_refl _
  | n + 1, h, g => by
    have a := psk_ge (n := n) h (fun i hi => g i (by omega))
    have b := pNx_ge (g n (by omega)).2 (g n (by omega)).1
    show ((n + 1 : Nat) : Int) ≤ (pNx txt len (psk txt len n)).2.2.1
    omega
