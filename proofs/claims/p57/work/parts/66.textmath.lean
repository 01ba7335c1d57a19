/-! ===== digits of a number; a text's commands ===== -/
/-- the digits of a number, as characters; n: one less than how many there may be -/
def dg : Nat → Int → List Int
  | 0, x => [48 + x % 10]
  | n + 1, x => if x ≤ 9 then [48 + x % 10] else dg n (x / 10) ++ [48 + x % 10]
def dgL (x : Int) : List Int := dg 8 x
theorem dg_up : ∀ (n : Nat) (x : Int), 0 ≤ x → x < 10 ^ (n + 1) → dg (n + 1) x = dg n x
  | 0, x, h0, h => by
    show (if x ≤ 9 then [48 + x % 10] else dg 0 (x / 10) ++ [48 + x % 10]) = [48 + x % 10]
    rw [if_pos (by omega)]
  | n + 1, x, h0, h => by
    show (if x ≤ 9 then [48 + x % 10] else dg (n + 1) (x / 10) ++ [48 + x % 10]) = (if x ≤ 9 then [48 + x % 10] else dg n (x / 10) ++ [48 + x % 10])
    have e : (10 : Int) ^ (n + 1 + 1) = 10 ^ (n + 1) * 10 := Int.pow_succ 10 (n + 1)
    rw [e] at h
    rw [dg_up n (x / 10) (by omega) (by omega)]
theorem dgL_1 {x : Int} (_h0 : 0 ≤ x) (h : x ≤ 9) : dgL x = [48 + x] := by
  show (if x ≤ 9 then [48 + x % 10] else dg 7 (x / 10) ++ [48 + x % 10]) = _
  rw [if_pos h, show x % 10 = x by omega]
theorem dgL_s {x : Int} (h : 10 ≤ x) (h2 : x ≤ 999999999) : dgL x = dgL (x / 10) ++ [48 + x % 10] := by
  show (if x ≤ 9 then [48 + x % 10] else dg 7 (x / 10) ++ [48 + x % 10]) = dg 8 (x / 10) ++ [48 + x % 10]
  rw [if_neg (by omega), dg_up 7 (x / 10) (by omega) (by omega)]
def dgN (x : Int) : Int := ((dgL x).length : Nat)
theorem dgN_1 {x : Int} (h0 : 0 ≤ x) (h : x ≤ 9) : dgN x = 1 := by
  unfold dgN
  rw [dgL_1 h0 h]
  rfl
theorem dgN_s {x : Int} (h : 10 ≤ x) (h2 : x ≤ 999999999) : dgN x = dgN (x / 10) + 1 := by
  unfold dgN
  rw [dgL_s h h2, List.length_append]
  simp
theorem dgN_2 {x : Int} (h : 10 ≤ x) (h2 : x ≤ 99) : dgN x = 2 := by rw [dgN_s h (by omega), dgN_1 (by omega) (by omega)]; rfl
theorem dgN_3 {x : Int} (h : 100 ≤ x) (h2 : x ≤ 999) : dgN x = 3 := by rw [dgN_s (by omega) (by omega), dgN_2 (by omega) (by omega)]; rfl
theorem dgN_4 {x : Int} (h : 1000 ≤ x) (h2 : x ≤ 9999) : dgN x = 4 := by rw [dgN_s (by omega) (by omega), dgN_3 (by omega) (by omega)]; rfl
theorem dgN_5 {x : Int} (h : 10000 ≤ x) (h2 : x ≤ 99999) : dgN x = 5 := by rw [dgN_s (by omega) (by omega), dgN_4 (by omega) (by omega)]; rfl
theorem dgN_6 {x : Int} (h : 100000 ≤ x) (h2 : x ≤ 999999) : dgN x = 6 := by rw [dgN_s (by omega) (by omega), dgN_5 (by omega) (by omega)]; rfl
theorem dgN_7 {x : Int} (h : 1000000 ≤ x) (h2 : x ≤ 9999999) : dgN x = 7 := by rw [dgN_s (by omega) (by omega), dgN_6 (by omega) (by omega)]; rfl
theorem dgN_8 {x : Int} (h : 10000000 ≤ x) (h2 : x ≤ 99999999) : dgN x = 8 := by rw [dgN_s (by omega) (by omega), dgN_7 (by omega) (by omega)]; rfl
theorem dgN_9 {x : Int} (h : 100000000 ≤ x) (h2 : x ≤ 999999999) : dgN x = 9 := by rw [dgN_s (by omega) (by omega), dgN_8 (by omega) (by omega)]; rfl
theorem dgN_in {x : Int} (h0 : 0 ≤ x) (h2 : x ≤ 999999999) : 1 ≤ dgN x ∧ dgN x ≤ 9 := by
  by_cases a1 : x ≤ 9
  · rw [dgN_1 h0 a1]; decide
  by_cases a2 : x ≤ 99
  · rw [dgN_2 (by omega) a2]; decide
  by_cases a3 : x ≤ 999
  · rw [dgN_3 (by omega) a3]; decide
  by_cases a4 : x ≤ 9999
  · rw [dgN_4 (by omega) a4]; decide
  by_cases a5 : x ≤ 99999
  · rw [dgN_5 (by omega) a5]; decide
  by_cases a6 : x ≤ 999999
  · rw [dgN_6 (by omega) a6]; decide
  by_cases a7 : x ≤ 9999999
  · rw [dgN_7 (by omega) a7]; decide
  by_cases a8 : x ≤ 99999999
  · rw [dgN_8 (by omega) a8]; decide
  rw [dgN_9 (by omega) h2]; decide
/-- the places by which the class counts digits -/
def dgP (x i q : Int) : Prop := (i = 1 ∧ q = -10) ∨ (i = 2 ∧ q = -100 ∧ 10 ≤ x) ∨ (i = 3 ∧ q = -1000 ∧ 100 ≤ x) ∨ (i = 4 ∧ q = -10000 ∧ 1000 ≤ x) ∨ (i = 5 ∧ q = -100000 ∧ 10000 ≤ x) ∨ (i = 6 ∧ q = -1000000 ∧ 100000 ≤ x) ∨ (i = 7 ∧ q = -10000000 ∧ 1000000 ≤ x) ∨ (i = 8 ∧ q = -100000000 ∧ 10000000 ≤ x) ∨ (i = 9 ∧ q = -1000000000 ∧ 100000000 ≤ x)
theorem dgP_s {x i q : Int} (h : dgP x i q) (h2 : x ≤ 999999999) (hq : -x ≤ q) : dgP x (i + 1) (10 * q) ∧ i + 1 ≤ 9 := by
  rcases h with h | h | h | h | h | h | h | h | h
  · exact ⟨Or.inr (Or.inl (⟨by omega, by omega, by omega⟩)), by omega⟩
  · exact ⟨Or.inr (Or.inr (Or.inl (⟨by omega, by omega, by omega⟩))), by omega⟩
  · exact ⟨Or.inr (Or.inr (Or.inr (Or.inl (⟨by omega, by omega, by omega⟩)))), by omega⟩
  · exact ⟨Or.inr (Or.inr (Or.inr (Or.inr (Or.inl (⟨by omega, by omega, by omega⟩))))), by omega⟩
  · exact ⟨Or.inr (Or.inr (Or.inr (Or.inr (Or.inr (Or.inl (⟨by omega, by omega, by omega⟩)))))), by omega⟩
  · exact ⟨Or.inr (Or.inr (Or.inr (Or.inr (Or.inr (Or.inr (Or.inl (⟨by omega, by omega, by omega⟩))))))), by omega⟩
  · exact ⟨Or.inr (Or.inr (Or.inr (Or.inr (Or.inr (Or.inr (Or.inr (Or.inl (⟨by omega, by omega, by omega⟩)))))))), by omega⟩
  · exact ⟨Or.inr (Or.inr (Or.inr (Or.inr (Or.inr (Or.inr (Or.inr (Or.inr (⟨by omega, by omega, by omega⟩)))))))), by omega⟩
  · exfalso; omega
theorem dgP_in {x i q : Int} (h : dgP x i q) : 1 ≤ i ∧ i ≤ 9 ∧ -1000000000 ≤ q ∧ q ≤ -10 := by
  rcases h with h | h | h | h | h | h | h | h | h <;> omega
theorem dgP_end {x i q : Int} (h0 : 0 ≤ x) (h2 : x ≤ 999999999) (h : dgP x i q) (hq : q < -x) : i = dgN x := by
  rcases h with ⟨rfl, h⟩ | ⟨rfl, h, g⟩ | ⟨rfl, h, g⟩ | ⟨rfl, h, g⟩ | ⟨rfl, h, g⟩ | ⟨rfl, h, g⟩ | ⟨rfl, h, g⟩ | ⟨rfl, h, g⟩ | ⟨rfl, h, g⟩
  · rw [dgN_1 h0 (by omega)]
  · rw [dgN_2 g (by omega)]
  · rw [dgN_3 g (by omega)]
  · rw [dgN_4 g (by omega)]
  · rw [dgN_5 g (by omega)]
  · rw [dgN_6 g (by omega)]
  · rw [dgN_7 g (by omega)]
  · rw [dgN_8 g (by omega)]
  · rw [dgN_9 g (by omega)]
/-- a row with characters written from a place on -/
def wrL (f : Int → Int) (p : Int) (l : List Int) : Int → Int := fun j => if p ≤ j ∧ j < p + (l.length : Nat) then l.getD (j - p).toNat 0 else f j
theorem wrL_in {f : Int → Int} {p j : Int} {l : List Int} (h : p ≤ j ∧ j < p + (l.length : Nat)) : wrL f p l j = l.getD (j - p).toNat 0 := if_pos h
theorem wrL_out {f : Int → Int} {p j : Int} {l : List Int} (h : ¬ (p ≤ j ∧ j < p + (l.length : Nat))) : wrL f p l j = f j := if_neg h
theorem wrL_nil (f : Int → Int) (p : Int) : wrL f p [] = f := by
  funext j
  exact wrL_out (by show ¬ (p ≤ j ∧ j < p + ((0 : Nat) : Int)); omega)
theorem wrL_app (f : Int → Int) (p : Int) (l : List Int) (d : Int) : wrL f p (l ++ [d]) = zU (wrL f p l) (p + (l.length : Nat)) d := by
  funext j
  have hl : (l ++ [d]).length = l.length + 1 := by rw [List.length_append]; rfl
  by_cases e : j = p + (l.length : Nat)
  · subst e
    rw [zU_same, wrL_in (by rw [hl]; omega), show (p + (l.length : Nat) - p).toNat = l.length by omega, List.getD_eq_getElem?_getD, List.getElem?_append_right (Nat.le_refl _), Nat.sub_self]
    rfl
  · rw [zU_ne e]
    by_cases g : p ≤ j ∧ j < p + (l.length : Nat)
    · rw [wrL_in g, wrL_in (by rw [hl]; omega), List.getD_eq_getElem?_getD, List.getD_eq_getElem?_getD, List.getElem?_append_left (by omega)]
    · rw [wrL_out g, wrL_out (by rw [hl]; omega)]
theorem wrL_cons (f : Int → Int) (p d : Int) (t : List Int) (q : Int) (hq : q = p + 1) : zU (wrL f q t) p d = wrL f p (d :: t) := by
  subst hq
  funext j
  have hl : (d :: t).length = t.length + 1 := rfl
  by_cases e : j = p
  · subst e
    rw [zU_same, wrL_in (by rw [hl]; omega), show (j - j).toNat = 0 by omega]
    rfl
  · rw [zU_ne e]
    by_cases g : p + 1 ≤ j ∧ j < p + 1 + (t.length : Nat)
    · rw [wrL_in g, wrL_in (by rw [hl]; omega), show (j - p).toNat = (j - (p + 1)).toNat + 1 by omega]
      rfl
    · rw [wrL_out g, wrL_out (by rw [hl]; omega)]
/-- what has been written from the end on: t, behind the place at, of what is left of the number, y -/
def gcI (f : Int → Int) (x p : Int) (y at' : Int) (g : Int → Int) : Prop := ∃ t : List Int, dgL x = dgL y ++ t ∧ at' = p + dgN y ∧ g = wrL f at' t
theorem gcI_0 {f : Int → Int} {x p at' : Int} (h : at' = p + dgN x) : gcI f x p x at' f := ⟨[], (List.append_nil _).symm, h, (wrL_nil f at').symm⟩
theorem gcI_s {f : Int → Int} {x p y at' : Int} {g : Int → Int} (h : gcI f x p y at' g) (hy : 100 ≤ y) (hy2 : y ≤ 999999999) : gcI f x p (y / 100) (at' - 1 - 1) (zU (zU g (at' - 1) (48 + y % 100 % 10)) (at' - 1 - 1) (48 + y % 100 / 10)) := by
  obtain ⟨t, h1, h2, h3⟩ := h
  have e1 : dgL y = dgL (y / 10) ++ [48 + y % 10] := dgL_s (by omega) hy2
  have e2 : dgL (y / 10) = dgL (y / 10 / 10) ++ [48 + y / 10 % 10] := dgL_s (by omega) (by omega)
  have e3 : y / 10 / 10 = y / 100 := by omega
  have n1 : dgN y = dgN (y / 10) + 1 := dgN_s (by omega) hy2
  have n2 : dgN (y / 10) = dgN (y / 10 / 10) + 1 := dgN_s (by omega) (by omega)
  refine ⟨(48 + y / 10 % 10) :: (48 + y % 10) :: t, ?_, by rw [← e3]; omega, ?_⟩
  · rw [h1, e1, e2, e3]
    simp
  · rw [h3, wrL_cons _ _ _ _ _ (by omega), wrL_cons _ _ _ _ _ (by omega), show y % 100 % 10 = y % 10 by omega, show y % 100 / 10 = y / 10 % 10 by omega]
theorem gcI_1 {f : Int → Int} {x p y at' : Int} {g : Int → Int} (h : gcI f x p y at' g) (h0 : 0 ≤ y) (hy : y ≤ 9) : at' - 1 = p ∧ zU g (at' - 1) (48 + y % 10) = wrL f p (dgL x) := by
  obtain ⟨t, h1, h2, h3⟩ := h
  have n1 := dgN_1 h0 hy
  have e : at' - 1 = p := by omega
  refine ⟨e, ?_⟩
  rw [h3, h1, dgL_1 h0 hy, e, show y % 10 = y by omega]
  exact wrL_cons _ _ _ _ _ (by omega)
theorem gcI_2 {f : Int → Int} {x p y at' : Int} {g : Int → Int} (h : gcI f x p y at' g) (h0 : 10 ≤ y) (hy : y ≤ 99) : at' - 1 - 1 = p ∧ zU (zU g (at' - 1) (48 + y % 10)) (at' - 1 - 1) (48 + y / 10) = wrL f p (dgL x) := by
  obtain ⟨t, h1, h2, h3⟩ := h
  have n1 := dgN_2 h0 hy
  have e : at' - 1 - 1 = p := by omega
  have e1 : dgL y = dgL (y / 10) ++ [48 + y % 10] := dgL_s h0 (by omega)
  refine ⟨e, ?_⟩
  rw [h3, h1, e1, dgL_1 (x := y / 10) (by omega) (by omega), wrL_cons _ _ _ _ _ (by omega), wrL_cons _ _ _ _ _ (by omega), e]
  rfl
theorem gcI_b {f : Int → Int} {x p y at' r a1 a2 : Int} {g : Int → Int} (h : gcI f x p y at' g) (hy : 100 ≤ y) (hy2 : y ≤ 999999999) (hr : r = y % 100) (h1 : a1 = at' - 1) (h2 : a2 = at' - 1 - 1) : gcI f x p (y / 100) a2 (zU (zU g a1 (48 + r % 10)) a2 (48 + r / 10)) := by
  subst hr
  subst h1
  subst h2
  exact gcI_s h hy hy2
theorem gcI_e1 {f : Int → Int} {x p y at' r a1 : Int} {g : Int → Int} (h : gcI f x p y at' g) (h0 : 0 ≤ y) (hy : y ≤ 9) (hr : r = y) (h1 : a1 = at' - 1) : zU g a1 (48 + r % 10) = wrL f p (dgL x) := by
  subst hr
  subst h1
  exact (gcI_1 h h0 hy).2
theorem gcI_e2 {f : Int → Int} {x p y at' r r2 a1 a2 : Int} {g : Int → Int} (h : gcI f x p y at' g) (h0 : 10 ≤ y) (hy : y ≤ 99) (hr : r = y) (hr2 : r2 = y) (h1 : a1 = at' - 1) (h2 : a2 = at' - 1 - 1) : zU (zU g a1 (48 + r % 10)) a2 (48 + r2 / 10) = wrL f p (dgL x) := by
  subst hr
  subst hr2
  subst h1
  subst h2
  exact (gcI_2 h h0 hy).2
theorem gcI_at {f : Int → Int} {x p y at' : Int} {g : Int → Int} (h : gcI f x p y at' g) : at' = p + dgN y ∧ dgN y ≤ dgN x := by
  obtain ⟨t, h1, h2, h3⟩ := h
  refine ⟨h2, ?_⟩
  unfold dgN
  rw [h1, List.length_append]
  omega
theorem dgN_big {y : Int} (h : 10 ≤ y) (h2 : y ≤ 999999999) : 2 ≤ dgN y := by
  have h9 := dgN_in (x := y / 10) (by omega) (by omega)
  have h8 := dgN_s h h2
  omega
/-! reading: how far a word goes, how many digits stand there, what number they are -/
def mtW (txt : Int → Int) (len : Int) : Int → List Int → Int
  | _, [] => 0
  | p, c :: w => if p < len ∧ txt p = c then mtW txt len (p + 1) w + 1 else 0
def ctD (txt : Int → Int) (len : Int) : Nat → Int → Int
  | 0, _ => 0
  | n + 1, p => if p < len ∧ 48 ≤ txt p ∧ txt p ≤ 57 then ctD txt len n (p + 1) + 1 else 0
def nvD (txt : Int → Int) (p : Int) : Nat → Int
  | 0 => 0
  | n + 1 => nvD txt p n * 10 + (txt (p + n) - 48)
/-- the values of a command: as many as ds has characters, each with at most so many digits -/
def pVals (txt : Int → Int) (len : Int) : List Int → Int → Int × Int × List Int
  | [], p => (1, p, [])
  | d :: ds, p => if p < len ∧ txt p = 32 then
      (if ctD txt len (d - 48).toNat (p + 1) = 0 then (0, p + 1, []) else
        ((pVals txt len ds (p + 1 + ctD txt len (d - 48).toNat (p + 1))).1, (pVals txt len ds (p + 1 + ctD txt len (d - 48).toNat (p + 1))).2.1, nvD txt (p + 1) (ctD txt len (d - 48).toNat (p + 1)).toNat :: (pVals txt len ds (p + 1 + ctD txt len (d - 48).toNat (p + 1))).2.2))
    else (0, p, [])
/-- the word of a command, from the word i on; f: how far a word went so far -/
def pWd (txt : Int → Int) (len p : Int) : Nat → Nat → Int → Int × Int × Int
  | 0, _, f => (0, 0, p + f)
  | n + 1, i, f => if mtW txt len p (sTx.getD i []) = (sLn i : Nat) then (1, (i : Nat), p + mtW txt len p (sTx.getD i [])) else pWd txt len p n (i + 1) (max f (mtW txt len p (sTx.getD i [])))
/-- a command: whether it is one, which, where it ends or fails, its values -/
def pCmd (txt : Int → Int) (len p : Int) : Int × Int × Int × List Int := if (pWd txt len p 8 0 0).1 = 1 then
    ((pVals txt len (sTx.getD (dgI (pWd txt len p 8 0 0).2.1.toNat) []) (pWd txt len p 8 0 0).2.2).1, (pWd txt len p 8 0 0).2.1, (pVals txt len (sTx.getD (dgI (pWd txt len p 8 0 0).2.1.toNat) []) (pWd txt len p 8 0 0).2.2).2.1, (pVals txt len (sTx.getD (dgI (pWd txt len p 8 0 0).2.1.toNat) []) (pWd txt len p 8 0 0).2.2).2.2)
  else (0, 0, (pWd txt len p 8 0 0).2.2, [])
def pNx (txt : Int → Int) (len p : Int) : Int × Int × Int × List Int := if 0 < p then (if p < len ∧ txt p = 59 then pCmd txt len (p + 1) else (0, 0, p, [])) else pCmd txt len p
/-- how many commands from p on, c - 1 ahead of them, or -1; where the reading stands -/
def pCnt (txt : Int → Int) (len : Int) : Nat → Int → Int → Int × Int
  | 0, _, p => (-1, p)
  | n + 1, c, p => if (pNx txt len p).1 = 1 then (if (pNx txt len p).2.2.1 = len then (c, len) else pCnt txt len n (c + 1) (pNx txt len p).2.2.1) else (-1, (pNx txt len p).2.2.1)
theorem mtW_in (txt : Int → Int) (len : Int) : ∀ (w : List Int) (p : Int), p ≤ len → 0 ≤ mtW txt len p w ∧ mtW txt len p w ≤ (w.length : Nat) ∧ p + mtW txt len p w ≤ len
  | [], p, h => by show (0 : Int) ≤ 0 ∧ (0 : Int) ≤ 0 ∧ p + 0 ≤ len; omega
  | c :: w, p, h => by
    show 0 ≤ (if p < len ∧ txt p = c then mtW txt len (p + 1) w + 1 else 0) ∧ (if p < len ∧ txt p = c then mtW txt len (p + 1) w + 1 else 0) ≤ ((c :: w).length : Nat) ∧ p + (if p < len ∧ txt p = c then mtW txt len (p + 1) w + 1 else 0) ≤ len
    by_cases g : p < len ∧ txt p = c
    · rw [if_pos g]
      have := mtW_in txt len w (p + 1) (by omega)
      rw [List.length_cons]
      omega
    · rw [if_neg g]
      omega
theorem ctD_in (txt : Int → Int) (len : Int) : ∀ (n : Nat) (p : Int), p ≤ len → 0 ≤ ctD txt len n p ∧ ctD txt len n p ≤ n ∧ p + ctD txt len n p ≤ len
  | 0, p, h => by show (0 : Int) ≤ 0 ∧ (0 : Int) ≤ 0 ∧ p + 0 ≤ len; omega
  | n + 1, p, h => by
    show 0 ≤ (if p < len ∧ 48 ≤ txt p ∧ txt p ≤ 57 then ctD txt len n (p + 1) + 1 else 0) ∧ (if p < len ∧ 48 ≤ txt p ∧ txt p ≤ 57 then ctD txt len n (p + 1) + 1 else 0) ≤ ((n + 1 : Nat) : Int) ∧ p + (if p < len ∧ 48 ≤ txt p ∧ txt p ≤ 57 then ctD txt len n (p + 1) + 1 else 0) ≤ len
    by_cases g : p < len ∧ 48 ≤ txt p ∧ txt p ≤ 57
    · rw [if_pos g]
      have := ctD_in txt len n (p + 1) (by omega)
      omega
    · rw [if_neg g]
      omega
/-- a word's matching, from where it stands -/
def mtI (txt : Int → Int) (len p : Int) (i : Nat) (k : Int) : Prop := 0 ≤ k ∧ k ≤ (sLn i : Nat) ∧ mtW txt len p (sTx.getD i []) = k + mtW txt len (p + k) ((sTx.getD i []).drop k.toNat)
theorem mtI_0 {txt : Int → Int} {len p : Int} {i : Nat} : mtI txt len p i 0 := ⟨Int.le_refl _, by omega, by
  rw [Int.zero_add, Int.add_zero]
  rfl⟩
theorem drop_at {w : List Int} {k : Nat} (h : k < w.length) : w.drop k = w.getD k 0 :: w.drop (k + 1) := by
  rw [List.getD_eq_getElem?_getD, List.getElem?_eq_getElem h]
  exact List.drop_eq_getElem_cons h
theorem mtI_s {txt : Int → Int} {len p k : Int} {i : Nat} (h : mtI txt len p i k) (hk : k < (sLn i : Nat)) (h1 : p + k < len) (h2 : txt (p + k) = sCh i k) : mtI txt len p i (k + 1) := by
  obtain ⟨k0, k1, e⟩ := h
  refine ⟨by omega, by omega, ?_⟩
  rw [e, drop_at (by unfold sLn at hk; omega)]
  show k + (if p + k < len ∧ txt (p + k) = (sTx.getD i []).getD k.toNat 0 then mtW txt len (p + k + 1) _ + 1 else 0) = _
  rw [if_pos ⟨h1, h2⟩, show (k + 1).toNat = k.toNat + 1 by omega, show p + (k + 1) = p + k + 1 by omega]
  omega
theorem mtI_end {txt : Int → Int} {len p k : Int} {i : Nat} (h : mtI txt len p i k) (hk : k = (sLn i : Nat) ∨ ¬ (p + k < len ∧ txt (p + k) = sCh i k)) : k = mtW txt len p (sTx.getD i []) := by
  obtain ⟨k0, k1, e⟩ := h
  rw [e]
  by_cases g : k = (sLn i : Nat)
  · rw [List.drop_eq_nil_of_le (by unfold sLn at g; omega)]
    show k = k + 0
    omega
  · have n : ¬ (p + k < len ∧ txt (p + k) = sCh i k) := hk.elim (fun z => absurd z g) id
    rw [drop_at (by unfold sLn at g k1; omega)]
    show k = k + (if p + k < len ∧ txt (p + k) = sCh i k then mtW txt len (p + k + 1) _ + 1 else 0)
    rw [if_neg n, Int.add_zero]
/-- the words up to i read: none whole -/
def wdI (txt : Int → Int) (len p : Int) (i f : Int) : Prop := pWd txt len p 8 0 0 = pWd txt len p (8 - i.toNat) i.toNat f
theorem wdI_0 {txt : Int → Int} {len p : Int} : wdI txt len p 0 0 := rfl
theorem wdI_s {txt : Int → Int} {len p i f : Int} (h : wdI txt len p i f) (i0 : 0 ≤ i) (i1 : i < 8) (hn : mtW txt len p (sTx.getD i.toNat []) ≠ (sLn i.toNat : Nat)) : wdI txt len p (i + 1) (max f (mtW txt len p (sTx.getD i.toNat []))) := by
  unfold wdI at h ⊢
  rw [h, show 8 - i.toNat = (8 - (i + 1).toNat) + 1 by omega, show (i + 1).toNat = i.toNat + 1 by omega]
  show (if mtW txt len p (sTx.getD i.toNat []) = (sLn i.toNat : Nat) then _ else _) = _
  rw [if_neg hn]
theorem wdI_yes {txt : Int → Int} {len p i f : Int} (h : wdI txt len p i f) (i0 : 0 ≤ i) (i1 : i < 8) (hy : mtW txt len p (sTx.getD i.toNat []) = (sLn i.toNat : Nat)) : pWd txt len p 8 0 0 = (1, i, p + mtW txt len p (sTx.getD i.toNat [])) := by
  unfold wdI at h
  rw [h, show 8 - i.toNat = (8 - (i + 1).toNat) + 1 by omega]
  show (if mtW txt len p (sTx.getD i.toNat []) = (sLn i.toNat : Nat) then _ else _) = _
  rw [if_pos hy, show ((i.toNat : Nat) : Int) = i by omega]
theorem wdI_no {txt : Int → Int} {len p i f : Int} (h : wdI txt len p i f) (i1 : i = 8) : pWd txt len p 8 0 0 = (0, 0, p + f) := by
  subst i1
  exact h
theorem pWd_in (txt : Int → Int) (len p : Int) (hp : p ≤ len) : ∀ (n i : Nat) (f : Int), 0 ≤ f → p + f ≤ len → p ≤ (pWd txt len p n i f).2.2 ∧ (pWd txt len p n i f).2.2 ≤ len ∧ ((pWd txt len p n i f).1 = 0 ∨ (pWd txt len p n i f).1 = 1) ∧ 0 ≤ (pWd txt len p n i f).2.1 ∧ (pWd txt len p n i f).2.1 ≤ i + n
  | 0, i, f, h0, h1 => by
    show p ≤ p + f ∧ p + f ≤ len ∧ ((0 : Int) = 0 ∨ (0 : Int) = 1) ∧ (0 : Int) ≤ 0 ∧ (0 : Int) ≤ (i : Int) + (0 : Nat)
    omega
  | n + 1, i, f, h0, h1 => by
    have hm := mtW_in txt len (sTx.getD i []) p hp
    unfold pWd
    by_cases g : mtW txt len p (sTx.getD i []) = (sLn i : Nat)
    · rw [if_pos g]
      show p ≤ p + _ ∧ p + _ ≤ len ∧ ((1 : Int) = 0 ∨ (1 : Int) = 1) ∧ (0 : Int) ≤ (i : Nat) ∧ ((i : Nat) : Int) ≤ (i : Int) + ((n + 1 : Nat) : Int)
      omega
    · rw [if_neg g]
      have := pWd_in txt len p hp n (i + 1) (max f (mtW txt len p (sTx.getD i []))) (by omega) (by omega)
      omega
/-- digits read so far -/
def ctI (txt : Int → Int) (len p : Int) (m : Int) (k v : Int) : Prop := 0 ≤ k ∧ k ≤ m ∧ ctD txt len m.toNat p = k + ctD txt len (m - k).toNat (p + k) ∧ v = nvD txt p k.toNat
theorem ctI_0 {txt : Int → Int} {len p m : Int} (hm : 0 ≤ m) : ctI txt len p m 0 0 := ⟨Int.le_refl _, hm, by rw [Int.sub_zero, Int.add_zero, Int.zero_add], rfl⟩
theorem ctI_s {txt : Int → Int} {len p m k v : Int} (h : ctI txt len p m k v) (hk : k < m) (h1 : p + k < len ∧ 48 ≤ txt (p + k) ∧ txt (p + k) ≤ 57) : ctI txt len p m (k + 1) (v * 10 + (txt (p + k) - 48)) := by
  obtain ⟨k0, k1, e, ev⟩ := h
  refine ⟨by omega, by omega, ?_, ?_⟩
  · rw [e, show (m - k).toNat = (m - (k + 1)).toNat + 1 by omega]
    show k + (if p + k < len ∧ 48 ≤ txt (p + k) ∧ txt (p + k) ≤ 57 then ctD txt len _ (p + k + 1) + 1 else 0) = _
    rw [if_pos h1, show p + (k + 1) = p + k + 1 by omega]
    omega
  · rw [show (k + 1).toNat = k.toNat + 1 by omega]
    show _ = nvD txt p k.toNat * 10 + (txt (p + (k.toNat : Nat)) - 48)
    rw [← ev, Int.toNat_of_nonneg k0]
theorem ctI_end {txt : Int → Int} {len p m k v : Int} (h : ctI txt len p m k v) (hk : k = m ∨ ¬ (p + k < len ∧ 48 ≤ txt (p + k) ∧ txt (p + k) ≤ 57)) : k = ctD txt len m.toNat p ∧ v = nvD txt p (ctD txt len m.toNat p).toNat := by
  obtain ⟨k0, k1, e, ev⟩ := h
  have h2 : k = ctD txt len m.toNat p := by
    rw [e]
    by_cases g : k = m
    · rw [g, Int.sub_self]
      show m = m + 0
      omega
    · rw [show (m - k).toNat = (m - k - 1).toNat + 1 by omega]
      show k = k + (if p + k < len ∧ 48 ≤ txt (p + k) ∧ txt (p + k) ≤ 57 then ctD txt len _ (p + k + 1) + 1 else 0)
      rw [if_neg (hk.elim (fun z => absurd z g) id), Int.add_zero]
  exact ⟨h2, by rw [← h2]; exact ev⟩
theorem nvD_in {txt : Int → Int} {len : Int} : ∀ {n : Nat} {p : Int} {m : Nat}, ctD txt len m p ≥ n → 0 ≤ nvD txt p n ∧ nvD txt p n < 10 ^ n
  | 0, p, m, h => by show (0 : Int) ≤ 0 ∧ (0 : Int) < 1; omega
  | n + 1, p, m, h => by
    have q := nvD_in (txt := txt) (len := len) (n := n) (p := p) (m := m) (by omega)
    have d : ∀ (m : Nat) (p : Int) (j : Nat), (j : Int) < ctD txt len m p → 48 ≤ txt (p + j) ∧ txt (p + j) ≤ 57 := by
      intro m
      induction m with
      | zero => intro p j hj; exact absurd hj (by show ¬ ((j : Nat) : Int) < 0; omega)
      | succ m ih =>
        intro p j hj
        have e : ctD txt len (m + 1) p = if p < len ∧ 48 ≤ txt p ∧ txt p ≤ 57 then ctD txt len m (p + 1) + 1 else 0 := rfl
        rw [e] at hj
        by_cases g : p < len ∧ 48 ≤ txt p ∧ txt p ≤ 57
        · rw [if_pos g] at hj
          cases j with
          | zero => rw [show p + ((0 : Nat) : Int) = p by omega]; omega
          | succ j =>
            have := ih (p + 1) j (by omega)
            rw [show p + ((j + 1 : Nat) : Int) = p + 1 + j by omega]
            exact this
        · rw [if_neg g] at hj
          omega
    have d2 := d m p n (by omega)
    show 0 ≤ nvD txt p n * 10 + (txt (p + n) - 48) ∧ nvD txt p n * 10 + (txt (p + n) - 48) < 10 ^ (n + 1)
    rw [Int.pow_succ]
    omega
theorem dgI_in : ∀ c : Nat, dgI c < 24
  | 0 => by decide
  | 1 => by decide
  | 2 => by decide
  | 3 => by decide
  | 4 => by decide
  | 5 => by decide
  | 6 => by decide
  | _ + 7 => by show 8 < 24; decide
theorem dgI_4 : ∀ c : Nat, sLn (dgI c) ≤ 4
  | 0 => by decide
  | 1 => by decide
  | 2 => by decide
  | 3 => by decide
  | 4 => by decide
  | 5 => by decide
  | 6 => by decide
  | _ + 7 => by show sLn 8 ≤ 4; decide
theorem dgI_ch (c : Nat) (i : Int) (h0 : 0 ≤ i) (h : i < ((sLn (dgI c) : Nat) : Int)) : 49 ≤ sCh (dgI c) i ∧ sCh (dgI c) i ≤ 52 := by
  have hall : ∀ s, s < 24 → 8 ≤ s → s < 14 → ∀ k, k < sLn s → 49 ≤ (sTx.getD s []).getD k 0 ∧ (sTx.getD s []).getD k 0 ≤ 52 := by decide
  have h8 : 8 ≤ dgI c ∧ dgI c < 14 := by
    rcases c with _ | _ | _ | _ | _ | _ | _ | c
    · decide
    · decide
    · decide
    · decide
    · decide
    · decide
    · decide
    · show 8 ≤ 8 ∧ 8 < 14
      decide
  exact hall (dgI c) (by omega) h8.1 h8.2 i.toNat (by omega)
/-- the values of a command read so far -/
def vlI (txt : Int → Int) (len : Int) (ds : List Int) (p i p9 : Int) (v9 : Int → Int) : Prop := ∃ pre : List Int, (pre.length : Int) = i ∧ (∀ j, 0 ≤ j → j < i → v9 j = pre.getD j.toNat 0) ∧ (pVals txt len ds p).1 = (pVals txt len (ds.drop i.toNat) p9).1 ∧ (pVals txt len ds p).2.1 = (pVals txt len (ds.drop i.toNat) p9).2.1 ∧ (pVals txt len ds p).2.2 = pre ++ (pVals txt len (ds.drop i.toNat) p9).2.2
theorem vlI_0 {txt : Int → Int} {len : Int} {ds : List Int} {p : Int} {v : Int → Int} : vlI txt len ds p 0 p v := ⟨[], rfl, fun j h0 h1 => absurd h1 (by omega), rfl, rfl, rfl⟩
theorem pVals_c (txt : Int → Int) (len d : Int) (ds : List Int) (p : Int) : pVals txt len (d :: ds) p = if p < len ∧ txt p = 32 then (if ctD txt len (d - 48).toNat (p + 1) = 0 then (0, p + 1, []) else ((pVals txt len ds (p + 1 + ctD txt len (d - 48).toNat (p + 1))).1, (pVals txt len ds (p + 1 + ctD txt len (d - 48).toNat (p + 1))).2.1, nvD txt (p + 1) (ctD txt len (d - 48).toNat (p + 1)).toNat :: (pVals txt len ds (p + 1 + ctD txt len (d - 48).toNat (p + 1))).2.2)) else (0, p, []) := rfl
theorem snoc_getD {pre : List Int} {a : Int} {n : Nat} (h : pre.length = n) : (pre ++ [a]).getD n 0 = a := by
  subst h
  induction pre with
  | nil => rfl
  | cons x xs ih => exact ih
theorem vlI_s {txt : Int → Int} {len : Int} {ds : List Int} {p i p9 px m : Int} {v9 : Int → Int} (h : vlI txt len ds p i p9 v9) (i0 : 0 ≤ i) (i1 : i < (ds.length : Nat)) (hsp : p9 < len ∧ txt p9 = 32) (hpx : px = p9 + 1) (hm : m = ds.getD i.toNat 0 - 48) (hc : ctD txt len m.toNat px ≠ 0) : vlI txt len ds p (i + 1) (px + ctD txt len m.toNat px) (zU v9 i (nvD txt px (ctD txt len m.toNat px).toNat)) := by
  obtain ⟨pre, h1, h2, h3, h4, h5⟩ := h
  subst hm
  subst hpx
  have e : ds.drop i.toNat = ds.getD i.toNat 0 :: ds.drop (i + 1).toNat := by
    rw [drop_at (by omega), show (i + 1).toNat = i.toNat + 1 by omega]
  rw [e, pVals_c, if_pos hsp, if_neg hc] at h3 h4 h5
  refine ⟨pre ++ [nvD txt (p9 + 1) (ctD txt len (ds.getD i.toNat 0 - 48).toNat (p9 + 1)).toNat], ?_, fun j j0 j1 => ?_, h3, h4, ?_⟩
  · rw [List.length_append]
    show ((pre.length + 1 : Nat) : Int) = i + 1
    omega
  · by_cases g : j = i
    · subst g
      rw [zU_same]
      exact (snoc_getD (by omega)).symm
    · rw [zU_ne g, h2 j j0 (by omega), List.getD_eq_getElem?_getD, List.getD_eq_getElem?_getD, List.getElem?_append_left (by omega)]
  · rw [h5, List.append_assoc]
    rfl
theorem vlI_no1 {txt : Int → Int} {len : Int} {ds : List Int} {p i p9 px : Int} {v9 v : Int → Int} (h : vlI txt len ds p i p9 v9) (i0 : 0 ≤ i) (i1 : i < (ds.length : Nat)) (hsp : ¬ (p9 < len ∧ txt p9 = 32)) (hpx : px = p9) : (0 : Int) = (pVals txt len ds p).1 ∧ px = (pVals txt len ds p).2.1 ∧ ((0 : Int) = 1 → ∀ j : Int, 0 ≤ j → j < ((ds.length : Nat) : Int) → v j = (pVals txt len ds p).2.2.getD j.toNat 0) := by
  obtain ⟨pre, h1, h2, h3, h4, h5⟩ := h
  have e : ds.drop i.toNat = ds.getD i.toNat 0 :: ds.drop (i + 1).toNat := by
    rw [drop_at (by omega), show (i + 1).toNat = i.toNat + 1 by omega]
  rw [e, pVals_c, if_neg hsp] at h3 h4
  exact ⟨h3.symm, by rw [h4]; exact hpx, fun z => absurd z (by decide)⟩
theorem vlI_no2 {txt : Int → Int} {len : Int} {ds : List Int} {p i p9 px m pz : Int} {v9 v : Int → Int} (h : vlI txt len ds p i p9 v9) (i0 : 0 ≤ i) (i1 : i < (ds.length : Nat)) (hsp : p9 < len ∧ txt p9 = 32) (hpx : px = p9 + 1) (hm : m = ds.getD i.toNat 0 - 48) (hc : ctD txt len m.toNat px = 0 ∧ pz = px + ctD txt len m.toNat px) : (0 : Int) = (pVals txt len ds p).1 ∧ pz = (pVals txt len ds p).2.1 ∧ ((0 : Int) = 1 → ∀ j : Int, 0 ≤ j → j < ((ds.length : Nat) : Int) → v j = (pVals txt len ds p).2.2.getD j.toNat 0) := by
  obtain ⟨pre, h1, h2, h3, h4, h5⟩ := h
  subst hm
  subst hpx
  have e : ds.drop i.toNat = ds.getD i.toNat 0 :: ds.drop (i + 1).toNat := by
    rw [drop_at (by omega), show (i + 1).toNat = i.toNat + 1 by omega]
  rw [e, pVals_c, if_pos hsp, if_pos hc.1] at h3 h4
  exact ⟨h3.symm, by rw [h4, hc.2, hc.1]; exact Int.add_zero _, fun z => absurd z (by decide)⟩
theorem vlI_end {txt : Int → Int} {len : Int} {ds : List Int} {p i p9 : Int} {v9 : Int → Int} (h : vlI txt len ds p i p9 v9) (i1 : i = (ds.length : Nat)) : (1 : Int) = (pVals txt len ds p).1 ∧ p9 = (pVals txt len ds p).2.1 ∧ ((1 : Int) = 1 → ∀ j : Int, 0 ≤ j → j < ((ds.length : Nat) : Int) → v9 j = (pVals txt len ds p).2.2.getD j.toNat 0) := by
  obtain ⟨pre, h1, h2, h3, h4, h5⟩ := h
  have e : ds.drop i.toNat = [] := List.drop_eq_nil_of_le (by omega)
  rw [e] at h3 h4 h5
  refine ⟨h3.symm, h4.symm, fun _ j j0 j1 => ?_⟩
  rw [h5, h2 j j0 (by omega)]
  show _ = (pre ++ []).getD j.toNat 0
  rw [List.append_nil]
/-- what a reading of the next command leaves -/
def nxP (txt : Int → Int) (len p z cmd p' : Int) (v : Int → Int) : Prop := z = (pNx txt len p).1 ∧ p' = (pNx txt len p).2.2.1 ∧ (z = 1 → cmd = (pNx txt len p).2.1 ∧ ∀ j : Int, 0 ≤ j → j < ((sLn (dgI (Int.toNat cmd)) : Nat) : Int) → v j = (pNx txt len p).2.2.2.getD j.toNat 0)
theorem pCmd_1 {txt : Int → Int} {len p : Int} (h : (pWd txt len p 8 0 0).1 = 1) : pCmd txt len p = ((pVals txt len (sTx.getD (dgI (pWd txt len p 8 0 0).2.1.toNat) []) (pWd txt len p 8 0 0).2.2).1, (pWd txt len p 8 0 0).2.1, (pVals txt len (sTx.getD (dgI (pWd txt len p 8 0 0).2.1.toNat) []) (pWd txt len p 8 0 0).2.2).2.1, (pVals txt len (sTx.getD (dgI (pWd txt len p 8 0 0).2.1.toNat) []) (pWd txt len p 8 0 0).2.2).2.2) := if_pos h
theorem pCmd_0 {txt : Int → Int} {len p : Int} (h : ¬ (pWd txt len p 8 0 0).1 = 1) : pCmd txt len p = (0, 0, (pWd txt len p 8 0 0).2.2, []) := if_neg h
theorem pNx_0 {txt : Int → Int} {len p : Int} (h : p ≤ 0) : pNx txt len p = pCmd txt len p := if_neg (by omega)
theorem pNx_1 {txt : Int → Int} {len p : Int} (h : 0 < p) (h1 : p < len ∧ txt p = 59) : pNx txt len p = pCmd txt len (p + 1) := by
  unfold pNx
  rw [if_pos h, if_pos h1]
theorem nxP_sep {txt : Int → Int} {len p p' cmd : Int} {v : Int → Int} (h : 0 < p) (h1 : ¬ (p < len ∧ txt p = 59) ∧ p' = p) : nxP txt len p 0 cmd p' v := by
  have e : pNx txt len p = (0, 0, p, []) := by
    unfold pNx
    rw [if_pos h, if_neg h1.1]
  unfold nxP
  rw [e]
  exact ⟨rfl, h1.2, fun z => absurd z (by decide)⟩
theorem nxP_c {txt : Int → Int} {len p q z zw cmd pw p' : Int} {v : Int → Int} (he : pNx txt len p = pCmd txt len q) (hw : zw = (pWd txt len q 8 0 0).1 ∧ pw = (pWd txt len q 8 0 0).2.2 ∧ (zw = 1 → cmd = (pWd txt len q 8 0 0).2.1)) (h1 : zw = 1) (hv : z = (pVals txt len (sTx.getD (dgI (Int.toNat cmd)) []) pw).1 ∧ p' = (pVals txt len (sTx.getD (dgI (Int.toNat cmd)) []) pw).2.1 ∧ (z = 1 → ∀ j : Int, 0 ≤ j → j < ((sLn (dgI (Int.toNat cmd)) : Nat) : Int) → v j = (pVals txt len (sTx.getD (dgI (Int.toNat cmd)) []) pw).2.2.getD j.toNat 0)) : nxP txt len p z cmd p' v := by
  obtain ⟨a, b, c⟩ := hw
  have c1 := c h1
  subst c1
  subst b
  unfold nxP
  rw [he, pCmd_1 (by omega)]
  exact ⟨hv.1, hv.2.1, fun zz => ⟨rfl, hv.2.2 zz⟩⟩
theorem nxP_0 {txt : Int → Int} {len p z zw cmd pw p' zr : Int} {v : Int → Int} (hp : p ≤ 0) (hw : zw = (pWd txt len p 8 0 0).1 ∧ pw = (pWd txt len p 8 0 0).2.2 ∧ (zw = 1 → cmd = (pWd txt len p 8 0 0).2.1)) (hv : z = (pVals txt len (sTx.getD (dgI (Int.toNat cmd)) []) pw).1 ∧ p' = (pVals txt len (sTx.getD (dgI (Int.toNat cmd)) []) pw).2.1 ∧ (z = 1 → ∀ j : Int, 0 ≤ j → j < ((sLn (dgI (Int.toNat cmd)) : Nat) : Int) → v j = (pVals txt len (sTx.getD (dgI (Int.toNat cmd)) []) pw).2.2.getD j.toNat 0)) (h1 : zw = 1) (hz : zr = z) : nxP txt len p zr cmd p' v := by
  subst hz
  exact nxP_c (pNx_0 hp) hw h1 hv
theorem nxP_1 {txt : Int → Int} {len p q z zw cmd pw p' zr : Int} {v : Int → Int} (hp : 0 < p) (hs : (p < len ∧ txt p = 59) ∧ q = p + 1) (hw : zw = (pWd txt len q 8 0 0).1 ∧ pw = (pWd txt len q 8 0 0).2.2 ∧ (zw = 1 → cmd = (pWd txt len q 8 0 0).2.1)) (hv : z = (pVals txt len (sTx.getD (dgI (Int.toNat cmd)) []) pw).1 ∧ p' = (pVals txt len (sTx.getD (dgI (Int.toNat cmd)) []) pw).2.1 ∧ (z = 1 → ∀ j : Int, 0 ≤ j → j < ((sLn (dgI (Int.toNat cmd)) : Nat) : Int) → v j = (pVals txt len (sTx.getD (dgI (Int.toNat cmd)) []) pw).2.2.getD j.toNat 0)) (h1 : zw = 1) (hz : zr = z) : nxP txt len p zr cmd p' v := by
  subst hz
  obtain ⟨hs1, rfl⟩ := hs
  exact nxP_c (pNx_1 hp hs1) hw h1 hv
theorem nxP_w0 {txt : Int → Int} {len p zw cmd pw : Int} {v : Int → Int} (hp : p ≤ 0) (hw : zw = (pWd txt len p 8 0 0).1 ∧ pw = (pWd txt len p 8 0 0).2.2 ∧ (zw = 1 → cmd = (pWd txt len p 8 0 0).2.1)) (h1 : zw = 0) : nxP txt len p 0 cmd pw v := by
  unfold nxP
  rw [pNx_0 hp, pCmd_0 (by omega)]
  exact ⟨rfl, hw.2.1, fun z => absurd z (by decide)⟩
theorem nxP_w1 {txt : Int → Int} {len p q zw cmd pw : Int} {v : Int → Int} (hp : 0 < p) (hs : (p < len ∧ txt p = 59) ∧ q = p + 1) (hw : zw = (pWd txt len q 8 0 0).1 ∧ pw = (pWd txt len q 8 0 0).2.2 ∧ (zw = 1 → cmd = (pWd txt len q 8 0 0).2.1)) (h1 : zw = 0) : nxP txt len p 0 cmd pw v := by
  obtain ⟨hs1, rfl⟩ := hs
  unfold nxP
  rw [pNx_1 hp hs1, pCmd_0 (by omega)]
  exact ⟨rfl, hw.2.1, fun z => absurd z (by decide)⟩
theorem cnt_s {txt : Int → Int} {len c p z cmd p' : Int} {v : Int → Int} (h : nxP txt len p z cmd p' v) (hz : z = 1) (hc : c ≤ 60) (hp : p' ≠ len) : pCnt txt len (61 - c).toNat c p = pCnt txt len (61 - (c + 1)).toNat (c + 1) p' := by
  obtain ⟨a, b, -⟩ := h
  rw [show (61 - c).toNat = (61 - (c + 1)).toNat + 1 by omega]
  show (if (pNx txt len p).1 = 1 then (if (pNx txt len p).2.2.1 = len then (c, len) else pCnt txt len _ (c + 1) (pNx txt len p).2.2.1) else (-1, (pNx txt len p).2.2.1)) = _
  rw [if_pos (by omega), if_neg (by omega), b]
theorem cnt_yes {txt : Int → Int} {len c p z cmd p' : Int} {v : Int → Int} (h : nxP txt len p z cmd p' v) (hz : z = 1) (hc : c ≤ 60) (hp : p' = len) : c = (pCnt txt len (61 - c).toNat c p).1 ∧ p' = (pCnt txt len (61 - c).toNat c p).2 := by
  obtain ⟨a, b, -⟩ := h
  rw [show (61 - c).toNat = (61 - (c + 1)).toNat + 1 by omega]
  show c = (if (pNx txt len p).1 = 1 then (if (pNx txt len p).2.2.1 = len then (c, len) else pCnt txt len _ (c + 1) (pNx txt len p).2.2.1) else (-1, (pNx txt len p).2.2.1)).1 ∧ p' = (if (pNx txt len p).1 = 1 then (if (pNx txt len p).2.2.1 = len then (c, len) else pCnt txt len _ (c + 1) (pNx txt len p).2.2.1) else (-1, (pNx txt len p).2.2.1)).2
  rw [if_pos (by omega), if_pos (by omega)]
  exact ⟨rfl, hp⟩
theorem cnt_no {txt : Int → Int} {len c p z cmd p' : Int} {v : Int → Int} (h : nxP txt len p z cmd p' v) (hz : z ≠ 1) (hc : c ≤ 60) : (-1 : Int) = (pCnt txt len (61 - c).toNat c p).1 ∧ p' = (pCnt txt len (61 - c).toNat c p).2 := by
  obtain ⟨a, b, -⟩ := h
  rw [show (61 - c).toNat = (61 - (c + 1)).toNat + 1 by omega]
  show (-1 : Int) = (if (pNx txt len p).1 = 1 then (if (pNx txt len p).2.2.1 = len then (c, len) else pCnt txt len _ (c + 1) (pNx txt len p).2.2.1) else (-1, (pNx txt len p).2.2.1)).1 ∧ p' = (if (pNx txt len p).1 = 1 then (if (pNx txt len p).2.2.1 = len then (c, len) else pCnt txt len _ (c + 1) (pNx txt len p).2.2.1) else (-1, (pNx txt len p).2.2.1)).2
  rw [if_neg (by omega)]
  exact ⟨rfl, b⟩
/-! lines, piece by piece -/
def WLp (f : Int → Int) (l : List Int) (F : Int → Int) (q : Int) : Prop := F = wrL f 0 l ∧ q = (l.length : Nat)
theorem WL_0 {f : Int → Int} : WLp f [] f 0 := ⟨(wrL_nil f 0).symm, rfl⟩
theorem WL_chr {f F : Int → Int} {l : List Int} {q d : Int} (h : WLp f l F q) : WLp f (l ++ [d]) (zU F q d) (q + 1) := by
  obtain ⟨rfl, rfl⟩ := h
  refine ⟨by rw [wrL_app, Int.zero_add], ?_⟩
  rw [List.length_append]
  rfl
theorem wrL_cat (f : Int → Int) (p : Int) (l m : List Int) : wrL (wrL f p l) (p + (l.length : Nat)) m = wrL f p (l ++ m) := by
  funext j
  have hl : (l ++ m).length = l.length + m.length := List.length_append
  by_cases a : p + (l.length : Nat) ≤ j ∧ j < p + (l.length : Nat) + (m.length : Nat)
  · rw [wrL_in a, wrL_in (by rw [hl]; omega), List.getD_eq_getElem?_getD, List.getD_eq_getElem?_getD, List.getElem?_append_right (by omega), show (j - p).toNat - l.length = (j - (p + (l.length : Nat))).toNat by omega]
  · rw [wrL_out a]
    by_cases b : p ≤ j ∧ j < p + (l.length : Nat)
    · rw [wrL_in b, wrL_in (by rw [hl]; omega), List.getD_eq_getElem?_getD, List.getD_eq_getElem?_getD, List.getElem?_append_left (by omega)]
    · rw [wrL_out b, wrL_out (by rw [hl]; omega)]
theorem WL_num {f F : Int → Int} {l : List Int} {q x : Int} (h : WLp f l F q) : WLp f (l ++ dgL x) (wrL F q (dgL x)) (q + dgN x) := by
  obtain ⟨rfl, rfl⟩ := h
  refine ⟨?_, ?_⟩
  · have e := wrL_cat f 0 l (dgL x)
    rw [Int.zero_add] at e
    exact e
  · rw [List.length_append]
    rfl
theorem WL_len {f F : Int → Int} {l : List Int} {q : Int} (h : WLp f l F q) : q = (l.length : Nat) := h.2
theorem dgN_le2 {x : Int} (h0 : 0 ≤ x) (h : x ≤ 99) : 1 ≤ dgN x ∧ dgN x ≤ 2 := by
  by_cases a : x ≤ 9
  · rw [dgN_1 h0 a]; decide
  · rw [dgN_2 (by omega) h]; decide
def legLn (a b w r rng : Int) : List Int := if r ≤ rng then ((((((([] ++ dgL a) ++ [45]) ++ dgL b) ++ [58]) ++ dgL w) ++ [47]) ++ dgL r) ++ [42] else (((((([] ++ dgL a) ++ [45]) ++ dgL b) ++ [58]) ++ dgL w) ++ [47]) ++ dgL r
def subLn (a b m z : Int) : List Int := if z = -1 then ((((([] ++ dgL a) ++ [62]) ++ dgL b) ++ [58]) ++ dgL m) ++ [45] else (((((([] ++ dgL a) ++ [62]) ++ dgL b) ++ [58]) ++ dgL m) ++ [110]) ++ dgL z
