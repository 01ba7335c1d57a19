/-! ===== digits of a number; a text's commands ===== -/
/-- the digits of a number, as characters; n: one less than how many there may be -/
def dg : Nat → Int → List Int
  | 0, x => [48 + x % 10]
  | n + 1, x => if x ≤ 9 then [48 + x % 10] else dg n (x / 10) ++ [48 + x % 10]
def dgL (x : Int) : List Int := dg 8 x
theorem dg_up : ∀ (n : Nat) (x : Int), 0 ≤ x → x < 10 ^ (n + 1) → dg (n + 1) x = dg n x
  | 0, x, h0, h => by
    show (if x ≤ 9 then [48 + x % 10] else dg 0 (x / 10) ++ [48 + x % 10]) = [48 + x % 10]
    rw [if_pos (by omega)]
  | n + 1, x, h0, h => by
    show (if x ≤ 9 then [48 + x % 10] else dg (n + 1) (x / 10) ++ [48 + x % 10]) = (if x ≤ 9 then [48 + x % 10] else dg n (x / 10) ++ [48 + x % 10])
    have e : (10 : Int) ^ (n + 1 + 1) = 10 ^ (n + 1) * 10 := Int.pow_succ 10 (n + 1)
    rw [e] at h
    rw [dg_up n (x / 10) (by omega) (by omega)]
theorem dgL_1 {x : Int} (_h0 : 0 ≤ x) (h : x ≤ 9) : dgL x = [48 + x] := by
  show (if x ≤ 9 then [48 + x % 10] else dg 7 (x / 10) ++ [48 + x % 10]) = _
  rw [if_pos h, show x % 10 = x by omega]
theorem dgL_s {x : Int} (h : 10 ≤ x) (h2 : x ≤ 999999999) : dgL x = dgL (x / 10) ++ [48 + x % 10] := by
  show (if x ≤ 9 then [48 + x % 10] else dg 7 (x / 10) ++ [48 + x % 10]) = dg 8 (x / 10) ++ [48 + x % 10]
  rw [if_neg (by omega), dg_up 7 (x / 10) (by omega) (by omega)]
def dgN (x : Int) : Int := ((dgL x).length : Nat)
theorem dgN_1 {x : Int} (h0 : 0 ≤ x) (h : x ≤ 9) : dgN x = 1 := by
  unfold dgN
  rw [dgL_1 h0 h]
  rfl
theorem dgN_s {x : Int} (h : 10 ≤ x) (h2 : x ≤ 999999999) : dgN x = dgN (x / 10) + 1 := by
  unfold dgN
  rw [dgL_s h h2, List.length_append]
  simp
theorem dgN_2 {x : Int} (h : 10 ≤ x) (h2 : x ≤ 99) : dgN x = 2 := by rw [dgN_s h (by omega), dgN_1 (by omega) (by omega)]; rfl
theorem dgN_3 {x : Int} (h : 100 ≤ x) (h2 : x ≤ 999) : dgN x = 3 := by rw [dgN_s (by omega) (by omega), dgN_2 (by omega) (by omega)]; rfl
theorem dgN_4 {x : Int} (h : 1000 ≤ x) (h2 : x ≤ 9999) : dgN x = 4 := by rw [dgN_s (by omega) (by omega), dgN_3 (by omega) (by omega)]; rfl
theorem dgN_5 {x : Int} (h : 10000 ≤ x) (h2 : x ≤ 99999) : dgN x = 5 := by rw [dgN_s (by omega) (by omega), dgN_4 (by omega) (by omega)]; rfl
theorem dgN_6 {x : Int} (h : 100000 ≤ x) (h2 : x ≤ 999999) : dgN x = 6 := by rw [dgN_s (by omega) (by omega), dgN_5 (by omega) (by omega)]; rfl
theorem dgN_7 {x : Int} (h : 1000000 ≤ x) (h2 : x ≤ 9999999) : dgN x = 7 := by rw [dgN_s (by omega) (by omega), dgN_6 (by omega) (by omega)]; rfl
theorem dgN_8 {x : Int} (h : 10000000 ≤ x) (h2 : x ≤ 99999999) : dgN x = 8 := by rw [dgN_s (by omega) (by omega), dgN_7 (by omega) (by omega)]; rfl
theorem dgN_9 {x : Int} (h : 100000000 ≤ x) (h2 : x ≤ 999999999) : dgN x = 9 := by rw [dgN_s (by omega) (by omega), dgN_8 (by omega) (by omega)]; rfl
theorem dgN_in {x : Int} (h0 : 0 ≤ x) (h2 : x ≤ 999999999) : 1 ≤ dgN x ∧ dgN x ≤ 9 := by
  by_cases a1 : x ≤ 9
  · rw [dgN_1 h0 a1]; decide
  by_cases a2 : x ≤ 99
  · rw [dgN_2 (by omega) a2]; decide
  by_cases a3 : x ≤ 999
  · rw [dgN_3 (by omega) a3]; decide
  by_cases a4 : x ≤ 9999
  · rw [dgN_4 (by omega) a4]; decide
  by_cases a5 : x ≤ 99999
  · rw [dgN_5 (by omega) a5]; decide
  by_cases a6 : x ≤ 999999
  · rw [dgN_6 (by omega) a6]; decide
  by_cases a7 : x ≤ 9999999
  · rw [dgN_7 (by omega) a7]; decide
  by_cases a8 : x ≤ 99999999
  · rw [dgN_8 (by omega) a8]; decide
  rw [dgN_9 (by omega) h2]; decide
/-- the places by which the class counts digits -/
def dgP (x i q : Int) : Prop := (i = 1 ∧ q = -10) ∨ (i = 2 ∧ q = -100 ∧ 10 ≤ x) ∨ (i = 3 ∧ q = -1000 ∧ 100 ≤ x) ∨ (i = 4 ∧ q = -10000 ∧ 1000 ≤ x) ∨ (i = 5 ∧ q = -100000 ∧ 10000 ≤ x) ∨ (i = 6 ∧ q = -1000000 ∧ 100000 ≤ x) ∨ (i = 7 ∧ q = -10000000 ∧ 1000000 ≤ x) ∨ (i = 8 ∧ q = -100000000 ∧ 10000000 ≤ x) ∨ (i = 9 ∧ q = -1000000000 ∧ 100000000 ≤ x)
theorem dgP_s {x i q : Int} (h : dgP x i q) (h2 : x ≤ 999999999) (hq : -x ≤ q) : dgP x (i + 1) (10 * q) ∧ i + 1 ≤ 9 := by
  unfold dgP at h ⊢
  omega
theorem dgP_in {x i q : Int} (h : dgP x i q) : 1 ≤ i ∧ i ≤ 9 ∧ -1000000000 ≤ q ∧ q ≤ -10 := by
  unfold dgP at h
  omega
theorem dgP_end {x i q : Int} (h0 : 0 ≤ x) (h2 : x ≤ 999999999) (h : dgP x i q) (hq : q < -x) : i = dgN x := by
  rcases h with ⟨rfl, h⟩ | ⟨rfl, h, g⟩ | ⟨rfl, h, g⟩ | ⟨rfl, h, g⟩ | ⟨rfl, h, g⟩ | ⟨rfl, h, g⟩ | ⟨rfl, h, g⟩ | ⟨rfl, h, g⟩ | ⟨rfl, h, g⟩
  · rw [dgN_1 h0 (by omega)]
  · rw [dgN_2 g (by omega)]
  · rw [dgN_3 g (by omega)]
  · rw [dgN_4 g (by omega)]
  · rw [dgN_5 g (by omega)]
  · rw [dgN_6 g (by omega)]
  · rw [dgN_7 g (by omega)]
  · rw [dgN_8 g (by omega)]
  · rw [dgN_9 g (by omega)]
/-- a row with characters written from a place on -/
def wrL (f : Int → Int) (p : Int) (l : List Int) : Int → Int := fun j => if p ≤ j ∧ j < p + (l.length : Nat) then l.getD (j - p).toNat 0 else f j
theorem wrL_nil (f : Int → Int) (p : Int) : wrL f p [] = f := by
  funext j
  unfold wrL
  rw [if_neg (by simp; omega)]
theorem wrL_app (f : Int → Int) (p : Int) (l : List Int) (d : Int) : wrL f p (l ++ [d]) = zU (wrL f p l) (p + (l.length : Nat)) d := by
  funext j
  unfold wrL zU
  rw [List.length_append]
  by_cases e : j = p + (l.length : Nat)
  · subst e
    rw [if_pos rfl, if_pos (by simp; omega), show (p + (l.length : Nat) - p).toNat = l.length by omega]
    simp
  · rw [if_neg e]
    by_cases g : p ≤ j ∧ j < p + (l.length : Nat)
    · rw [if_pos g, if_pos (by simp; omega)]
      rw [List.getD_eq_getElem?_getD, List.getD_eq_getElem?_getD, List.getElem?_append_left (by omega)]
    · rw [if_neg g, if_neg (by simp; omega)]
theorem wrL_cons (f : Int → Int) (p d : Int) (t : List Int) (q : Int) (hq : q = p + 1) : zU (wrL f q t) p d = wrL f p (d :: t) := by
  subst hq
  funext j
  unfold wrL zU
  rw [List.length_cons]
  by_cases e : j = p
  · subst e
    rw [if_pos rfl, if_pos (by omega), show (j - j).toNat = 0 by omega]
    rfl
  · rw [if_neg e]
    by_cases g : p + 1 ≤ j ∧ j < p + 1 + (t.length : Nat)
    · rw [if_pos g, if_pos (by omega), show (j - p).toNat = (j - (p + 1)).toNat + 1 by omega]
      rfl
    · rw [if_neg g, if_neg (by omega)]
/-- what has been written from the end on: t, behind the place at, of what is left of the number, y -/
def gcI (f : Int → Int) (x p : Int) (y at' : Int) (g : Int → Int) : Prop := ∃ t : List Int, dgL x = dgL y ++ t ∧ at' = p + dgN y ∧ g = wrL f at' t
theorem gcI_0 {f : Int → Int} {x p at' : Int} (h : at' = p + dgN x) : gcI f x p x at' f := ⟨[], (List.append_nil _).symm, h, (wrL_nil f at').symm⟩
theorem gcI_s {f : Int → Int} {x p y at' : Int} {g : Int → Int} (h : gcI f x p y at' g) (hy : 100 ≤ y) (hy2 : y ≤ 999999999) : gcI f x p (y / 100) (at' - 1 - 1) (zU (zU g (at' - 1) (48 + y % 100 % 10)) (at' - 1 - 1) (48 + y % 100 / 10)) := by
  obtain ⟨t, h1, h2, h3⟩ := h
  have e1 : dgL y = dgL (y / 10) ++ [48 + y % 10] := dgL_s (by omega) hy2
  have e2 : dgL (y / 10) = dgL (y / 10 / 10) ++ [48 + y / 10 % 10] := dgL_s (by omega) (by omega)
  have e3 : y / 10 / 10 = y / 100 := by omega
  have n1 : dgN y = dgN (y / 10) + 1 := dgN_s (by omega) hy2
  have n2 : dgN (y / 10) = dgN (y / 10 / 10) + 1 := dgN_s (by omega) (by omega)
  refine ⟨(48 + y / 10 % 10) :: (48 + y % 10) :: t, ?_, by rw [← e3]; omega, ?_⟩
  · rw [h1, e1, e2, e3]
    simp
  · rw [h3, wrL_cons _ _ _ _ _ (by omega), wrL_cons _ _ _ _ _ (by omega), show y % 100 % 10 = y % 10 by omega, show y % 100 / 10 = y / 10 % 10 by omega]
theorem gcI_1 {f : Int → Int} {x p y at' : Int} {g : Int → Int} (h : gcI f x p y at' g) (h0 : 0 ≤ y) (hy : y ≤ 9) : at' - 1 = p ∧ zU g (at' - 1) (48 + y % 10) = wrL f p (dgL x) := by
  obtain ⟨t, h1, h2, h3⟩ := h
  have n1 := dgN_1 h0 hy
  have e : at' - 1 = p := by omega
  refine ⟨e, ?_⟩
  rw [h3, h1, dgL_1 h0 hy, e, show y % 10 = y by omega]
  exact wrL_cons _ _ _ _ _ (by omega)
theorem gcI_2 {f : Int → Int} {x p y at' : Int} {g : Int → Int} (h : gcI f x p y at' g) (h0 : 10 ≤ y) (hy : y ≤ 99) : at' - 1 - 1 = p ∧ zU (zU g (at' - 1) (48 + y % 10)) (at' - 1 - 1) (48 + y / 10) = wrL f p (dgL x) := by
  obtain ⟨t, h1, h2, h3⟩ := h
  have n1 := dgN_2 h0 hy
  have e : at' - 1 - 1 = p := by omega
  have e1 : dgL y = dgL (y / 10) ++ [48 + y % 10] := dgL_s h0 (by omega)
  refine ⟨e, ?_⟩
  rw [h3, h1, e1, dgL_1 (x := y / 10) (by omega) (by omega), wrL_cons _ _ _ _ _ (by omega), wrL_cons _ _ _ _ _ (by omega), e]
  rfl
theorem gcI_at {f : Int → Int} {x p y at' : Int} {g : Int → Int} (h : gcI f x p y at' g) : at' = p + dgN y := by
  obtain ⟨t, h1, h2, h3⟩ := h
  exact h2
/-! reading: how far a word goes, how many digits stand there, what number they are -/
def mtW (txt : Int → Int) (len : Int) : Int → List Int → Int
  | _, [] => 0
  | p, c :: w => if p < len ∧ txt p = c then mtW txt len (p + 1) w + 1 else 0
def ctD (txt : Int → Int) (len : Int) : Nat → Int → Int
  | 0, _ => 0
  | n + 1, p => if p < len ∧ 48 ≤ txt p ∧ txt p ≤ 57 then ctD txt len n (p + 1) + 1 else 0
def nvD (txt : Int → Int) (p : Int) : Nat → Int
  | 0 => 0
  | n + 1 => nvD txt p n * 10 + (txt (p + n) - 48)
