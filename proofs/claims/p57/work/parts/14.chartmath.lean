/-! ===== the worlds' cells, a bundle a class ===== -/
abbrev bChart (tA : Nat → ClassId) (a0 a1 a2 a3 a4 a5 : Nat) (ports : Int) (legs : Int) (lower : Int → Int) (upper : Int → Int) (leng : Int → Int) (reach : Int → Int) (meter : Int → Int) : va_W := [(a0, .inr (4, [.int (iI ports), .int (iI legs), .ref a1, .ref a2, .ref a3, .ref a4, .ref a5])), (a1, .inl (tA 0, 20, .inl (zA lower))), (a2, .inl (tA 0, 20, .inl (zA upper))), (a3, .inl (tA 0, 20, .inl (zA leng))), (a4, .inl (tA 0, 20, .inl (zA reach))), (a5, .inl (tA 0, 20, .inl (zA meter)))]
abbrev bShips (tA : Nat → ClassId) (a0 a1 a2 a3 a4 a5 : Nat) (cnt : Int) (strt : Int → Int) (goal : Int → Int) (money : Int → Int) (litN : Int → Int) (darkN : Int → Int) : va_W := [(a0, .inr (10, [.int (iI cnt), .ref a1, .ref a2, .ref a3, .ref a4, .ref a5])), (a1, .inl (tA 0, 6, .inl (zA strt))), (a2, .inl (tA 0, 6, .inl (zA goal))), (a3, .inl (tA 0, 6, .inl (zA money))), (a4, .inl (tA 0, 6, .inl (zA litN))), (a5, .inl (tA 0, 6, .inl (zA darkN)))]
abbrev bState (tA : Nat → ClassId) (a0 a1 a2 a3 a4 a5 a6 a7 a8 a9 a10 a11 a12 : Nat) (ports : Int) (legs : Int) (lower : Int → Int) (upper : Int → Int) (leng : Int → Int) (reach : Int → Int) (meter : Int → Int) (cnt : Int) (strt : Int → Int) (goal : Int → Int) (money : Int → Int) (litN : Int → Int) (darkN : Int → Int) (rng : Int) (nights : Int) (fog : Int) (fund : Int) (refd : Int) (brt : Int) : va_W := [(a0, .inr (11, [.ref a1, .ref a7, .int (iI rng), .int (iI nights), .int (iI fog), .long (lI fund), .long (lI refd), .long (lI brt)])), (a1, .inr (4, [.int (iI ports), .int (iI legs), .ref a2, .ref a3, .ref a4, .ref a5, .ref a6])), (a2, .inl (tA 0, 20, .inl (zA lower))), (a3, .inl (tA 0, 20, .inl (zA upper))), (a4, .inl (tA 0, 20, .inl (zA leng))), (a5, .inl (tA 0, 20, .inl (zA reach))), (a6, .inl (tA 0, 20, .inl (zA meter))), (a7, .inr (10, [.int (iI cnt), .ref a8, .ref a9, .ref a10, .ref a11, .ref a12])), (a8, .inl (tA 0, 6, .inl (zA strt))), (a9, .inl (tA 0, 6, .inl (zA goal))), (a10, .inl (tA 0, 6, .inl (zA money))), (a11, .inl (tA 0, 6, .inl (zA litN))), (a12, .inl (tA 0, 6, .inl (zA darkN)))]
abbrev bRoutes (tA : Nat → ClassId) (a0 a1 a2 a3 : Nat) (shrt : Int → Int) (grp : Int → Int) (seen : Int → Int) : va_W := [(a0, .inr (7, [.ref a1, .ref a2, .ref a3])), (a1, .inl (tA 0, 10, .inl (zA shrt))), (a2, .inl (tA 0, 10, .inl (zA grp))), (a3, .inl (tA 1, 10, .inl (zA seen)))]
abbrev bShares (tA : Nat → ClassId) (a0 a1 a2 a3 a4 : Nat) (tp : Int → Int) (shr : Int → Int) (need : Int → Int) (ordr : Int → Int) (size : Int) : va_W := [(a0, .inr (9, [.ref a1, .ref a2, .ref a3, .ref a4, .int (iI size)])), (a1, .inl (tA 1, 6, .inl (zA tp))), (a2, .inl (tA 0, 6, .inl (zA shr))), (a3, .inl (tA 0, 6, .inl (zA need))), (a4, .inl (tA 0, 6, .inl (zA ordr)))]
abbrev bOffice (tA : Nat → ClassId) (a0 a1 a2 a3 a4 a5 a6 a7 a8 a9 a10 a11 a12 a13 a14 a15 a16 a17 a18 a19 a20 a21 a22 : Nat) (ports : Int) (legs : Int) (lower : Int → Int) (upper : Int → Int) (leng : Int → Int) (reach : Int → Int) (meter : Int → Int) (cnt : Int) (strt : Int → Int) (goal : Int → Int) (money : Int → Int) (litN : Int → Int) (darkN : Int → Int) (rng : Int) (nights : Int) (fog : Int) (fund : Int) (refd : Int) (brt : Int) (shrt : Int → Int) (grp : Int → Int) (seen : Int → Int) (tp : Int → Int) (shr : Int → Int) (need : Int → Int) (ordr : Int → Int) (size : Int) : va_W := [(a0, .inr (6, [.ref a1, .ref a14, .ref a18])), (a1, .inr (11, [.ref a2, .ref a8, .int (iI rng), .int (iI nights), .int (iI fog), .long (lI fund), .long (lI refd), .long (lI brt)])), (a2, .inr (4, [.int (iI ports), .int (iI legs), .ref a3, .ref a4, .ref a5, .ref a6, .ref a7])), (a3, .inl (tA 0, 20, .inl (zA lower))), (a4, .inl (tA 0, 20, .inl (zA upper))), (a5, .inl (tA 0, 20, .inl (zA leng))), (a6, .inl (tA 0, 20, .inl (zA reach))), (a7, .inl (tA 0, 20, .inl (zA meter))), (a8, .inr (10, [.int (iI cnt), .ref a9, .ref a10, .ref a11, .ref a12, .ref a13])), (a9, .inl (tA 0, 6, .inl (zA strt))), (a10, .inl (tA 0, 6, .inl (zA goal))), (a11, .inl (tA 0, 6, .inl (zA money))), (a12, .inl (tA 0, 6, .inl (zA litN))), (a13, .inl (tA 0, 6, .inl (zA darkN))), (a14, .inr (7, [.ref a15, .ref a16, .ref a17])), (a15, .inl (tA 0, 10, .inl (zA shrt))), (a16, .inl (tA 0, 10, .inl (zA grp))), (a17, .inl (tA 1, 10, .inl (zA seen))), (a18, .inr (9, [.ref a19, .ref a20, .ref a21, .ref a22, .int (iI size)])), (a19, .inl (tA 1, 6, .inl (zA tp))), (a20, .inl (tA 0, 6, .inl (zA shr))), (a21, .inl (tA 0, 6, .inl (zA need))), (a22, .inl (tA 0, 6, .inl (zA ordr)))]
abbrev bModel (tA : Nat → ClassId) (a0 a1 a2 a3 a4 a5 a6 a7 a8 a9 a10 : Nat) (ms : Int → Int) (mbef : Int → Int) (msav : Int → Int) (misv : Int) (mpast : Int → Int) (mpm : Int) (mthr : Int) (mways : Int → Int) (mnds : Int → Int) (mtkp : Int → Int) (mline : Int → Int) (mlm : Int) (mtxt : Int → Int) (mlen : Int) (mat : Int) (mwr : Int) (merr : Int) (mfail : Int) (mcmd : Int → Int) (mcm : Int) : va_W := [(a0, .inr (13, [.ref a1, .ref a2, .ref a3, .int (iI misv), .ref a4, .int (iI mpm), .int (iI mthr), .ref a5, .ref a6, .ref a7, .ref a8, .int (iI mlm), .ref a9, .int (iI mlen), .int (iI mat), .int (iI mwr), .int (iI merr), .int (iI mfail), .ref a10, .int (iI mcm)])), (a1, .inl (tA 0, 337, .inl (zA ms))), (a2, .inl (tA 0, 337, .inl (zA mbef))), (a3, .inl (tA 0, 337, .inl (zA msav))), (a4, .inl (tA 0, 2696, .inl (zA mpast))), (a5, .inl (tA 0, 100, .inl (zA mways))), (a6, .inl (tA 0, 6, .inl (zA mnds))), (a7, .inl (tA 1, 6, .inl (zA mtkp))), (a8, .inl (tA 2, 40, .inl (zA mline))), (a9, .inl (tA 2, 60, .inl (zA mtxt))), (a10, .inl (tA 0, 300, .inl (zA mcmd)))]
/-! ===== legs: their order, rows moved by one ===== -/
def legLt (r1 l1 a1 b1 r2 l2 a2 b2 : Int) : Prop := r1 < r2 ∨ (r1 = r2 ∧ (l1 < l2 ∨ (l1 = l2 ∧ (a1 < a2 ∨ (a1 = a2 ∧ b1 < b2)))))
def mtUp (k : Int) (reach : Int → Int) (r : Int) (f : Int → Int) : Int → Int := fun j => if 0 ≤ j ∧ j < k ∧ reach j ≤ r then f j + 1 else f j
theorem mtUp_0 (reach : Int → Int) (r : Int) (f : Int → Int) : mtUp 0 reach r f = f := by
  funext j
  unfold mtUp
  rw [if_neg (by omega)]
theorem mtUp_s1 {k : Int} {reach : Int → Int} {r : Int} {f : Int → Int} (h0 : 0 ≤ k) (h : reach k ≤ r) : zU (mtUp k reach r f) k (mtUp k reach r f k + 1) = mtUp (k + 1) reach r f := by
  funext j
  unfold zU mtUp
  by_cases hj : j = k
  · subst hj
    rw [if_pos rfl, if_neg (by omega), if_pos (by omega)]
  · rw [if_neg hj]
    by_cases h1 : 0 ≤ j ∧ j < k ∧ reach j ≤ r
    · rw [if_pos h1, if_pos (by omega)]
    · rw [if_neg h1, if_neg (by omega)]
theorem mtUp_s0 {k : Int} {reach : Int → Int} {r : Int} {f : Int → Int} (h : ¬ reach k ≤ r) : mtUp k reach r f = mtUp (k + 1) reach r f := by
  funext j
  unfold mtUp
  by_cases hj : j = k
  · subst hj
    rw [if_neg (by omega), if_neg (fun z => h z.2.2)]
  · by_cases h1 : 0 ≤ j ∧ j < k ∧ reach j ≤ r
    · rw [if_pos h1, if_pos (by omega)]
    · rw [if_neg h1, if_neg (by omega)]
def shf (f : Int → Int) (i n : Int) : Int → Int := fun j => if i < j ∧ j ≤ n then f (j - 1) else f j
theorem shf_0 (f : Int → Int) (n : Int) : shf f n n = f := by
  funext j
  unfold shf
  rw [if_neg (by omega)]
theorem shf_s (f : Int → Int) {i n : Int} (h : i ≤ n) : zU (shf f i n) i (shf f i n (i - 1)) = shf f (i + (-1)) n := by
  funext j
  unfold zU shf
  by_cases hj : j = i
  · subst hj
    rw [if_pos rfl, if_neg (by omega), if_pos (by omega)]
  · rw [if_neg hj]
    by_cases h1 : i < j ∧ j ≤ n
    · rw [if_pos h1, if_pos (by omega)]
    · rw [if_neg h1, if_neg (by omega)]
def dlf (f : Int → Int) (p i : Int) : Int → Int := fun j => if p ≤ j ∧ j < i - 1 then f (j + 1) else f j
theorem dlf_0 (f : Int → Int) (p : Int) : dlf f p (p + 1) = f := by
  funext j
  unfold dlf
  rw [if_neg (by omega)]
theorem dlf_s (f : Int → Int) {p i : Int} (h : p + 1 ≤ i) : zU (dlf f p i) (i - 1) (dlf f p i i) = dlf f p (i + 1) := by
  funext j
  unfold zU dlf
  by_cases hj : j = i - 1
  · subst hj
    rw [if_pos rfl, if_neg (by omega), if_pos (by omega)]
    congr 1
    omega
  · rw [if_neg hj]
    by_cases h1 : p ≤ j ∧ j < i - 1
    · rw [if_pos h1, if_pos (by omega)]
    · rw [if_neg h1, if_neg (by omega)]
