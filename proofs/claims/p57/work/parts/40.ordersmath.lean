/-! ===== the mean over all orders is the share ===== -/
def mskB (b0 b1 b2 b3 b4 b5 : Bool) : Nat := b0.toNat + 2 * b1.toNat + 4 * b2.toNat + 8 * b3.toNat + 16 * b4.toNat + 32 * b5.toNat
theorem mskB_lt : ∀ b0 b1 b2 b3 b4 b5 : Bool, mskB b0 b1 b2 b3 b4 b5 < 64 := by decide
theorem mskB_bit : ∀ b0 b1 b2 b3 b4 b5 : Bool, (mskB b0 b1 b2 b3 b4 b5).testBit 0 = b0 ∧ (mskB b0 b1 b2 b3 b4 b5).testBit 1 = b1 ∧ (mskB b0 b1 b2 b3 b4 b5).testBit 2 = b2 ∧ (mskB b0 b1 b2 b3 b4 b5).testBit 3 = b3 ∧ (mskB b0 b1 b2 b3 b4 b5).testBit 4 = b4 ∧ (mskB b0 b1 b2 b3 b4 b5).testBit 5 = b5 := by decide +kernel
theorem mskB_pop : ∀ b0 b1 b2 b3 b4 b5 : Bool, oPop (mskB b0 b1 b2 b3 b4 b5) = b0.toNat + b1.toNat + b2.toNat + b3.toNat + b4.toNat + b5.toNat := by decide +kernel
theorem mskB_rank : ∀ b0 b1 b2 b3 b4 b5 : Bool, oPop (mskB b0 b1 b2 b3 b4 b5 % 2 ^ 0) = 0 ∧ oPop (mskB b0 b1 b2 b3 b4 b5 % 2 ^ 1) = b0.toNat ∧ oPop (mskB b0 b1 b2 b3 b4 b5 % 2 ^ 2) = b0.toNat + b1.toNat ∧ oPop (mskB b0 b1 b2 b3 b4 b5 % 2 ^ 3) = b0.toNat + b1.toNat + b2.toNat ∧ oPop (mskB b0 b1 b2 b3 b4 b5 % 2 ^ 4) = b0.toNat + b1.toNat + b2.toNat + b3.toNat ∧ oPop (mskB b0 b1 b2 b3 b4 b5 % 2 ^ 5) = b0.toNat + b1.toNat + b2.toNat + b3.toNat + b4.toNat := by decide +kernel
/-- a set of ships as bits -/
def msk (f : Int → Int) : Nat := mskB (decide (f 0 = 1)) (decide (f 1 = 1)) (decide (f 2 = 1)) (decide (f 3 = 1)) (decide (f 4 = 1)) (decide (f 5 = 1))
theorem msk_lt (f : Int → Int) : msk f < 64 := mskB_lt _ _ _ _ _ _
theorem six {P : Int → Prop} (h0 : P 0) (h1 : P 1) (h2 : P 2) (h3 : P 3) (h4 : P 4) (h5 : P 5) : ∀ j, 0 ≤ j → j < 6 → P j := by
  intro j j0 j1
  rcases (show j = 0 ∨ j = 1 ∨ j = 2 ∨ j = 3 ∨ j = 4 ∨ j = 5 by omega) with h | h | h | h | h | h <;> subst h <;> assumption
theorem msk_bit (f : Int → Int) {j : Int} (j0 : 0 ≤ j) (j1 : j < 6) : (msk f).testBit j.toNat = decide (f j = 1) := by
  obtain ⟨h0, h1, h2, h3, h4, h5⟩ := mskB_bit (decide (f 0 = 1)) (decide (f 1 = 1)) (decide (f 2 = 1)) (decide (f 3 = 1)) (decide (f 4 = 1)) (decide (f 5 = 1))
  exact six (P := fun j => (msk f).testBit j.toNat = decide (f j = 1)) h0 h1 h2 h3 h4 h5 j j0 j1
theorem bN {f : Int → Int} {j : Int} (h : f j = 0 ∨ f j = 1) : ((decide (f j = 1)).toNat : Int) = f j := by
  rcases h with h | h <;> rw [h] <;> rfl
theorem sm6 (f : Int → Int) : sm f 6 = f 0 + f 1 + f 2 + f 3 + f 4 + f 5 := by
  show 0 + f ((0 : Nat) : Int) + f ((1 : Nat) : Int) + f ((2 : Nat) : Int) + f ((3 : Nat) : Int) + f ((4 : Nat) : Int) + f ((5 : Nat) : Int) = _
  rw [Int.zero_add]
  rfl
theorem msk_pop {f : Int → Int} (h : ∀ j, 0 ≤ j → j < 6 → f j = 0 ∨ f j = 1) : (oPop (msk f) : Int) = sm f 6 := by
  unfold msk
  rw [mskB_pop, sm6]
  have := bN (h 0 (by decide) (by decide))
  have := bN (h 1 (by decide) (by decide))
  have := bN (h 2 (by decide) (by decide))
  have := bN (h 3 (by decide) (by decide))
  have := bN (h 4 (by decide) (by decide))
  have := bN (h 5 (by decide) (by decide))
  omega
theorem msk_rank {f : Int → Int} (h : ∀ j, 0 ≤ j → j < 6 → f j = 0 ∨ f j = 1) : ∀ j : Int, 0 ≤ j → j < 6 → (oPop (msk f % 2 ^ j.toNat) : Int) = sm f j.toNat := by
  obtain ⟨h0, h1, h2, h3, h4, h5⟩ := mskB_rank (decide (f 0 = 1)) (decide (f 1 = 1)) (decide (f 2 = 1)) (decide (f 3 = 1)) (decide (f 4 = 1)) (decide (f 5 = 1))
  have a0 := bN (h 0 (by decide) (by decide))
  have a1 := bN (h 1 (by decide) (by decide))
  have a2 := bN (h 2 (by decide) (by decide))
  have a3 := bN (h 3 (by decide) (by decide))
  have a4 := bN (h 4 (by decide) (by decide))
  refine six ?_ ?_ ?_ ?_ ?_ ?_
  · show (oPop (msk f % 2 ^ 0) : Int) = 0
    unfold msk
    rw [h0]
    rfl
  · show (oPop (msk f % 2 ^ 1) : Int) = 0 + f 0
    unfold msk
    rw [h1]
    omega
  · show (oPop (msk f % 2 ^ 2) : Int) = 0 + f 0 + f 1
    unfold msk
    rw [h2]
    omega
  · show (oPop (msk f % 2 ^ 3) : Int) = 0 + f 0 + f 1 + f 2
    unfold msk
    rw [h3]
    omega
  · show (oPop (msk f % 2 ^ 4) : Int) = 0 + f 0 + f 1 + f 2 + f 3
    unfold msk
    rw [h4]
    omega
  · show (oPop (msk f % 2 ^ 5) : Int) = 0 + f 0 + f 1 + f 2 + f 3 + f 4
    unfold msk
    rw [h5]
    omega
theorem msk_sub {f g : Int → Int} (h : ∀ j, 0 ≤ j → j < 6 → f j = 1 → g j = 1) : msk f &&& msk g = msk f := by
  apply Nat.eq_of_testBit_eq
  intro i
  rw [Nat.testBit_and]
  by_cases hi : i < 6
  · have e1 := msk_bit f (j := (i : Int)) (by omega) (by omega)
    have e2 := msk_bit g (j := (i : Int)) (by omega) (by omega)
    rw [show ((i : Int)).toNat = i by omega] at e1 e2
    rw [e1, e2]
    by_cases z : f (i : Int) = 1
    · rw [h i (by omega) (by omega) z, z]
      rfl
    · rw [decide_eq_false z]
      rfl
  · have : (msk f).testBit i = false := Nat.testBit_lt_two_pow (Nat.lt_of_lt_of_le (msk_lt f) (show 2 ^ 6 ≤ 2 ^ i from Nat.pow_le_pow_right (by decide) (by omega)))
    rw [this]
    rfl
/-! the first of a set in an order -/
theorem odig_0 (p : Nat) : odig p 0 = p % 8 := by
  unfold odig
  rw [Nat.pow_zero, Nat.div_one]
theorem odig_s (p i : Nat) : odig p (i + 1) = odig (p / 8) i := by
  unfold odig
  rw [Nat.pow_succ, Nat.mul_comm, Nat.div_div_eq_div_mul]
theorem oFst_at (S : Nat) : ∀ (k pl p : Nat), pl < k → S.testBit (odig p pl) = true → (∀ j, j < pl → ¬ S.testBit (odig p j) = true) → oFst S k p = odig p pl
  | 0, pl, p, h, _, _ => absurd h (Nat.not_lt_zero _)
  | k + 1, 0, p, _, h1, _ => by
    rw [odig_0] at h1 ⊢
    unfold oFst
    rw [if_pos h1]
  | k + 1, pl + 1, p, h, h1, h2 => by
    have z := h2 0 (by omega)
    rw [odig_0] at z
    unfold oFst
    rw [if_neg z, odig_s]
    exact oFst_at S k pl (p / 8) (by omega) (by rw [← odig_s]; exact h1) (fun j hj => by rw [← odig_s]; exact h2 (j + 1) (by omega))
theorem oFst_of (S : Nat) : ∀ (k p s : Nat), oFst S k p = s → s < 7 → ∃ i, i < k ∧ odig p i = s ∧ S.testBit s = true ∧ ∀ j, j < i → ¬ S.testBit (odig p j) = true
  | 0, p, s, h, hs => by
    have : (7 : Nat) = s := h
    omega
  | k + 1, p, s, h, hs => by
    unfold oFst at h
    by_cases z : S.testBit (p % 8) = true
    · rw [if_pos z] at h
      exact ⟨0, by omega, by rw [odig_0]; exact h, by rw [← h]; exact z, fun j hj => absurd hj (Nat.not_lt_zero _)⟩
    · rw [if_neg z] at h
      obtain ⟨i, i0, i1, i2, i3⟩ := oFst_of S k (p / 8) s h hs
      refine ⟨i + 1, by omega, by rw [odig_s]; exact i1, i2, fun j hj => ?_⟩
      cases j with
      | zero => rw [odig_0]; exact z
      | succ j => rw [odig_s]; exact i3 j (by omega)
theorem oCnt_app (S s p : Nat) : ∀ l : List Nat, oCnt S s (l ++ [p]) = oCnt S s l + (if oFst S 6 p = s then 1 else 0)
  | [] => by
    show (if oFst S 6 p = s then 1 else 0) + 0 = 0 + (if oFst S 6 p = s then 1 else 0)
    omega
  | q :: l => by
    show (if oFst S 6 q = s then 1 else 0) + oCnt S s (l ++ [p]) = (if oFst S 6 q = s then 1 else 0) + oCnt S s l + (if oFst S 6 p = s then 1 else 0)
    rw [oCnt_app S s p l]
    omega
/-! what was checked, in words -/
theorem oC_first (t : Int → Int) {f : Int → Int} (ht : ∀ j, 0 ≤ j → j < 6 → t j = 0 ∨ t j = 1) (hf : ∀ j, 0 ≤ j → j < 6 → t j = 1 → f (sm t j.toNat) = j) : ∀ j, 0 ≤ j → j < 6 → t j = 1 → f (sm t j.toNat) = ((odig ((oL (msk t)).getD 0 0) (sm t j.toNat).toNat : Nat) : Int) := by
  intro j j0 j1 hj
  have c := oC (msk t) (msk_lt t)
  unfold oChk oFirst at c
  simp only [Bool.and_eq_true, List.all_eq_true, List.mem_range, Bool.or_eq_true, Bool.not_eq_true', beq_iff_eq] at c
  have c1 := c.1.1.1.1 j.toNat (by omega)
  have b := msk_bit t j0 j1
  rw [b, hj] at c1
  have r := msk_rank ht j j0 j1
  rcases c1 with q | q
  · exact absurd q (by decide)
  · rw [hf j j0 j1 hj, ← r, Int.toNat_natCast, q]
    omega
theorem oC_dig (t : Int → Int) {p : Nat} (hp : p ∈ oL (msk t)) : (∀ j, j < oPop (msk t) → t (odig p j) = 1 ∧ odig p j < 6) ∧ ∀ s : Int, 0 ≤ s → s < 6 → t s = 1 → ∃ j, j < oPop (msk t) ∧ (odig p j : Int) = s := by
  have c := oC (msk t) (msk_lt t)
  unfold oChk oHas at c
  simp only [Bool.and_eq_true, List.all_eq_true] at c
  have c1 := c.1.1.2 p hp
  simp only [decide_eq_true_eq, List.mem_range, Bool.or_eq_true, Bool.not_eq_true', List.any_eq_true, beq_iff_eq] at c1
  refine ⟨fun j hj => ?_, fun s s0 s1 hs => ?_⟩
  · have q := c1.1 j hj
    have b := msk_bit t (j := (odig p j : Int)) (by omega) (by omega)
    rw [Int.toNat_natCast, q.1] at b
    exact ⟨of_decide_eq_true b.symm, q.2⟩
  · rcases c1.2 s.toNat (by omega) with q | ⟨j, j1, j2⟩
    · rw [msk_bit t s0 s1, hs] at q
      exact absurd q (by decide)
    · exact ⟨j, j1, by omega⟩
theorem oC_cnt (t : Int → Int) {f : Int → Int} (h : ∀ j, 0 ≤ j → j < 6 → f j = 1 → t j = 1) {s : Int} (s0 : 0 ≤ s) (s1 : s < 6) (hs : f s = 1) : oPop (msk f) * oCnt (msk f) s.toNat (oL (msk t)) = (oL (msk t)).length := by
  have c := oC (msk t) (msk_lt t)
  unfold oChk oChkD at c
  simp only [Bool.and_eq_true, List.all_eq_true, List.mem_range, Bool.or_eq_true, Bool.not_eq_true', beq_iff_eq, beq_eq_false_iff_ne] at c
  have c1 := c.1.2 (msk f) (msk_lt f)
  rw [msk_sub h] at c1
  rcases c1 with q | q
  · exact absurd rfl q
  · rcases q s.toNat (by omega) with z | z
    · rw [msk_bit f s0 s1, hs] at z
      exact absurd z (by decide)
    · exact z
theorem oC_len (T : Nat) (h : T < 64) : 1 ≤ (oL T).length ∧ (oL T).length ≤ 720 := by
  have c := oC T h
  unfold oChk at c
  simp only [Bool.and_eq_true, decide_eq_true_eq] at c
  exact ⟨c.2.1, c.2.2⟩
theorem oChn_at {n : Nat} : ∀ {l : List Nat} {c : Nat}, oChn n l = true → c + 1 < l.length → ∃ t g, oTG n (l.getD c 0) (l.getD (c + 1) 0) t g
  | [], c, _, hc => absurd hc (Nat.not_lt_zero _)
  | [p], c, _, hc => by
    have : c + 1 < 1 := hc
    omega
  | p :: q :: l, 0, h, _ => by
    unfold oChn at h
    simp only [Bool.and_eq_true, List.any_eq_true, List.mem_range] at h
    obtain ⟨⟨t, t0, g, g0, hh⟩, -⟩ := h
    unfold oTGb at hh
    simp only [Bool.and_eq_true, decide_eq_true_eq] at hh
    obtain ⟨⟨⟨⟨⟨⟨⟨h1, h2⟩, h3⟩, h4⟩, h5⟩, h6⟩, h7⟩, h8⟩ := hh
    exact ⟨t, g, h1, h2, h3, h4, h5, h6, h7, h8⟩
  | p :: q :: l, c + 1, h, hc => by
    have h2 : oChn n (q :: l) = true := by
      unfold oChn at h
      rw [Bool.and_eq_true] at h
      exact h.2
    exact oChn_at (l := q :: l) (c := c) h2 (by simp only [List.length_cons] at hc ⊢; omega)
theorem oChn_last {n : Nat} : ∀ {l : List Nat} {c : Nat}, oChn n l = true → c + 1 = l.length → ∀ j, j < n → j + 2 ≤ n → odig (l.getD c 0) (j + 1) < odig (l.getD c 0) j
  | [], c, _, hc => absurd hc (by simp)
  | [p], c, h, hc => by
    have c0 : c = 0 := by
      have : c + 1 = 1 := hc
      omega
    subst c0
    unfold oChn at h
    simp only [Bool.and_eq_true, decide_eq_true_eq] at h
    exact h.1
  | p :: q :: l, 0, _, hc => by
    simp only [List.length_cons] at hc
    omega
  | p :: q :: l, c + 1, h, hc => by
    have h2 : oChn n (q :: l) = true := by
      unfold oChn at h
      rw [Bool.and_eq_true] at h
      exact h.2
    exact oChn_last (l := q :: l) (c := c) h2 (by simp only [List.length_cons] at hc ⊢; omega)
theorem oC_chn (t : Int → Int) : oChn (oPop (msk t)) (oL (msk t)) = true := by
  have c := oC (msk t) (msk_lt t)
  unfold oChk at c
  simp only [Bool.and_eq_true] at c
  exact c.1.1.1.2
/-! the next order, as the machine finds it -/
def swO (f : Int → Int) (t g : Int) : Int → Int := zU (zU f t (f g)) g (f t)
def rvO (t n l : Int) (f : Int → Int) : Int → Int := fun j => if (t < j ∧ j < l) ∨ (t + n - l < j ∧ j ≤ n - 1) then f (t + n - j) else f j
def tgO (n : Int) (f : Int → Int) (t g : Int) : Prop := 0 ≤ t ∧ t ≤ n - 2 ∧ f t ≤ f (t + 1) ∧ (∀ j, t < j → j ≤ n - 2 → f (j + 1) < f j) ∧ t ≤ g ∧ g ≤ n - 1 ∧ (g = t ∨ f t ≤ f g) ∧ ∀ j, g < j → j ≤ n - 1 → f j < f t
/-- the whole rest turned -/
def nxO (n : Int) (f : Int → Int) (t g : Int) : Int → Int := fun j => if t < j ∧ j ≤ n - 1 then swO f t g (t + n - j) else swO f t g j
def nxtP (n : Int) (f f' : Int → Int) (z : Int) : Prop := (z = 0 ∧ f' = f ∧ ∀ j, 0 ≤ j → j ≤ n - 2 → f (j + 1) < f j) ∨ (z = 1 ∧ ∃ t g, tgO n f t g ∧ f' = nxO n f t g)
theorem rvO_0 (t n : Int) (f : Int → Int) : rvO t n (t + 1) f = f := by
  funext j
  unfold rvO
  rw [if_neg (by omega)]
theorem rvO_s (t n l r : Int) (f : Int → Int) (h : l + r = t + n) (hl : t + 1 ≤ l) (hlr : l < r) (hr : r ≤ n - 1) : zU (zU (rvO t n l f) l (rvO t n l f r)) r (rvO t n l f l) = rvO t n (l + 1) f := by
  funext j
  unfold zU rvO
  by_cases e1 : j = r
  · subst e1
    rw [if_pos rfl, if_neg (by omega), if_pos (by omega)]
    congr 1
    omega
  · rw [if_neg e1]
    by_cases e2 : j = l
    · subst e2
      rw [if_pos rfl, if_neg (by omega), if_pos (by omega)]
      congr 1
      omega
    · rw [if_neg e2]
      by_cases z : (t < j ∧ j < l) ∨ (t + n - l < j ∧ j ≤ n - 1)
      · rw [if_pos z, if_pos (by omega)]
      · rw [if_neg z, if_neg (by omega)]
theorem rvO_end (t n l r g : Int) (f : Int → Int) (h : l + r = t + n) (hl : t + 1 ≤ l) (hlr : r ≤ l) (hl2 : l ≤ r + 1) : rvO t n l (swO f t g) = nxO n f t g := by
  funext j
  unfold rvO nxO
  by_cases z : (t < j ∧ j < l) ∨ (t + n - l < j ∧ j ≤ n - 1)
  · rw [if_pos z, if_pos (by omega)]
  · rw [if_neg z]
    by_cases y : t < j ∧ j ≤ n - 1
    · rw [if_pos y]
      congr 1
      omega
    · rw [if_neg y]
/-- digits of an order -/
def isO (n : Int) (f : Int → Int) (p : Nat) : Prop := ∀ j, 0 ≤ j → j < n → f j = (odig p j.toNat : Nat)
theorem oTG_next {n : Nat} {p q t g : Nat} {f f' : Int → Int} (h : oTG n p q t g) (hf : isO n f p) {z : Int} (hn : nxtP n f f' z) : z = 1 ∧ isO n f' q := by
  obtain ⟨h1, h2, h3, h4, h5, h6, h7, h8⟩ := h
  have ft := hf t (by omega) (by omega)
  have ft1 := hf (t + 1) (by omega) (by omega)
  rw [show (t : Int).toNat = t by omega] at ft
  rw [show ((t : Int) + 1).toNat = t + 1 by omega] at ft1
  rcases hn with ⟨-, -, hd⟩ | ⟨hz, t', g', ⟨u1, u2, u3, u4, u5, u6, u7, u8⟩, hf'⟩
  · have := hd t (by omega) (by omega)
    omega
  · refine ⟨hz, ?_⟩
    have et : t' = t := by
      rcases Int.lt_trichotomy t' t with c | c | c
      · have := u4 t c (by omega)
        omega
      · exact c
      · have a := h3 t'.toNat (by omega) (by omega) (by omega)
        have b1 := hf t' (by omega) (by omega)
        have b2 := hf (t' + 1) (by omega) (by omega)
        rw [show (t' + 1).toNat = t'.toNat + 1 by omega] at b2
        omega
    subst et
    have eg : g' = g := by
      rcases Int.lt_trichotomy g' g with c | c | c
      · have a := u8 g c (by omega)
        have b := hf g (by omega) (by omega)
        rw [show (g : Int).toNat = g by omega] at b
        rcases h6 with d | d
        · omega
        · omega
      · exact c
      · have a := h7 g'.toNat (by omega) (by omega)
        have b := hf g' (by omega) (by omega)
        rcases u7 with d | d
        · omega
        · omega
    subst eg
    have hs : ∀ j : Int, 0 ≤ j → j < n → swO f t g j = (oSw (odig p) t g j.toNat : Nat) := by
      intro j j0 j1
      have fg := hf g (by omega) (by omega)
      rw [show (g : Int).toNat = g by omega] at fg
      unfold swO zU oSw
      by_cases e1 : j = g
      · rw [if_pos e1, if_pos (by omega), ft]
      · have e1' : ¬ j.toNat = g := by omega
        rw [if_neg e1, if_neg e1']
        by_cases e2 : j = t
        · have e2' : j.toNat = t := by omega
          rw [if_pos e2, if_pos e2', fg]
        · have e2' : ¬ j.toNat = t := by omega
          rw [if_neg e2, if_neg e2', hf j j0 j1]
    intro j j0 j1
    rw [hf', h8 j.toNat (by omega)]
    unfold nxO oNx
    by_cases e : (t : Int) < j
    · rw [if_pos ⟨e, by omega⟩, if_pos (by omega), hs _ (by omega) (by omega)]
      congr 2
      omega
    · rw [if_neg (by omega), if_neg (by omega), hs j j0 j1]
theorem oLast_next {n : Nat} {p : Nat} {f f' : Int → Int} (h : ∀ j, j < n → j + 2 ≤ n → odig p (j + 1) < odig p j) (hf : isO n f p) {z : Int} (hn : nxtP n f f' z) : z = 0 := by
  rcases hn with ⟨hz, -⟩ | ⟨hz, t', g', ⟨u1, u2, u3, u4, u5, u6, u7, u8⟩, hf'⟩
  · exact hz
  · have a := h t'.toNat (by omega) (by omega)
    have b1 := hf t' (by omega) (by omega)
    have b2 := hf (t' + 1) (by omega) (by omega)
    rw [show (t' + 1).toNat = t'.toNat + 1 by omega] at b2
    omega
/-! by how much the cost grows -/
def sqC (x : Int) : Int := 60 * x * x
def isInc (nd f : Int → Int) (n s z : Int) : Prop := ∃ pl g, 0 ≤ pl ∧ pl < n ∧ f pl = s ∧ (∀ j, 0 ≤ j → j < pl → f j ≠ s) ∧ 0 ≤ g ∧ g ≤ 20 ∧ (∀ j, 0 ≤ j → j < pl → nd (f j) ≤ g) ∧ (g = 0 ∨ ∃ j, 0 ≤ j ∧ j < pl ∧ nd (f j) = g) ∧ z = sqC (max g (nd s)) - sqC g
/-- those who need a range, as bits -/
def rS (t nd : Int → Int) (r : Int) : Nat := msk (fun j => if t j = 1 ∧ r ≤ nd j then 1 else 0)
def incV (t nd : Int → Int) (s : Int) (p : Nat) : Int := sm (fun r => if r + 1 ≤ nd s ∧ oFst (rS t nd (r + 1)) 6 p = s.toNat then dC (r + 1) else 0) 20
theorem tele {g x : Int} (g0 : 0 ≤ g) (x0 : 0 ≤ x) : ∀ m : Nat, sm (fun r => if r + 1 ≤ x ∧ g < r + 1 then dC (r + 1) else 0) m = sqC (min m (max g x)) - sqC (min m g)
  | 0 => by
    show (0 : Int) = _
    rw [show min ((0 : Nat) : Int) (max g x) = 0 by omega, show min ((0 : Nat) : Int) g = 0 by omega]
    rfl
  | m + 1 => by
    show sm (fun r => if r + 1 ≤ x ∧ g < r + 1 then dC (r + 1) else 0) m + (if (m : Int) + 1 ≤ x ∧ g < (m : Int) + 1 then dC ((m : Int) + 1) else 0) = _
    rw [tele g0 x0 m]
    by_cases c : (m : Int) + 1 ≤ x ∧ g < (m : Int) + 1
    · rw [if_pos c, show min (m : Int) (max g x) = m by omega, show min ((m + 1 : Nat) : Int) (max g x) = m + 1 by omega, show min (m : Int) g = g by omega, show min ((m + 1 : Nat) : Int) g = g by omega]
      unfold sqC dC
      rw [show (m : Int) + 1 - 1 = m by omega]
      omega
    · rw [if_neg c]
      by_cases c2 : (m : Int) + 1 ≤ g
      · rw [show min (m : Int) (max g x) = m by omega, show min ((m + 1 : Nat) : Int) (max g x) = m + 1 by omega, show min (m : Int) g = m by omega, show min ((m + 1 : Nat) : Int) g = m + 1 by omega]
        omega
      · rw [show min (m : Int) (max g x) = max g x by omega, show min ((m + 1 : Nat) : Int) (max g x) = max g x by omega, show min (m : Int) g = g by omega, show min ((m + 1 : Nat) : Int) g = g by omega]
        omega
theorem rS_bit (t nd : Int → Int) (r : Int) {j : Int} (j0 : 0 ≤ j) (j1 : j < 6) : (rS t nd r).testBit j.toNat = true ↔ t j = 1 ∧ r ≤ nd j := by
  unfold rS
  rw [msk_bit _ j0 j1, decide_eq_true_eq]
  by_cases c : t j = 1 ∧ r ≤ nd j
  · rw [if_pos c]
    exact ⟨fun _ => c, fun _ => rfl⟩
  · rw [if_neg c]
    exact ⟨fun h => absurd h (by decide), fun h => absurd h c⟩
theorem isInc_V {t nd f : Int → Int} {n : Nat} {s z : Int} {p : Nat} (hv : TpV t nd) (hn : n ≤ 6) (hs : 0 ≤ s ∧ s < 6) (ht : t s = 1) (hd : ∀ j, j < n → t (odig p j) = 1 ∧ odig p j < 6) (hf : isO n f p) (h : isInc nd f n s z) : z = incV t nd s p := by
  obtain ⟨pl, g, p0, p1, p2, p3, g0, g1, g2, g3, hz⟩ := h
  have ns := hv.2 s hs.1 hs.2 ht
  have e := tele (g := g) (x := nd s) g0 ns.1 20
  rw [show min ((20 : Nat) : Int) (max g (nd s)) = max g (nd s) by omega, show min ((20 : Nat) : Int) g = g by omega] at e
  rw [hz, ← e]
  unfold incV
  refine sm_congr (fun r r0 r1 => ?_)
  have fpl := hf pl p0 p1
  have key : r + 1 ≤ nd s → (g < r + 1 ↔ oFst (rS t nd (r + 1)) 6 p = s.toNat) := by
    intro hr
    constructor
    · intro hg
      have a := oFst_at (rS t nd (r + 1)) 6 pl.toNat p (by omega)
        (by
          have b := (rS_bit t nd (r + 1) hs.1 hs.2).mpr ⟨ht, hr⟩
          rw [show odig p pl.toNat = s.toNat by omega]
          exact b)
        (fun j hj hb => by
          have q := hd j (by omega)
          have b := (rS_bit t nd (r + 1) (j := (odig p j : Int)) (by omega) (by omega)).mp (by rw [Int.toNat_natCast]; exact hb)
          have c := g2 j (by omega) (by omega)
          rw [hf j (by omega) (by omega), Int.toNat_natCast] at c
          omega)
      rw [a]
      omega
    · intro ho
      obtain ⟨i, i0, i1, i2, i3⟩ := oFst_of _ _ _ _ ho (by omega)
      have hi : i = pl.toNat := by
        rcases Nat.lt_trichotomy i pl.toNat with c | c | c
        · have a := p3 i (by omega) (by omega)
          rw [hf i (by omega) (by omega), Int.toNat_natCast] at a
          omega
        · exact c
        · have a := i3 pl.toNat c
          rw [show odig p pl.toNat = s.toNat by omega] at a
          exact absurd i2 a
      rcases g3 with c | ⟨j, j0, j1, j2⟩
      · omega
      · have a := i3 j.toNat (by omega)
        have q := hd j.toNat (by omega)
        have b := mt (rS_bit t nd (r + 1) (j := (odig p j.toNat : Int)) (by omega) (by omega)).mpr (by rw [Int.toNat_natCast]; exact a)
        rw [hf j j0 (by omega)] at j2
        refine Int.not_le.mp fun hle => b ⟨q.1, ?_⟩
        omega
  show (if r + 1 ≤ nd s ∧ g < r + 1 then dC (r + 1) else 0) = if r + 1 ≤ nd s ∧ oFst (rS t nd (r + 1)) 6 p = s.toNat then dC (r + 1) else 0
  by_cases c : r + 1 ≤ nd s
  · by_cases c2 : g < r + 1
    · rw [if_pos ⟨c, c2⟩, if_pos ⟨c, (key c).mp c2⟩]
    · rw [if_neg (fun y => c2 y.2), if_neg (fun y => c2 ((key c).mpr y.2))]
  · rw [if_neg (fun y => c y.1), if_neg (fun y => c y.1)]
/-- all that the first orders of a list add up to -/
def totV (t nd : Int → Int) (s : Int) (l : List Nat) : Int := sm (fun r => if r + 1 ≤ nd s then dC (r + 1) * (oCnt (rS t nd (r + 1)) s.toNat l : Nat) else 0) 20
theorem sm_addf (f g : Int → Int) : ∀ n : Nat, sm (fun r => f r + g r) n = sm f n + sm g n
  | 0 => rfl
  | n + 1 => by
    show sm (fun r => f r + g r) n + (f n + g n) = sm f n + f n + (sm g n + g n)
    rw [sm_addf f g n]
    omega
theorem totV_app (t nd : Int → Int) (s : Int) (l : List Nat) (p : Nat) : totV t nd s (l ++ [p]) = totV t nd s l + incV t nd s p := by
  unfold totV incV
  rw [← sm_addf]
  refine sm_congr (fun r _ _ => ?_)
  show (if r + 1 ≤ nd s then dC (r + 1) * (oCnt (rS t nd (r + 1)) s.toNat (l ++ [p]) : Nat) else 0) = (if r + 1 ≤ nd s then dC (r + 1) * (oCnt (rS t nd (r + 1)) s.toNat l : Nat) else 0) + (if r + 1 ≤ nd s ∧ oFst (rS t nd (r + 1)) 6 p = s.toNat then dC (r + 1) else 0)
  rw [oCnt_app]
  by_cases c : r + 1 ≤ nd s
  · rw [if_pos c, if_pos c]
    by_cases c2 : oFst (rS t nd (r + 1)) 6 p = s.toNat
    · rw [if_pos c2, if_pos ⟨c, c2⟩, Int.natCast_add, Int.mul_add]
      show _ + dC (r + 1) * 1 = _
      rw [Int.mul_one]
    · rw [if_neg c2, if_neg (fun y => c2 y.2), Nat.add_zero, Int.add_zero]
  · rw [if_neg c, if_neg c, if_neg (fun y => c y.1)]
    rfl
theorem totV_0 (t nd : Int → Int) (s : Int) : totV t nd s [] = 0 := by
  unfold totV
  have h : ∀ n : Nat, sm (fun _ => 0) n = 0 := by
    intro n
    induction n with
    | zero => rfl
    | succ n ih => show sm (fun _ => 0) n + 0 = 0; rw [ih]; rfl
  rw [← h 20]
  refine sm_congr (fun r _ _ => ?_)
  show (if r + 1 ≤ nd s then dC (r + 1) * ((0 : Nat) : Int) else 0) = 0
  split
  · rw [Int.natCast_zero, Int.mul_zero]
  · rfl
theorem totV_all {t nd : Int → Int} {s : Int} (hv : TpV t nd) (hs : 0 ≤ s ∧ s < 6) (ht : t s = 1) : totV t nd s (oL (msk t)) = (oL (msk t)).length * shR t nd (nd s).toNat := by
  have ns := hv.2 s hs.1 hs.2 ht
  have hm : ∀ m : Nat, m ≤ 20 → sm (fun r => if r + 1 ≤ nd s then dC (r + 1) * (oCnt (rS t nd (r + 1)) s.toNat (oL (msk t)) : Nat) else 0) m = (oL (msk t)).length * shR t nd (min (m : Int) (nd s)).toNat := by
    intro m
    induction m with
    | zero =>
      intro _
      rw [show (min ((0 : Nat) : Int) (nd s)).toNat = 0 by omega]
      show (0 : Int) = _ * 0
      rw [Int.mul_zero]
    | succ m ih =>
      intro hm
      show sm (fun r => if r + 1 ≤ nd s then dC (r + 1) * (oCnt (rS t nd (r + 1)) s.toNat (oL (msk t)) : Nat) else 0) m + (if (m : Int) + 1 ≤ nd s then dC ((m : Int) + 1) * (oCnt (rS t nd ((m : Int) + 1)) s.toNat (oL (msk t)) : Nat) else 0) = _
      rw [ih (by omega)]
      by_cases c : (m : Int) + 1 ≤ nd s
      · rw [if_pos c, show (min (m : Int) (nd s)).toNat = m by omega, show (min ((m + 1 : Nat) : Int) (nd s)).toNat = m + 1 by omega]
        show _ = _ * (shR t nd m + dC ((m : Int) + 1) / cntN t nd ((m : Int) + 1))
        rw [Int.mul_add]
        congr 1
        have k := oC_cnt t (f := fun j => if t j = 1 ∧ (m : Int) + 1 ≤ nd j then 1 else 0) (fun j j0 j1 h => by
          have h2 : (if t j = 1 ∧ (m : Int) + 1 ≤ nd j then (1 : Int) else 0) = 1 := h
          by_cases c : t j = 1 ∧ (m : Int) + 1 ≤ nd j
          · exact c.1
          · rw [if_neg c] at h2
            exact absurd h2 (by decide)) hs.1 hs.2 (by show (if t s = 1 ∧ (m : Int) + 1 ≤ nd s then (1 : Int) else 0) = 1; rw [if_pos ⟨ht, c⟩])
        have kp := msk_pop (f := fun j => if t j = 1 ∧ (m : Int) + 1 ≤ nd j then 1 else 0) (fun j _ _ => by
          show (if t j = 1 ∧ (m : Int) + 1 ≤ nd j then (1 : Int) else 0) = 0 ∨ (if t j = 1 ∧ (m : Int) + 1 ≤ nd j then (1 : Int) else 0) = 1
          split
          · exact Or.inr rfl
          · exact Or.inl rfl)
        have kc : (oPop (msk (fun j => if t j = 1 ∧ (m : Int) + 1 ≤ nd j then 1 else 0)) : Int) = cntN t nd ((m : Int) + 1) := kp
        have cp := cntN_pos (t := t) (nd := nd) (r := (m : Int) + 1) hs.1 hs.2 ht c
        have ci := (cntN_in t nd ((m : Int) + 1)).2
        have k2 : ((oL (msk t)).length : Int) = cntN t nd ((m : Int) + 1) * (oCnt (rS t nd ((m : Int) + 1)) s.toNat (oL (msk t)) : Nat) := by
          rw [← kc, ← k, Int.natCast_mul]
          rfl
        rw [k2]
        generalize ((oCnt (rS t nd ((m : Int) + 1)) s.toNat (oL (msk t)) : Nat) : Int) = q
        generalize cntN t nd ((m : Int) + 1) = w at *
        have e60 : dC ((m : Int) + 1) / w * w = dC ((m : Int) + 1) := by
          rw [dC_eq, div60 ⟨cp, ci⟩]
          rcases (show w = 1 ∨ w = 2 ∨ w = 3 ∨ w = 4 ∨ w = 5 ∨ w = 6 by omega) with h | h | h | h | h | h <;> subst h <;> omega
        rw [Int.mul_comm w q, Int.mul_assoc, Int.mul_comm w, e60, Int.mul_comm]
      · rw [if_neg c, show (min (m : Int) (nd s)) = nd s by omega, show (min ((m + 1 : Nat) : Int) (nd s)) = nd s by omega, Int.add_zero]
  have h20 := hm 20 (Nat.le_refl _)
  rw [show (min ((20 : Nat) : Int) (nd s)) = nd s by omega] at h20
  exact h20
/-! the loop over the orders -/
theorem sm_onto {t : Int → Int} : ∀ {m : Nat}, (∀ j : Int, 0 ≤ j → j < m → t j = 0 ∨ t j = 1) → ∀ k, 0 ≤ k → k < sm t m → ∃ j : Int, 0 ≤ j ∧ j < m ∧ t j = 1 ∧ sm t j.toNat = k
  | 0, _, k, k0, k1 => absurd (show k < 0 from k1) (by omega)
  | m + 1, h, k, k0, k1 => by
    have e : sm t (m + 1) = sm t m + t m := rfl
    by_cases c : k < sm t m
    · obtain ⟨j, j0, j1, j2, j3⟩ := sm_onto (m := m) (fun j j0 j1 => h j j0 (by omega)) k k0 c
      exact ⟨j, j0, by omega, j2, j3⟩
    · rcases h m (by omega) (by omega) with q | q
      · omega
      · exact ⟨m, by omega, by omega, q, by rw [Int.toNat_natCast]; omega⟩
def isFst (t f : Int → Int) (n : Int) : Prop := n = sm t 6 ∧ ∀ j, 0 ≤ j → j < 6 → t j = 1 → f (sm t j.toNat) = j
theorem isFst_O {t f : Int → Int} {n : Int} (ht : ∀ j, 0 ≤ j → j < 6 → t j = 0 ∨ t j = 1) (h : isFst t f n) : isO n f ((oL (msk t)).getD 0 0) := by
  intro k k0 k1
  rw [h.1] at k1
  obtain ⟨j, j0, j1, j2, j3⟩ := sm_onto (m := 6) ht k k0 k1
  have := oC_first t ht h.2 j j0 j1 j2
  rw [j3] at this
  exact this
def OrdI (t nd : Int → Int) (n s : Int) (f : Int → Int) (tot c mo : Int) : Prop := (0 ≤ c ∧ c ≤ (oL (msk t)).length ∧ tot = totV t nd s ((oL (msk t)).take c.toNat) ∧ 0 ≤ tot ∧ tot ≤ 24000 * c) ∧ ((mo = 0 ∧ c = (oL (msk t)).length) ∨ (mo = 1 ∧ c < (oL (msk t)).length ∧ isO n f ((oL (msk t)).getD c.toNat 0)))
theorem OrdI_init {t nd f : Int → Int} {n s : Int} (hv : TpV t nd) (h : isFst t f n) : OrdI t nd n s f 0 0 1 := by
  have l := oC_len (msk t) (msk_lt t)
  refine ⟨⟨by decide, by omega, ?_, by decide, by decide⟩, Or.inr ⟨rfl, by omega, isFst_O hv.1 h⟩⟩
  exact (totV_0 t nd s).symm
theorem getD_mem {l : List Nat} {c : Nat} (h : c < l.length) : l.getD c 0 ∈ l := by
  rw [List.getD_eq_getElem?_getD, List.getElem?_eq_getElem h]
  exact List.getElem_mem h
/-- what an order's places hold -/
theorem OrdI_dig {t nd f : Int → Int} {n s tot c mo : Int} (hv : TpV t nd) (hn : n = sm t 6) (h : OrdI t nd n s f tot c mo) (hm : ¬ mo = 0) : (∀ j, 0 ≤ j → j < n → 0 ≤ f j ∧ f j < 6 ∧ t (f j) = 1) ∧ ∀ x, 0 ≤ x → x < 6 → t x = 1 → ∃ j, 0 ≤ j ∧ j < n ∧ f j = x := by
  rcases h.2 with q | ⟨-, c1, ho⟩
  · exact absurd q.1 hm
  · have c0 := h.1.1
    have d := oC_dig t (getD_mem (l := oL (msk t)) (c := c.toNat) (by omega))
    have np := msk_pop hv.1
    refine ⟨fun j j0 j1 => ?_, fun x x0 x1 hx => ?_⟩
    · have a := d.1 j.toNat (by omega)
      rw [ho j j0 j1]
      exact ⟨by omega, by omega, a.1⟩
    · obtain ⟨j, j1, j2⟩ := d.2 x x0 x1 hx
      refine ⟨j, by omega, by omega, ?_⟩
      rw [ho j (by omega) (by omega), Int.toNat_natCast, j2]
theorem take_s {l : List Nat} {c : Nat} (h : c < l.length) : l.take (c + 1) = l.take c ++ [l.getD c 0] := by
  rw [List.take_add_one, List.getD_eq_getElem?_getD, List.getElem?_eq_getElem h]
  rfl
theorem sqC_mono {a b : Int} (a0 : 0 ≤ a) (ab : a ≤ b) (b1 : b ≤ 20) : 0 ≤ sqC b - sqC a ∧ sqC b - sqC a ≤ 24000 := by
  have := cost_mono a0 ab b1
  unfold sqC
  omega
theorem isInc_in {nd f : Int → Int} {n s z : Int} (hs : 0 ≤ nd s ∧ nd s ≤ 20) (h : isInc nd f n s z) : 0 ≤ z ∧ z ≤ 24000 := by
  obtain ⟨pl, g, p0, p1, p2, p3, g0, g1, g2, g3, hz⟩ := h
  have := sqC_mono (a := g) (b := max g (nd s)) g0 (by omega) (by omega)
  omega
theorem OrdI_step {t nd f f' : Int → Int} {n s tot c mo z mo' : Int} (hv : TpV t nd) (hn : n = sm t 6) (hs : 0 ≤ s ∧ s < 6) (ht : t s = 1) (h : OrdI t nd n s f tot c mo) (hm : ¬ mo = 0) (hi : isInc nd f n s z) (hx : nxtP n f f' mo') : OrdI t nd n s f' (tot + z) (c + 1) mo' := by
  have np := msk_pop hv.1
  have n6 := sm_in (f := t) (n := 6) (fun j j0 j1 => by rcases hv.1 j j0 j1 with q | q <;> omega)
  obtain ⟨⟨c0, c1, c2, c3, c4⟩, h2⟩ := h
  rcases h2 with q | ⟨-, c5, ho⟩
  · exact absurd q.1 hm
  · have hnn : n = ((oPop (msk t) : Nat) : Int) := by omega
    have d := oC_dig t (getD_mem (l := oL (msk t)) (c := c.toNat) (by omega))
    have hz : z = incV t nd s ((oL (msk t)).getD c.toNat 0) := by
      rw [hnn] at ho hi
      exact isInc_V hv (by omega) hs ht d.1 ho hi
    have zin := isInc_in (hv.2 s hs.1 hs.2 ht) hi
    refine ⟨⟨by omega, by omega, ?_, by omega, by omega⟩, ?_⟩
    · rw [show (c + 1).toNat = c.toNat + 1 by omega, take_s (by omega), totV_app, c2, hz]
    · by_cases e : c + 1 = (oL (msk t)).length
      · have l := oChn_last (c := c.toNat) (oC_chn t) (by omega)
        rw [hnn] at hx ho
        exact Or.inl ⟨oLast_next l ho hx, e⟩
      · obtain ⟨tt, g, htg⟩ := oChn_at (c := c.toNat) (oC_chn t) (by omega)
        rw [hnn] at hx ho ⊢
        have a := oTG_next htg ho hx
        exact Or.inr ⟨a.1, by omega, by rw [show (c + 1).toNat = c.toNat + 1 by omega]; exact a.2⟩
theorem OrdI_end {t nd f : Int → Int} {n s tot c mo : Int} (hv : TpV t nd) (hs : 0 ≤ s ∧ s < 6) (ht : t s = 1) (h : OrdI t nd n s f tot c mo) (ho : mo = 0 ∨ 720 ≤ c) : 1 ≤ c ∧ tot / c = shR t nd (nd s).toNat := by
  have l := oC_len (msk t) (msk_lt t)
  obtain ⟨⟨c0, c1, c2, c3, c4⟩, h2⟩ := h
  have e : c = (oL (msk t)).length := by
    rcases h2 with q | q
    · exact q.2
    · omega
  refine ⟨by omega, ?_⟩
  rw [c2, show c.toNat = (oL (msk t)).length by omega, List.take_length, totV_all hv hs ht, ← e, Int.mul_ediv_cancel_left _ (by omega)]
def IncK (nd f : Int → Int) (s pl g : Int) : Prop := 0 ≤ g ∧ g ≤ 20 ∧ (∀ j, 0 ≤ j → j < pl → nd (f j) ≤ g) ∧ (g = 0 ∨ ∃ j, 0 ≤ j ∧ j < pl ∧ nd (f j) = g) ∧ ∀ j, 0 ≤ j → j < pl → f j ≠ s
theorem IncK_0 {nd f : Int → Int} {s : Int} : IncK nd f s 0 0 := ⟨by decide, by decide, fun j h0 h1 => absurd h1 (by omega), Or.inl rfl, fun j h0 h1 => absurd h1 (by omega)⟩
theorem IncK_s {nd f : Int → Int} {s pl g : Int} (p0 : 0 ≤ pl) (h : IncK nd f s pl g) (hr : 0 ≤ nd (f pl) ∧ nd (f pl) ≤ 20) (hne : ¬ f pl = s) : IncK nd f s (pl + 1) (max g (nd (f pl))) := by
  obtain ⟨h0, h1, h2, h3, h4⟩ := h
  refine ⟨by omega, by omega, fun j j0 j1 => ?_, ?_, fun j j0 j1 => ?_⟩
  · by_cases e : j = pl
    · subst e; omega
    · have := h2 j j0 (by omega); omega
  · by_cases c : nd (f pl) ≤ g
    · rw [Int.max_eq_left c]
      rcases h3 with q | ⟨j, j0, j1, j2⟩
      · exact Or.inl q
      · exact Or.inr ⟨j, j0, by omega, j2⟩
    · rw [Int.max_eq_right (by omega)]
      exact Or.inr ⟨pl, p0, by omega, rfl⟩
  · by_cases e : j = pl
    · subst e; exact hne
    · exact h4 j j0 (by omega)
theorem sm_mono_len {t : Int → Int} (ht : ∀ j, 0 ≤ j → j < 6 → t j = 0 ∨ t j = 1) {a b : Int} (a0 : 0 ≤ a) (ab : a < b) (b1 : b ≤ 6) (h : t a = 1) : sm t a.toNat < sm t b.toNat := by
  have hk : ∀ k : Nat, a + 1 + k ≤ 6 → sm t a.toNat + 1 ≤ sm t (a + 1 + k).toNat := by
    intro k
    induction k with
    | zero =>
      intro _
      rw [show (a + 1 + (0 : Nat)).toNat = a.toNat + 1 by omega]
      show sm t a.toNat + 1 ≤ sm t a.toNat + t (a.toNat : Int)
      rw [show ((a.toNat : Nat) : Int) = a by omega, h]
      omega
    | succ k ih =>
      intro hk
      rw [show (a + 1 + (k + 1 : Nat)).toNat = (a + 1 + k).toNat + 1 by omega]
      have e : sm t ((a + 1 + k).toNat + 1) = sm t (a + 1 + k).toNat + t ((a + 1 + k).toNat : Int) := rfl
      have i := ih (by omega)
      have q := ht ((a + 1 + k).toNat : Int) (by omega) (by omega)
      omega
  have := hk (b - a - 1).toNat (by omega)
  rw [show a + 1 + ((b - a - 1).toNat : Int) = b by omega] at this
  omega
theorem isFst_step {t f : Int → Int} {i : Int} (i0 : 0 ≤ i) (i1 : i < 6) (ht : ∀ j, 0 ≤ j → j < 6 → t j = 0 ∨ t j = 1) (h : ∀ j, 0 ≤ j → j < i → t j = 1 → f (sm t j.toNat) = j) : ∀ j, 0 ≤ j → j < i + 1 → t j = 1 → zU f (sm t i.toNat) i (sm t j.toNat) = j := by
  intro j j0 j1 hj
  by_cases e : j = i
  · subst e
    exact zU_same _ _ _
  · have a := sm_mono_len (t := t) ht (a := j) (b := i) j0 (by omega) (by omega) hj
    rw [zU_ne (by omega)]
    exact h j j0 (by omega) hj
theorem left_uniq {nd mo : Int → Int} {cnt : Int} : ∀ {k k' : Nat} {t t1 t2 : Int → Int}, isLeft nd mo cnt k t t1 → isLeft nd mo cnt k' t t2 → ∀ j, 0 ≤ j → j < 6 → t1 j = t2 j
  | 0, 0, t, t1, t2, h, h' => fun j j0 j1 => by rw [h.2 j j0 j1, h'.2 j j0 j1]
  | 0, k + 1, t, t1, t2, h, h' => by
    obtain ⟨z, z0, z1, -⟩ := h'
    have := isPoor_uniq h.1 z1
    omega
  | k + 1, 0, t, t1, t2, h, h' => by
    obtain ⟨z, z0, z1, -⟩ := h
    have := isPoor_uniq h'.1 z1
    omega
  | k + 1, k' + 1, t, t1, t2, h, h' => by
    obtain ⟨z, z0, z1, z2⟩ := h
    obtain ⟨y, y0, y1, y2⟩ := h'
    have := isPoor_uniq z1 y1
    subst this
    exact left_uniq z2 y2
theorem left_step {nd mo t t9 : Int → Int} {cnt z rd : Int} (z0 : 0 ≤ z) (r0 : 0 ≤ rd) (hz : isPoor t9 nd mo cnt z) (h : ∀ k t', isLeft nd mo cnt k t9 t' → isLeft nd mo cnt (k + rd.toNat) t t') : ∀ k t', isLeft nd mo cnt k (zU t9 z 0) t' → isLeft nd mo cnt (k + (rd + 1).toNat) t t' := by
  intro k t' g
  have := h (k + 1) t' ⟨z, z0, hz, g⟩
  rw [show k + (rd + 1).toNat = k + 1 + rd.toNat by omega]
  exact this
theorem TpV_drop {t nd : Int → Int} {z : Int} (h : TpV t nd) : TpV (zU t z 0) nd := by
  refine ⟨fun j j0 j1 => ?_, fun j j0 j1 hj => ?_⟩
  · by_cases e : j = z
    · rw [e, zU_same]
      exact Or.inl rfl
    · rw [zU_ne e]
      exact h.1 j j0 j1
  · by_cases e : j = z
    · rw [e, zU_same] at hj
      exact absurd hj (by decide)
    · rw [zU_ne e] at hj
      exact h.2 j j0 j1 hj
theorem drop_cnt {t : Int → Int} {z : Int} (z0 : 0 ≤ z) (z1 : z < 6) (h : t z = 1) : sm (zU t z 0) 6 = sm t 6 - 1 := by
  rw [sm_up z0 (by omega), h]
  omega
theorem none_left {t nd mo : Int → Int} {cnt z : Int} (hv : TpV t nd) (hc : cnt ≤ 6) (h : isPoor t nd mo cnt z) (hs : sm t 6 ≤ 0) : z = -1 := by
  rcases h with q | ⟨z0, z1, z2, -⟩
  · exact q.1
  · have := sm_lt (f := fun _ => 0) (g := t) (k := z) z0 (n := 6) (by omega) (by show (0 : Int) + 1 ≤ t z; omega) (fun j j0 j1 => by show 0 ≤ t j; rcases hv.1 j j0 (by omega) with q | q <;> omega)
    have e : sm (fun _ => (0 : Int)) 6 = 0 := rfl
    omega
