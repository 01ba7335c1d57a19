/-! ===== shares: the cost of each step of the range, divided among those who need it ===== -/
def cntN (t nd : Int → Int) (r : Int) : Int := sm (fun j => if t j = 1 ∧ r ≤ nd j then 1 else 0) 6
def dC (r : Int) : Int := 60 * r * r - 60 * (r - 1) * (r - 1)
def shR (t nd : Int → Int) : Nat → Int
  | 0 => 0
  | n + 1 => shR t nd n + dC ((n : Int) + 1) / cntN t nd ((n : Int) + 1)
theorem b01 (p : Prop) [Decidable p] : 0 ≤ (if p then (1 : Int) else 0) ∧ (if p then (1 : Int) else 0) ≤ 1 := by
  by_cases h : p
  · rw [if_pos h]; decide
  · rw [if_neg h]; decide
theorem cntN_in (t nd : Int → Int) (r : Int) : 0 ≤ cntN t nd r ∧ cntN t nd r ≤ 6 := sm_in (n := 6) (fun _ _ _ => b01 _)
theorem cntN_pos {t nd : Int → Int} {r j : Int} (j0 : 0 ≤ j) (j1 : j < 6) (ht : t j = 1) (hr : r ≤ nd j) : 1 ≤ cntN t nd r := by
  have h := sm_lt (f := fun _ => 0) (g := fun j => if t j = 1 ∧ r ≤ nd j then 1 else 0) (k := j) j0 (n := 6) (by omega) (by show (0 : Int) + 1 ≤ (if t j = 1 ∧ r ≤ nd j then 1 else 0); rw [if_pos ⟨ht, hr⟩]; decide) (fun j _ _ => (b01 _).1)
  have h2 : sm (fun _ => 0) 6 = 0 := rfl
  unfold cntN
  omega
theorem dC_eq (r : Int) : dC r = 60 * (2 * r - 1) := by
  unfold dC
  have h : (r - 1) * (r - 1) = r * r - 2 * r + 1 := by
    rw [Int.sub_mul, Int.mul_sub, Int.one_mul, Int.mul_one]
    omega
  rw [Int.mul_assoc 60 r r, Int.mul_assoc 60 (r - 1) (r - 1), h]
  omega
theorem div60 {c x : Int} (hc : 1 ≤ c ∧ c ≤ 6) : 60 * x / c = 60 / c * x := by
  rcases (show c = 1 ∨ c = 2 ∨ c = 3 ∨ c = 4 ∨ c = 5 ∨ c = 6 by omega) with h | h | h | h | h | h <;> subst h <;> omega
/-- over a stretch where as many need the range, the shares grow by the cost's growth divided by them -/
theorem shR_jump {t nd : Int → Int} {c : Int} (hc : 1 ≤ c ∧ c ≤ 6) (a : Nat) : ∀ (k : Nat), (∀ r : Int, (a : Int) < r → r ≤ (a : Int) + k → cntN t nd r = c) → shR t nd (a + k) = shR t nd a + (60 * ((a : Int) + k) * ((a : Int) + k) - 60 * (a : Int) * (a : Int)) / c
  | 0, _ => by
    rw [show 60 * ((a : Int) + (0 : Nat)) * ((a : Int) + (0 : Nat)) - 60 * (a : Int) * (a : Int) = 0 by
      rw [show ((a : Int) + (0 : Nat)) = (a : Int) by omega]
      omega, Int.zero_ediv, Int.add_zero]
    rfl
  | k + 1, h => by
    have ih := shR_jump hc a k (fun r r0 r1 => h r r0 (by omega))
    have e : shR t nd (a + (k + 1)) = shR t nd (a + k) + dC (((a + k : Nat) : Int) + 1) / cntN t nd (((a + k : Nat) : Int) + 1) := rfl
    rw [e, ih, h _ (by omega) (by omega)]
    have sq : ∀ x : Int, 60 * x * x = 60 * (x * x) := fun x => Int.mul_assoc 60 x x
    have e2 : dC (((a + k : Nat) : Int) + 1) = 60 * (2 * ((a : Int) + k) + 1) := by
      rw [dC_eq]
      omega
    have e3 : (60 * ((a : Int) + (k + 1 : Nat)) * ((a : Int) + (k + 1 : Nat)) - 60 * (a : Int) * (a : Int)) = 60 * ((((a : Int) + k) * ((a : Int) + k) - (a : Int) * a) + (2 * ((a : Int) + k) + 1)) := by
      rw [sq, sq]
      have : ((a : Int) + (k + 1 : Nat)) = ((a : Int) + k) + 1 := by omega
      rw [this]
      have m : (((a : Int) + k) + 1) * (((a : Int) + k) + 1) = ((a : Int) + k) * ((a : Int) + k) + (2 * ((a : Int) + k) + 1) := by
        rw [Int.add_mul, Int.mul_add, Int.mul_one, Int.one_mul]
        omega
      rw [m]
      omega
    have e4 : (60 * ((a : Int) + k) * ((a : Int) + k) - 60 * (a : Int) * (a : Int)) = 60 * (((a : Int) + k) * ((a : Int) + k) - (a : Int) * a) := by
      rw [sq, sq]
      omega
    rw [e2, e3, e4, div60 hc, div60 hc, div60 hc, Int.mul_add (60 / c) (((a : Int) + k) * ((a : Int) + k) - (a : Int) * a), Int.add_assoc]
theorem shR_in (t nd : Int → Int) : ∀ n : Nat, n ≤ 20 → 0 ≤ shR t nd n ∧ shR t nd n ≤ 2340 * n
  | 0, _ => ⟨Int.le_refl 0, Int.le_refl _⟩
  | n + 1, hn => by
    have ih := shR_in t nd n (by omega)
    have hc := cntN_in t nd ((n : Int) + 1)
    have hd := dC_eq ((n : Int) + 1)
    have h1 : 0 ≤ dC ((n : Int) + 1) / cntN t nd ((n : Int) + 1) := Int.ediv_nonneg (by omega) hc.1
    have h2 : dC ((n : Int) + 1) / cntN t nd ((n : Int) + 1) ≤ dC ((n : Int) + 1) := Int.ediv_le_self _ (by omega)
    show 0 ≤ shR t nd n + dC ((n : Int) + 1) / cntN t nd ((n : Int) + 1) ∧ shR t nd n + dC ((n : Int) + 1) / cntN t nd ((n : Int) + 1) ≤ 2340 * ((n + 1 : Nat) : Int)
    omega
/-- who takes part: 0 or 1; the needs of those 0 to 20 -/
def TpV (t nd : Int → Int) : Prop := (∀ j, 0 ≤ j → j < 6 → t j = 0 ∨ t j = 1) ∧ ∀ j, 0 ≤ j → j < 6 → t j = 1 → 0 ≤ nd j ∧ nd j ≤ 20
def isGr (t nd : Int → Int) (g : Int) : Prop := 0 ≤ g ∧ g ≤ 20 ∧ (∀ j, 0 ≤ j → j < 6 → t j = 1 → nd j ≤ g) ∧ (g = 0 ∨ ∃ j, 0 ≤ j ∧ j < 6 ∧ t j = 1 ∧ nd j = g)
theorem isGr_uniq {t nd : Int → Int} {g g' : Int} (h : isGr t nd g) (h' : isGr t nd g') : g = g' := by
  obtain ⟨h1, -, h2, h3⟩ := h
  obtain ⟨g1, -, g2, g3⟩ := h'
  have a : g ≤ g' := by
    rcases h3 with q | ⟨j, j0, j1, j2, j3⟩
    · omega
    · rw [← j3]; exact g2 j j0 j1 j2
  have b : g' ≤ g := by
    rcases g3 with q | ⟨j, j0, j1, j2, j3⟩
    · omega
    · rw [← j3]; exact h2 j j0 j1 j2
  omega
/-- the shares, divided up to a range -/
def DvS (t nd : Int → Int) (paid : Int) (s : Int → Int) : Prop := ∀ j, 0 ≤ j → j < 6 → s j = if t j = 1 then shR t nd (min paid (nd j)).toNat else -1
def covN (t nd : Int → Int) (paid : Int) : Int := sm (fun j => if t j = 1 ∧ nd j ≤ paid then 1 else 0) 6
theorem DvS_0 {t nd s : Int → Int} (hv : TpV t nd) (h : ∀ j, 0 ≤ j → j < 6 → s j = if t j = 1 then 0 else -1) : DvS t nd 0 s := by
  intro j j0 j1
  rw [h j j0 j1]
  by_cases ht : t j = 1
  · rw [if_pos ht, if_pos ht]
    have := hv.2 j j0 j1 ht
    rw [show (min 0 (nd j)).toNat = 0 by omega]
    rfl
  · rw [if_neg ht, if_neg ht]
/-- the least need above what is paid -/
def isNx (t nd : Int → Int) (paid nx : Int) : Prop := paid < nx ∧ (∀ j, 0 ≤ j → j < 6 → t j = 1 → nd j ≤ paid ∨ nx ≤ nd j) ∧ ∃ j, 0 ≤ j ∧ j < 6 ∧ t j = 1 ∧ nd j = nx
theorem DvS_step {t nd s s' : Int → Int} {paid nx : Int} (p0 : 0 ≤ paid) (hv : TpV t nd) (h : DvS t nd paid s) (hn : isNx t nd paid nx) (hs : ∀ j, 0 ≤ j → j < 6 → s' j = if t j = 1 ∧ nx ≤ nd j then s j + (60 * nx * nx - 60 * paid * paid) / cntN t nd nx else s j) : DvS t nd nx s' := by
  obtain ⟨n1, n2, k, k0, k1, k2, k3⟩ := hn
  have hc := cntN_in t nd nx
  have hc1 := cntN_pos (nd := nd) (r := nx) k0 k1 k2 (by omega)
  have same : ∀ r : Int, paid < r → r ≤ nx → cntN t nd r = cntN t nd nx := by
    intro r r0 r1
    refine sm_congr (fun j j0 j1 => ?_)
    show (if t j = 1 ∧ r ≤ nd j then (1 : Int) else 0) = if t j = 1 ∧ nx ≤ nd j then 1 else 0
    by_cases ht : t j = 1
    · rcases n2 j j0 (by omega) ht with q | q
      · rw [if_neg (by omega), if_neg (by omega)]
      · rw [if_pos (by omega), if_pos (by omega)]
    · rw [if_neg (fun z => ht z.1), if_neg (fun z => ht z.1)]
  have jump := shR_jump (t := t) (nd := nd) (c := cntN t nd nx) ⟨hc1, hc.2⟩ paid.toNat (nx - paid).toNat (fun r r0 r1 => same r (by omega) (by omega))
  rw [show paid.toNat + (nx - paid).toNat = nx.toNat by omega, show ((paid.toNat : Int) + ((nx - paid).toNat : Int)) = nx by omega, show (paid.toNat : Int) = paid by omega] at jump
  intro j j0 j1
  rw [hs j j0 j1, h j j0 j1]
  by_cases ht : t j = 1
  · rw [if_pos ht, if_pos ht]
    rcases n2 j j0 j1 ht with q | q
    · rw [if_neg (by omega), show min paid (nd j) = nd j by omega, show min nx (nd j) = nd j by omega]
    · rw [if_pos ⟨ht, q⟩, show min paid (nd j) = paid by omega, show min nx (nd j) = nx by omega, jump]
  · rw [if_neg ht, if_neg ht, if_neg (fun z => ht z.1)]
theorem cov_step {t nd : Int → Int} {paid nx : Int} (hn : isNx t nd paid nx) : covN t nd paid + 1 ≤ covN t nd nx := by
  obtain ⟨n1, n2, k, k0, k1, k2, k3⟩ := hn
  refine sm_lt (k := k) k0 (by omega) ?_ (fun j j0 j1 => ?_)
  · show (if t k = 1 ∧ nd k ≤ paid then (1 : Int) else 0) + 1 ≤ if t k = 1 ∧ nd k ≤ nx then 1 else 0
    rw [if_neg (by omega), if_pos (by omega)]
    decide
  · show (if t j = 1 ∧ nd j ≤ paid then (1 : Int) else 0) ≤ if t j = 1 ∧ nd j ≤ nx then 1 else 0
    by_cases z : t j = 1 ∧ nd j ≤ paid
    · rw [if_pos z, if_pos (by omega)]
      decide
    · rw [if_neg z]
      exact (b01 _).1
theorem cov_full {t nd : Int → Int} {paid g : Int} (hg : isGr t nd g) (hp : 0 ≤ paid) (h : 6 ≤ covN t nd paid) : g ≤ paid := by
  have h6 := sm_in (f := fun j => if t j = 1 ∧ nd j ≤ paid then 1 else 0) (n := 6) (fun _ _ _ => b01 _)
  have all := sm_all (f := fun j => if t j = 1 ∧ nd j ≤ paid then 1 else 0) (n := 6) (fun _ _ _ => b01 _) (by unfold covN at h; omega)
  rcases hg.2.2.2 with q | ⟨j, j0, j1, j2, j3⟩
  · omega
  · have a := all j j0 (by omega)
    by_cases z : t j = 1 ∧ nd j ≤ paid
    · omega
    · have a2 : (if t j = 1 ∧ nd j ≤ paid then (1 : Int) else 0) = 1 := a
      rw [if_neg z] at a2
      omega
/-- divided up to the greatest need: the shares -/
def isSh (t nd s : Int → Int) : Prop := ∀ j, 0 ≤ j → j < 6 → s j = if t j = 1 then shR t nd (nd j).toNat else -1
theorem DvS_end {t nd s : Int → Int} {paid g : Int} (hg : isGr t nd g) (h : DvS t nd paid s) (hp : g ≤ paid) : isSh t nd s := by
  intro j j0 j1
  rw [h j j0 j1]
  by_cases ht : t j = 1
  · rw [if_pos ht, if_pos ht]
    have := hg.2.2.1 j j0 j1 ht
    rw [show min paid (nd j) = nd j by omega]
  · rw [if_neg ht, if_neg ht]
theorem isSh_rng {t nd s : Int → Int} (hv : TpV t nd) (h : isSh t nd s) : ∀ j, 0 ≤ j → j < 6 → -1 ≤ s j ∧ s j ≤ 46800 := by
  intro j j0 j1
  rw [h j j0 j1]
  by_cases ht : t j = 1
  · rw [if_pos ht]
    have a := hv.2 j j0 j1 ht
    have := shR_in t nd (nd j).toNat (by omega)
    omega
  · rw [if_neg ht]
    omega
/-! the greatest need, place by place -/
def GrK (t nd : Int → Int) (i g : Int) : Prop := 0 ≤ g ∧ g ≤ 20 ∧ (∀ j, 0 ≤ j → j < i → t j = 1 → nd j ≤ g) ∧ (g = 0 ∨ ∃ j, 0 ≤ j ∧ j < 6 ∧ t j = 1 ∧ nd j = g)
theorem GrK_0 {t nd : Int → Int} : GrK t nd 0 0 := ⟨by decide, by decide, fun j h0 h1 => absurd h1 (by omega), Or.inl rfl⟩
theorem GrK_keep {t nd : Int → Int} {i g : Int} (h : GrK t nd i g) (hk : t i = 1 → nd i ≤ g) : GrK t nd (i + 1) g := ⟨h.1, h.2.1, fun j j0 j1 jt => by
  by_cases e : j = i
  · subst e; exact hk jt
  · exact h.2.2.1 j j0 (by omega) jt, h.2.2.2⟩
theorem GrK_take {t nd : Int → Int} {i g : Int} (hv : TpV t nd) (hi : 0 ≤ i ∧ i < 6) (h : GrK t nd i g) (ht : t i = 1) (hg : g < nd i) : GrK t nd (i + 1) (nd i) := ⟨by have := h.1; omega, (hv.2 i hi.1 hi.2 ht).2, fun j j0 j1 jt => by
  by_cases e : j = i
  · subst e; exact Int.le_refl _
  · have := h.2.2.1 j j0 (by omega) jt; omega, Or.inr ⟨i, hi.1, hi.2, ht, rfl⟩⟩
/-! the least need above what is paid, place by place -/
def NxK (t nd : Int → Int) (paid g i x : Int) : Prop := paid < x ∧ x ≤ g ∧ (∀ j, 0 ≤ j → j < i → t j = 1 → nd j ≤ paid ∨ x ≤ nd j) ∧ ∃ j, 0 ≤ j ∧ j < 6 ∧ t j = 1 ∧ nd j = x
theorem NxK_0 {t nd : Int → Int} {paid g : Int} (hg : isGr t nd g) (p0 : 0 ≤ paid) (h : paid < g) : NxK t nd paid g 0 g := ⟨h, Int.le_refl _, fun j h0 h1 => absurd h1 (by omega), by
  rcases hg.2.2.2 with q | q
  · omega
  · exact q⟩
theorem NxK_keep {t nd : Int → Int} {paid g i x : Int} (h : NxK t nd paid g i x) (hk : t i = 1 → nd i ≤ paid ∨ x ≤ nd i) : NxK t nd paid g (i + 1) x := ⟨h.1, h.2.1, fun j j0 j1 jt => by
  by_cases e : j = i
  · subst e; exact hk jt
  · exact h.2.2.1 j j0 (by omega) jt, h.2.2.2⟩
theorem NxK_take {t nd : Int → Int} {paid g i x : Int} (hi : 0 ≤ i ∧ i < 6) (h : NxK t nd paid g i x) (ht : t i = 1) (h1 : paid < nd i) (h2 : nd i < x) : NxK t nd paid g (i + 1) (nd i) := ⟨h1, by have := h.2.1; omega, fun j j0 j1 jt => by
  by_cases e : j = i
  · subst e; exact Or.inr (Int.le_refl _)
  · have := h.2.2.1 j j0 (by omega) jt; omega, ⟨i, hi.1, hi.2, ht, rfl⟩⟩
/-! who cannot pay -/
def isPoor (t nd mo : Int → Int) (cnt z : Int) : Prop := (z = -1 ∧ ∀ j, 0 ≤ j → j < cnt → ¬ (t j = 1 ∧ mo j < shR t nd (nd j).toNat)) ∨ (0 ≤ z ∧ z < cnt ∧ t z = 1 ∧ mo z < shR t nd (nd z).toNat ∧ ∀ j, 0 ≤ j → j < z → ¬ (t j = 1 ∧ mo j < shR t nd (nd j).toNat))
theorem isPoor_uniq {t nd mo : Int → Int} {cnt z z' : Int} (h : isPoor t nd mo cnt z) (h' : isPoor t nd mo cnt z') : z = z' := by
  rcases h with ⟨a, b⟩ | ⟨a1, a2, a3, a4, a5⟩
  · rcases h' with ⟨c, d⟩ | ⟨c1, c2, c3, c4, c5⟩
    · omega
    · exact absurd ⟨c3, c4⟩ (b z' c1 c2)
  · rcases h' with ⟨c, d⟩ | ⟨c1, c2, c3, c4, c5⟩
    · exact absurd ⟨a3, a4⟩ (d z a1 a2)
    · rcases Int.lt_trichotomy z z' with q | q | q
      · exact absurd ⟨a3, a4⟩ (c5 z a1 q)
      · exact q
      · exact absurd ⟨c3, c4⟩ (a5 z' c1 q)
/-- those that are left: somebody after the other leaves, the first who cannot pay, until all can -/
def isLeft (nd mo : Int → Int) (cnt : Int) : Nat → (Int → Int) → (Int → Int) → Prop
  | 0, t, t' => isPoor t nd mo cnt (-1) ∧ ∀ j, 0 ≤ j → j < 6 → t' j = t j
  | k + 1, t, t' => ∃ z, 0 ≤ z ∧ isPoor t nd mo cnt z ∧ isLeft nd mo cnt k (zU t z 0) t'
theorem cost_mono {a b : Int} (a0 : 0 ≤ a) (ab : a ≤ b) (b1 : b ≤ 20) : 0 ≤ 60 * a * a ∧ 60 * a * a ≤ 60 * b * b ∧ 60 * b * b ≤ 24000 := by
  have h1 : a * a ≤ b * b := Int.mul_le_mul ab ab a0 (by omega)
  have h2 : b * b ≤ 20 * 20 := Int.mul_le_mul b1 b1 (by omega) (by omega)
  have h3 : 0 ≤ a * a := Int.mul_nonneg a0 a0
  rw [Int.mul_assoc, Int.mul_assoc]
  omega
theorem div_in {x c : Int} (hx : 0 ≤ x) (hc : 1 ≤ c) : 0 ≤ x / c ∧ x / c ≤ x := ⟨Int.ediv_nonneg hx (by omega), Int.ediv_le_self _ hx⟩
