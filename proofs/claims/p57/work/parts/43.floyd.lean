/-! ===== all pairs of ports at once: the reference's way ===== -/
/-- a shortest route has at most 9 legs of at most 99 -/
theorem isD_bound {E : Int → Int → Int → Prop} {i j d ports : Int} (hp : ports ≤ 10) (hE : egOk E ports) (hi : 0 ≤ i ∧ i < 10) (hc : cn E i j) (h : isD E i j d) : d ≤ 990 := by
  obtain ⟨-, φ, hf, hd⟩ := h
  refine Classical.byContradiction fun hbig => ?_
  have hcnt : ∀ m : Nat, m ≤ 10 → (m : Int) + 1 ≤ sm (fun x => if φ x ≤ φ i + 99 * m then 1 else 0) 10 := by
    intro m
    induction m with
    | zero =>
      intro _
      have a := sm_lt (f := fun _ => 0) (g := fun x => if φ x ≤ φ i + 99 * ((0 : Nat) : Int) then 1 else 0) (k := i) hi.1 (n := 10) (by omega) (by show (0 : Int) + 1 ≤ (if φ i ≤ φ i + 99 * ((0 : Nat) : Int) then 1 else 0); rw [if_pos (by omega)]; decide) (fun x _ _ => by show (0 : Int) ≤ (if φ x ≤ φ i + 99 * ((0 : Nat) : Int) then 1 else 0); split <;> decide)
      have b : sm (fun _ => (0 : Int)) 10 = 0 := rfl
      omega
    | succ m ih =>
      intro hm
      have a := ih (by omega)
      have hx : ∃ x, 0 ≤ x ∧ x < 10 ∧ φ i + 99 * (m : Int) < φ x ∧ φ x ≤ φ i + 99 * ((m + 1 : Nat) : Int) := by
        refine Classical.byContradiction fun hno => ?_
        have hcut := hc (fun x => if φ x ≤ φ i + 99 * (m : Int) then 0 else 1) (fun a b w e => by
          have e1 := hE.1 a b w e
          have f1 := hf a b w e
          have f2 := hf b a w (hE.2 a b w e)
          have na : ¬ (φ i + 99 * (m : Int) < φ a ∧ φ a ≤ φ i + 99 * ((m + 1 : Nat) : Int)) := fun z => hno ⟨a, by omega, by omega, z.1, z.2⟩
          have nb : ¬ (φ i + 99 * (m : Int) < φ b ∧ φ b ≤ φ i + 99 * ((m + 1 : Nat) : Int)) := fun z => hno ⟨b, by omega, by omega, z.1, z.2⟩
          show (if φ a ≤ φ i + 99 * (m : Int) then (0 : Int) else 1) = if φ b ≤ φ i + 99 * (m : Int) then 0 else 1
          by_cases za : φ a ≤ φ i + 99 * (m : Int)
          · rw [if_pos za, if_pos (by omega)]
          · rw [if_neg za, if_neg (by omega)])
        have hcut2 : (if φ i ≤ φ i + 99 * (m : Int) then (0 : Int) else 1) = if φ j ≤ φ i + 99 * (m : Int) then 0 else 1 := hcut
        rw [if_pos (by omega), if_neg (by omega)] at hcut2
        exact absurd hcut2 (by decide)
      obtain ⟨x, x0, x1, x2, x3⟩ := hx
      have b := sm_lt (f := fun x => if φ x ≤ φ i + 99 * (m : Int) then 1 else 0) (g := fun x => if φ x ≤ φ i + 99 * ((m + 1 : Nat) : Int) then 1 else 0) (k := x) x0 (n := 10) (by omega)
        (by show (if φ x ≤ φ i + 99 * (m : Int) then (1 : Int) else 0) + 1 ≤ (if φ x ≤ φ i + 99 * ((m + 1 : Nat) : Int) then 1 else 0); rw [if_neg (by omega), if_pos x3]; decide)
        (fun y _ _ => by
          show (if φ y ≤ φ i + 99 * (m : Int) then (1 : Int) else 0) ≤ (if φ y ≤ φ i + 99 * ((m + 1 : Nat) : Int) then 1 else 0)
          by_cases z : φ y ≤ φ i + 99 * (m : Int)
          · rw [if_pos z, if_pos (by omega)]
            decide
          · rw [if_neg z]
            split <;> decide)
      omega
  have h10 := hcnt 10 (Nat.le_refl _)
  have hin := sm_in (f := fun x => if φ x ≤ φ i + 99 * ((10 : Nat) : Int) then 1 else 0) (n := 10) (fun x _ _ => by
    show 0 ≤ (if φ x ≤ φ i + 99 * ((10 : Nat) : Int) then (1 : Int) else 0) ∧ (if φ x ≤ φ i + 99 * ((10 : Nat) : Int) then (1 : Int) else 0) ≤ 1
    split <;> decide)
  omega
def OpOk (op : Int → Int → Int) : Prop := (∀ x, 0 ≤ x → op 0 x = x ∧ op x 0 = x) ∧ (∀ x y, 0 ≤ x → 0 ≤ y → x ≤ op x y ∧ y ≤ op x y) ∧ (∀ x x' y y', x ≤ x' → y ≤ y' → op x y ≤ op x' y') ∧ (∀ x y z, op (op x y) z = op x (op y z))
def iadd (x y : Int) : Int := x + y
theorem OpOk_add : OpOk iadd := ⟨fun x _ => ⟨Int.zero_add x, Int.add_zero x⟩, fun x y h1 h2 => by unfold iadd; omega, fun x x' y y' h1 h2 => by unfold iadd; omega, fun x y z => Int.add_assoc x y z⟩
theorem OpOk_max : OpOk max := ⟨fun x h => by omega, fun x y h1 h2 => by omega, fun x x' y y' h1 h2 => by omega, fun x y z => by omega⟩
/-- a stage of the improving, places below p done -/
def FlS (op : Int → Int → Int) (k p : Int) (w0 w : Int → Int) : Prop := ∀ a b, 0 ≤ a → a < 10 → 0 ≤ b → b < 10 → w (10 * a + b) = if 10 * a + b < p then min (w0 (10 * a + b)) (op (w0 (10 * a + k)) (w0 (10 * k + b))) else w0 (10 * a + b)
def FlM (w : Int → Int) : Prop := (∀ a, 0 ≤ a → a < 10 → w (10 * a + a) = 0) ∧ ∀ a b, 0 ≤ a → a < 10 → 0 ≤ b → b < 10 → 0 ≤ w (10 * a + b) ∧ w (10 * a + b) ≤ 100000
def FlT (op : Int → Int → Int) (P : Int → Int → Int → Prop) (i0 : Int → Int) (k : Int) (w : Int → Int) : Prop :=
  FlM w ∧ (∀ a b, 0 ≤ a → a < 10 → 0 ≤ b → b < 10 → P a b (w (10 * a + b))) ∧ (∀ a b, 0 ≤ a → a < 10 → 0 ≤ b → b < 10 → w (10 * a + b) ≤ i0 (10 * a + b)) ∧
  ∀ j a b, 0 ≤ j → j < k → 0 ≤ a → a < 10 → 0 ≤ b → b < 10 → w (10 * a + b) ≤ op (w (10 * a + j)) (w (10 * j + b))
theorem FlS_0 {op : Int → Int → Int} {k : Int} {w : Int → Int} : FlS op k 0 w w := by
  intro a b a0 a1 b0 b1
  rw [if_neg (by omega)]
theorem FlS_row {op : Int → Int → Int} (ho : OpOk op) {k p : Int} {w0 w : Int → Int} (hk : 0 ≤ k ∧ k < 10) (hm : FlM w0) (h : FlS op k p w0 w) {a : Int} (a0 : 0 ≤ a) (a1 : a < 10) : w (10 * a + k) = w0 (10 * a + k) := by
  rw [h a k a0 a1 hk.1 hk.2]
  by_cases z : 10 * a + k < p
  · rw [if_pos z, hm.1 k hk.1 hk.2, (ho.1 _ (hm.2 a k a0 a1 hk.1 hk.2).1).2]
    omega
  · rw [if_neg z]
theorem FlS_col {op : Int → Int → Int} (ho : OpOk op) {k p : Int} {w0 w : Int → Int} (hk : 0 ≤ k ∧ k < 10) (hm : FlM w0) (h : FlS op k p w0 w) {b : Int} (b0 : 0 ≤ b) (b1 : b < 10) : w (10 * k + b) = w0 (10 * k + b) := by
  rw [h k b hk.1 hk.2 b0 b1]
  by_cases z : 10 * k + b < p
  · rw [if_pos z, hm.1 k hk.1 hk.2, (ho.1 _ (hm.2 k b hk.1 hk.2 b0 b1).1).1]
    omega
  · rw [if_neg z]
theorem FlS_step {op : Int → Int → Int} (ho : OpOk op) {k p : Int} {w0 w : Int → Int} (hk : 0 ≤ k ∧ k < 10) (hp : 0 ≤ p ∧ p < 100) (hm : FlM w0) (h : FlS op k p w0 w) : FlS op k (p + 1) w0 (zU w p (min (w p) (op (w (10 * (p / 10) + k)) (w (10 * k + p % 10))))) := by
  intro a b a0 a1 b0 b1
  by_cases e : 10 * a + b = p
  · have ea : p / 10 = a := by omega
    have eb : p % 10 = b := by omega
    rw [e, zU_same, if_pos (by omega), ea, eb, FlS_row ho hk hm h a0 a1, FlS_col ho hk hm h b0 b1, ← e, h a b a0 a1 b0 b1, if_neg (by omega)]
  · rw [zU_ne e, h a b a0 a1 b0 b1]
    by_cases z : 10 * a + b < p
    · rw [if_pos z, if_pos (by omega)]
    · rw [if_neg z, if_neg (by omega)]
/-- an entry that is looked up in a stage lies in its bounds -/
theorem FlS_in {op : Int → Int → Int} (ho : OpOk op) {k p : Int} {w0 w : Int → Int} (hk : 0 ≤ k ∧ k < 10) (hm : FlM w0) (h : FlS op k p w0 w) {j : Int} (j0 : 0 ≤ j) (j1 : j < 100) : 0 ≤ w j ∧ w j ≤ 100000 := by
  have h1 := h (j / 10) (j % 10) (by omega) (by omega) (by omega) (by omega)
  have m1 := hm.2 (j / 10) (j % 10) (by omega) (by omega) (by omega) (by omega)
  have m2 := hm.2 (j / 10) k (by omega) (by omega) hk.1 hk.2
  have m3 := hm.2 k (j % 10) hk.1 hk.2 (by omega) (by omega)
  have m4 := ho.2.1 _ _ m2.1 m3.1
  rw [show 10 * (j / 10) + j % 10 = j by omega] at h1 m1
  rw [h1]
  by_cases z : j < p
  · rw [if_pos z]
    omega
  · rw [if_neg z]
    exact m1
theorem FlT_step {op : Int → Int → Int} (ho : OpOk op) {P : Int → Int → Int → Prop} (hP : ∀ a b k x y, 0 ≤ x → 0 ≤ y → P a k x → P k b y → P a b (op x y)) {i0 w0 w : Int → Int} {k : Int} (hk : 0 ≤ k ∧ k < 10) (h0 : FlT op P i0 k w0) (h : FlS op k 100 w0 w) : FlT op P i0 (k + 1) w := by
  obtain ⟨hm, hs, hi, ht⟩ := h0
  have hw : ∀ a b, 0 ≤ a → a < 10 → 0 ≤ b → b < 10 → w (10 * a + b) = min (w0 (10 * a + b)) (op (w0 (10 * a + k)) (w0 (10 * k + b))) := by
    intro a b a0 a1 b0 b1
    rw [h a b a0 a1 b0 b1, if_pos (by omega)]
  refine ⟨⟨?_, ?_⟩, ?_, ?_, ?_⟩
  · intro a a0 a1
    have m2 := hm.2 a k a0 a1 hk.1 hk.2
    have m3 := hm.2 k a hk.1 hk.2 a0 a1
    have m4 := ho.2.1 _ _ m2.1 m3.1
    rw [hw a a a0 a1 a0 a1, hm.1 a a0 a1]
    omega
  · intro a b a0 a1 b0 b1
    exact FlS_in ho hk hm h (by omega) (by omega)
  · intro a b a0 a1 b0 b1
    rw [hw a b a0 a1 b0 b1]
    by_cases z : w0 (10 * a + b) ≤ op (w0 (10 * a + k)) (w0 (10 * k + b))
    · rw [Int.min_eq_left z]
      exact hs a b a0 a1 b0 b1
    · rw [Int.min_eq_right (by omega)]
      exact hP a b k _ _ (hm.2 a k a0 a1 hk.1 hk.2).1 (hm.2 k b hk.1 hk.2 b0 b1).1 (hs a k a0 a1 hk.1 hk.2) (hs k b hk.1 hk.2 b0 b1)
  · intro a b a0 a1 b0 b1
    have := hi a b a0 a1 b0 b1
    rw [hw a b a0 a1 b0 b1]
    omega
  · intro j a b j0 j1 a0 a1 b0 b1
    by_cases e : j = k
    · subst e
      rw [FlS_row ho hk hm h a0 a1, FlS_col ho hk hm h b0 b1, hw a b a0 a1 b0 b1]
      omega
    · have jk : j < k := by omega
      have t1 := ht j a b j0 jk a0 a1 b0 b1
      have t2 := ht j k b j0 jk hk.1 hk.2 b0 b1
      have t3 := ht j a k j0 jk a0 a1 hk.1 hk.2
      have mak := (hm.2 a k a0 a1 hk.1 hk.2).1
      have mkb := (hm.2 k b hk.1 hk.2 b0 b1).1
      have mkj := (hm.2 k j hk.1 hk.2 j0 (by omega)).1
      have mjk := (hm.2 j k j0 (by omega) hk.1 hk.2).1
      have maj := (hm.2 a j a0 a1 j0 (by omega)).1
      have mjb := (hm.2 j b j0 (by omega) b0 b1).1
      rw [hw a b a0 a1 b0 b1, hw a j a0 a1 j0 (by omega), hw j b j0 (by omega) b0 b1]
      generalize w0 (10 * a + b) = ab at *
      generalize w0 (10 * a + j) = aj at *
      generalize w0 (10 * j + b) = jb at *
      generalize w0 (10 * a + k) = ak at *
      generalize w0 (10 * k + b) = kb at *
      generalize w0 (10 * k + j) = kj at *
      generalize w0 (10 * j + k) = jk' at *
      have goal2 : op ak kb ≤ op (op ak kj) jb := by
        rw [ho.2.2.2]
        exact ho.2.2.1 _ _ _ _ (Int.le_refl _) t2
      have goal3 : op ak kb ≤ op aj (op jk' kb) := by
        rw [← ho.2.2.2]
        exact ho.2.2.1 _ _ _ _ t3 (Int.le_refl _)
      have goal4 : op ak kb ≤ op (op ak kj) (op jk' kb) := ho.2.2.1 _ _ _ _ (ho.2.1 _ _ mak mkj).1 (ho.2.1 _ _ mjk mkb).2
      by_cases z1 : aj ≤ op ak kj
      · rw [Int.min_eq_left z1]
        by_cases z2 : jb ≤ op jk' kb
        · rw [Int.min_eq_left z2]
          omega
        · rw [Int.min_eq_right (by omega : op jk' kb ≤ jb)]
          omega
      · rw [Int.min_eq_right (by omega : op ak kj ≤ aj)]
        by_cases z2 : jb ≤ op jk' kb
        · rw [Int.min_eq_left z2]
          omega
        · rw [Int.min_eq_right (by omega : op jk' kb ≤ jb)]
          omega
/-! the reference's legs: in both directions, three numbers each -/
def egM (ms : Int → Int) (r : Int) : Int → Int → Int → Prop := fun a b w => 0 ≤ a ∧ a < 10 ∧ 0 ≤ b ∧ b < 10 ∧ 0 < ms (7 + 3 * (10 * a + b)) ∧ w = ms (7 + 3 * (10 * a + b)) ∧ ms (8 + 3 * (10 * a + b)) ≤ r
def wayP (E : Int → Int → Int → Prop) (a b z : Int) : Prop := (0 ≤ z ∧ z ≤ 990 ∧ cn E a b ∧ isD E a b z) ∨ (z = 100000 ∧ ¬ cn E a b)
def PW (E : Int → Int → Int → Prop) : Int → Int → Int → Prop := fun a b x => x < 100000 → cn E a b ∧ ∀ φ, feas E φ → φ b ≤ φ a + x
theorem PW_op (E : Int → Int → Int → Prop) : ∀ a b k x y, 0 ≤ x → 0 ≤ y → PW E a k x → PW E k b y → PW E a b (iadd x y) := by
  intro a b k x y x0 y0 h1 h2 hlt
  unfold iadd at hlt ⊢
  have g1 := h1 (by omega)
  have g2 := h2 (by omega)
  exact ⟨cn_trans g1.1 g2.1, fun φ hf => by have := g1.2 φ hf; have := g2.2 φ hf; omega⟩
/-- the first matrix of lengths -/
def FlI (E : Int → Int → Int → Prop) (w : Int → Int) : Prop := ∀ a b, 0 ≤ a → a < 10 → 0 ≤ b → b < 10 → (a = b ∧ w (10 * a + b) = 0) ∨ (a ≠ b ∧ E a b (w (10 * a + b))) ∨ (a ≠ b ∧ w (10 * a + b) = 100000 ∧ ∀ x, ¬ E a b x)
theorem FlI_T {E : Int → Int → Int → Prop} {ports : Int} (hE : egOk E ports) {w : Int → Int} (h : FlI E w) : FlT iadd (PW E) w 0 w := by
  refine ⟨⟨fun a a0 a1 => ?_, fun a b a0 a1 b0 b1 => ?_⟩, fun a b a0 a1 b0 b1 => ?_, fun a b a0 a1 b0 b1 => Int.le_refl _, fun j a b j0 j1 => absurd j1 (by omega)⟩
  · rcases h a a a0 a1 a0 a1 with q | q | q
    · exact q.2
    · exact absurd rfl q.1
    · exact absurd rfl q.1
  · rcases h a b a0 a1 b0 b1 with q | q | q
    · omega
    · have := hE.1 _ _ _ q.2
      omega
    · omega
  · intro hlt
    rcases h a b a0 a1 b0 b1 with q | q | q
    · rw [q.1]
      exact ⟨cn_refl E b, fun φ _ => by rw [q.1] at q; omega⟩
    · exact ⟨cn_edge q.2, fun φ hf => hf _ _ _ q.2⟩
    · omega
theorem FlT_end {E : Int → Int → Int → Prop} {ports : Int} (hp : ports ≤ 10) (hE : egOk E ports) (hu : ∀ a b x y, E a b x → E a b y → x = y) {i0 w : Int → Int} (hi : FlI E i0) (h : FlT iadd (PW E) i0 10 w) {a b : Int} (ha : 0 ≤ a ∧ a < 10) (hb : 0 ≤ b ∧ b < 10) : wayP E a b (w (10 * a + b)) := by
  obtain ⟨hm, hs, hle, ht⟩ := h
  have hf : feas E (fun x => w (10 * a + x)) := by
    intro x y v e
    have e1 := hE.1 x y v e
    have t := ht x a y (by omega) (by omega) ha.1 ha.2 (by omega) (by omega)
    have l := hle x y (by omega) (by omega) (by omega) (by omega)
    have : i0 (10 * x + y) = v := by
      rcases hi x y (by omega) (by omega) (by omega) (by omega) with q | q | q
      · omega
      · exact hu _ _ _ _ q.2 e
      · exact absurd e (q.2.2 v)
    unfold iadd at t
    show w (10 * a + y) ≤ w (10 * a + x) + v
    omega
  have hd : ∀ x, 0 ≤ x → x < 10 → w (10 * a + x) < 100000 → cn E a x ∧ isD E a x (w (10 * a + x)) := by
    intro x x0 x1 hlt
    have s := hs a x ha.1 ha.2 x0 x1 hlt
    exact ⟨s.1, s.2, _, hf, by show w (10 * a + x) = w (10 * a + a) + w (10 * a + x); rw [hm.1 a ha.1 ha.2]; omega⟩
  by_cases z : w (10 * a + b) < 100000
  · have g := hd b hb.1 hb.2 z
    exact Or.inl ⟨(hm.2 a b ha.1 ha.2 hb.1 hb.2).1, isD_bound hp hE ha g.1 g.2, g⟩
  · refine Or.inr ⟨by have := (hm.2 a b ha.1 ha.2 hb.1 hb.2).2; omega, fun hc => ?_⟩
    have half : ∀ x y v, E x y v → w (10 * a + x) < 100000 → w (10 * a + y) < 100000 := by
      intro x y v e hlt
      have e1 := hE.1 x y v e
      have g := hd x (by omega) (by omega) hlt
      have bd := isD_bound hp hE ha g.1 g.2
      have := hf x y v e
      have f2 : w (10 * a + y) ≤ w (10 * a + x) + v := this
      omega
    have c := hc (fun x => if w (10 * a + x) < 100000 then 1 else 0) (fun x y v e => by
      show (if w (10 * a + x) < 100000 then (1 : Int) else 0) = if w (10 * a + y) < 100000 then 1 else 0
      by_cases q : w (10 * a + x) < 100000
      · rw [if_pos q, if_pos (half x y v e q)]
      · rw [if_neg q, if_neg (fun q2 => q (half y x v (hE.2 _ _ _ e) q2))])
    have c2 : (if w (10 * a + a) < 100000 then (1 : Int) else 0) = if w (10 * a + b) < 100000 then 1 else 0 := c
    rw [hm.1 a ha.1 ha.2, if_pos (by decide), if_neg z] at c2
    exact absurd c2 (by decide)
theorem wayP_dist {E : Int → Int → Int → Prop} {a b z : Int} (h : wayP E a b z) : distP E a b (if z < 100000 then z else -1) := by
  rcases h with q | q
  · rw [if_pos (by omega)]
    exact Or.inr ⟨q.1, q.2.2⟩
  · rw [if_neg (by omega)]
    exact Or.inl ⟨rfl, q.2⟩
/-! the ranges of all pairs -/
def PR (E : Int → Int → Int → Int → Prop) : Int → Int → Int → Prop := fun a b x => x < 100000 → x ≤ 20 ∧ cn (E x) a b
theorem PR_op {E : Int → Int → Int → Int → Prop} (hmon : ∀ r r' a b w, r ≤ r' → E r a b w → E r' a b w) : ∀ a b k x y, 0 ≤ x → 0 ≤ y → PR E a k x → PR E k b y → PR E a b (max x y) := by
  intro a b k x y x0 y0 h1 h2 hlt
  have g1 := h1 (by omega)
  have g2 := h2 (by omega)
  exact ⟨by omega, cn_trans (cn_mono (fun a b w e => hmon x _ a b w (by omega) e) g1.2) (cn_mono (fun a b w e => hmon y _ a b w (by omega) e) g2.2)⟩
/-- the first matrix of ranges -/
def FrI (E : Int → Int → Int → Int → Prop) (w : Int → Int) : Prop := ∀ a b, 0 ≤ a → a < 10 → 0 ≤ b → b < 10 → (a = b ∧ w (10 * a + b) = 0) ∨ (a ≠ b ∧ 1 ≤ w (10 * a + b) ∧ w (10 * a + b) ≤ 20 ∧ (∃ x, E (w (10 * a + b)) a b x) ∧ ∀ r x, E r a b x → w (10 * a + b) ≤ r) ∨ (a ≠ b ∧ w (10 * a + b) = 100000 ∧ ∀ r x, ¬ E r a b x)
theorem FrI_T {E : Int → Int → Int → Int → Prop} {w : Int → Int} (h : FrI E w) : FlT max (PR E) w 0 w := by
  refine ⟨⟨fun a a0 a1 => ?_, fun a b a0 a1 b0 b1 => ?_⟩, fun a b a0 a1 b0 b1 => ?_, fun a b a0 a1 b0 b1 => Int.le_refl _, fun j a b j0 j1 => absurd j1 (by omega)⟩
  · rcases h a a a0 a1 a0 a1 with q | q | q
    · exact q.2
    · exact absurd rfl q.1
    · exact absurd rfl q.1
  · rcases h a b a0 a1 b0 b1 with q | q | q
    · omega
    · omega
    · omega
  · intro hlt
    rcases h a b a0 a1 b0 b1 with q | q | q
    · rw [q.1]
      exact ⟨by rw [q.1] at q; omega, cn_refl _ b⟩
    · obtain ⟨x, hx⟩ := q.2.2.2.1
      exact ⟨q.2.2.1, cn_edge hx⟩
    · omega
/-- what the reference finds as a pair's least range -/
def rngP (E : Int → Int → Int → Int → Prop) (a b z : Int) : Prop := (0 ≤ z ∧ z ≤ 20 ∧ needP E a b z) ∨ (z = 100000 ∧ needP E a b (-1))
theorem FrT_end {E : Int → Int → Int → Int → Prop} {ports : Int} (hE : ∀ r, egOk (E r) ports) (hp : ports ≤ 10) (hlow : ∀ r a b w, E r a b w → 1 ≤ r) {i0 w : Int → Int} (hi : FrI E i0) (h : FlT max (PR E) i0 10 w) {a b : Int} (ha : 0 ≤ a ∧ a < 10) (hb : 0 ≤ b ∧ b < 10) (hne : a ≠ b) : rngP E a b (w (10 * a + b)) := by
  obtain ⟨hm, hs, hle, ht⟩ := h
  have key : ∀ r, cn (E r) a b → w (10 * a + b) ≤ r := by
    intro r hc
    refine Classical.byContradiction fun hgt => ?_
    by_cases r0 : 0 ≤ r
    · have half : ∀ x y v, E r x y v → w (10 * a + x) ≤ r → w (10 * a + y) ≤ r := by
        intro x y v e hx
        have e1 := (hE r).1 x y v e
        have t := ht x a y (by omega) (by omega) ha.1 ha.2 (by omega) (by omega)
        have l := hle x y (by omega) (by omega) (by omega) (by omega)
        have : i0 (10 * x + y) ≤ r := by
          rcases hi x y (by omega) (by omega) (by omega) (by omega) with q | q | q
          · omega
          · exact q.2.2.2.2 r v e
          · exact absurd e (q.2.2 r v)
        omega
      have c := hc (fun x => if w (10 * a + x) ≤ r then 1 else 0) (fun x y v e => by
        show (if w (10 * a + x) ≤ r then (1 : Int) else 0) = if w (10 * a + y) ≤ r then 1 else 0
        by_cases q : w (10 * a + x) ≤ r
        · rw [if_pos q, if_pos (half x y v e q)]
        · rw [if_neg q, if_neg (fun q2 => q (half y x v ((hE r).2 _ _ _ e) q2))])
      have c2 : (if w (10 * a + a) ≤ r then (1 : Int) else 0) = if w (10 * a + b) ≤ r then 1 else 0 := c
      rw [hm.1 a ha.1 ha.2, if_pos r0, if_neg hgt] at c2
      exact absurd c2 (by decide)
    · exact hne (hc (fun x => x) (fun x y v e => absurd (hlow r x y v e) (by omega)))
  have bd := hm.2 a b ha.1 ha.2 hb.1 hb.2
  by_cases z : w (10 * a + b) < 100000
  · have s := hs a b ha.1 ha.2 hb.1 hb.2 z
    exact Or.inl ⟨bd.1, s.1, Or.inr ⟨bd.1, s.1, s.2, fun q hq hc => absurd (key q hc) (by omega)⟩⟩
  · exact Or.inr ⟨by omega, Or.inl ⟨rfl, fun r hr hc => absurd (key r hc) (by omega)⟩⟩
theorem rngP_need {E : Int → Int → Int → Int → Prop} {a b z : Int} (h : rngP E a b z) : needP E a b (if z = 100000 then -1 else z) := by
  rcases h with q | q
  · rw [if_neg (by omega)]
    exact q.2.2
  · rw [if_pos q.1]
    exact q.2
