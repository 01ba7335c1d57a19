/-! ===== p57: legs counted by pairs of ports; firsts of groups (draft, not yet compiled) ===== -/
theorem sm_nil : ∀ n : Nat, sm (fun _ => 0) n = 0
  | 0 => rfl
  | n + 1 => by
    show sm (fun _ => 0) n + 0 = 0
    rw [sm_nil n]
    rfl
theorem sm_swap (F : Int → Int → Int) (m : Nat) : ∀ n : Nat, sm (fun a => sm (fun b => F a b) m) n = sm (fun b => sm (fun a => F a b) n) m
  | 0 => by
    show (0 : Int) = sm (fun _ => 0) m
    rw [sm_nil]
  | n + 1 => by
    show sm (fun a => sm (fun b => F a b) m) n + sm (fun b => F (n : Int) b) m = sm (fun b => sm (fun a => F a b) n + F (n : Int) b) m
    rw [sm_swap F m n, sm_add (fun b => sm (fun a => F a b) n) (fun b => F (n : Int) b)]
/-- one place alone -/
theorem sm_at {p v : Int} (p0 : 0 ≤ p) : ∀ n : Nat, sm (fun j => if j = p then v else 0) n = if p < n then v else 0
  | 0 => by
    show (0 : Int) = if p < ((0 : Nat) : Int) then v else 0
    rw [if_neg (by omega)]
  | n + 1 => by
    show sm (fun j => if j = p then v else 0) n + (if (n : Int) = p then v else 0) = if p < ((n + 1 : Nat) : Int) then v else 0
    rw [sm_at p0 n]
    by_cases e : (n : Int) = p
    · rw [if_neg (show ¬ p < (n : Int) by omega), if_pos e, if_pos (by omega)]
      omega
    · rw [if_neg e]
      by_cases g : p < (n : Int)
      · rw [if_pos g, if_pos (by omega)]
        omega
      · rw [if_neg g, if_neg (by omega)]
        rfl
/-- 1 where a leg joins a and b, a below b; else 0 -/
def lgN (legs : Int) (lower upper : Int → Int) (a b : Int) : Int := sm (fun k => if lower k = a ∧ upper k = b then 1 else 0) legs.toNat
theorem lgN_1 {legs : Int} {lower upper : Int → Int} {a b : Int} (hu : ChU legs lower upper) (hab : a < b) (h : hasL legs lower upper a b) : lgN legs lower upper a b = 1 := by
  obtain ⟨k, k0, k1, k2, k3⟩ := h
  unfold lgN
  rw [sm_congr (g := fun j => if j = k then 1 else 0) (fun j j0 j1 => ?_), sm_at k0, if_pos (by omega)]
  show (if lower j = a ∧ upper j = b then (1 : Int) else 0) = if j = k then 1 else 0
  by_cases e : j = k
  · subst e
    rw [if_pos (by omega), if_pos rfl]
  · rw [if_neg e, if_neg (fun z => e (hu j k j0 (by omega) k0 k1 (by omega) (by omega)))]
theorem lgN_0 {legs : Int} {lower upper : Int → Int} {a b : Int} (hab : a < b) (h : ¬ hasL legs lower upper a b) : lgN legs lower upper a b = 0 := by
  unfold lgN
  rw [sm_congr (g := fun _ => 0) (fun j j0 j1 => ?_), sm_nil]
  show (if lower j = a ∧ upper j = b then (1 : Int) else 0) = 0
  rw [if_neg (fun z => h ⟨j, j0, by omega, by omega, by omega⟩)]
theorem lgN_ge {ports legs : Int} {lower upper leng reach : Int → Int} {a b : Int} (hc : ChV ports legs lower upper leng reach) (hab : b ≤ a) : lgN legs lower upper a b = 0 := by
  unfold lgN
  rw [sm_congr (g := fun _ => 0) (fun j j0 j1 => ?_), sm_nil]
  have := hc.2.2.2.2.1 j j0 (by omega)
  show (if lower j = a ∧ upper j = b then (1 : Int) else 0) = 0
  rw [if_neg (by omega)]
/-- all pairs of ports together -/
theorem lgN_all {ports legs : Int} {lower upper leng reach : Int → Int} (hc : ChV ports legs lower upper leng reach) : sm (fun a => sm (fun b => lgN legs lower upper a b) ports.toNat) ports.toNat = legs := by
  have e1 : ∀ a : Int, sm (fun b => lgN legs lower upper a b) ports.toNat = sm (fun k => sm (fun b => if lower k = a ∧ upper k = b then (1 : Int) else 0) ports.toNat) legs.toNat := fun a => sm_swap (fun b k => if lower k = a ∧ upper k = b then 1 else 0) legs.toNat ports.toNat
  rw [sm_congr (f := fun a => sm (fun b => lgN legs lower upper a b) ports.toNat) (g := fun a => sm (fun k => sm (fun b => if lower k = a ∧ upper k = b then (1 : Int) else 0) ports.toNat) legs.toNat) (fun a _ _ => e1 a), sm_swap (fun a k => sm (fun b => if lower k = a ∧ upper k = b then (1 : Int) else 0) ports.toNat) legs.toNat ports.toNat]
  have e2 : ∀ k : Int, 0 ≤ k → k < legs.toNat → sm (fun a => sm (fun b => if lower k = a ∧ upper k = b then (1 : Int) else 0) ports.toNat) ports.toNat = (fun _ => 1) k := by
    intro k k0 k1
    have v := hc.2.2.2.2.1 k k0 (by omega)
    rw [sm_congr (g := fun a => if a = lower k then 1 else 0) (fun a a0 a1 => ?_), sm_at v.1, if_pos (by omega)]
    show sm (fun b => if lower k = a ∧ upper k = b then (1 : Int) else 0) ports.toNat = if a = lower k then 1 else 0
    by_cases e : a = lower k
    · rw [if_pos e, sm_congr (g := fun b => if b = upper k then 1 else 0) (fun b b0 b1 => ?_), sm_at (by omega), if_pos (by omega)]
      show (if lower k = a ∧ upper k = b then (1 : Int) else 0) = if b = upper k then 1 else 0
      by_cases g : b = upper k
      · rw [if_pos ⟨e.symm, g.symm⟩, if_pos g]
      · rw [if_neg (fun z => g z.2.symm), if_neg g]
    · rw [if_neg e, sm_congr (g := fun _ => 0) (fun b b0 b1 => ?_), sm_nil]
      show (if lower k = a ∧ upper k = b then (1 : Int) else 0) = 0
      rw [if_neg (fun z => e z.1.symm)]
  rw [sm_congr e2]
  have e3 : ∀ n : Nat, sm (fun _ => 1) n = n := by
    intro n
    induction n with
    | zero => rfl
    | succ n ih =>
      show sm (fun _ => 1) n + 1 = ((n + 1 : Nat) : Int)
      rw [ih]
      omega
  rw [e3]
  have := hc.2.2.1
  omega
/-- the first of its group so far: 1 -/
def fsP (E : Int → Int → Int → Prop) (p to f : Int) : Prop := (f = 1 ∧ ∀ q, 0 ≤ q → q < to → q < p → ¬ cn E p q) ∨ (f = 0 ∧ ∃ q, 0 ≤ q ∧ q < to ∧ q < p ∧ cn E p q)
theorem fsP_0 {E : Int → Int → Int → Prop} {p : Int} : fsP E p 0 1 := Or.inl ⟨rfl, fun q q0 q1 => absurd q1 (by omega)⟩
theorem fsP_s {E : Int → Int → Int → Prop} {p to f f' : Int} (t0 : 0 ≤ to) (h : fsP E p to f) (hf : (f' = 1 ∧ f = 1 ∧ (p ≤ to ∨ ¬ cn E p to)) ∨ (f' = 0 ∧ (f = 0 ∨ (to < p ∧ cn E p to)))) : fsP E p (to + 1) f' := by
  rcases hf with ⟨e, e1, hn⟩ | ⟨e, hn⟩
  · left
    refine ⟨e, fun q q0 q1 q2 => ?_⟩
    rcases h with ⟨-, h⟩ | ⟨h, -⟩
    · by_cases z : q = to
      · subst z
        rcases hn with y | y
        · omega
        · exact y
      · exact h q q0 (by omega) q2
    · omega
  · right
    refine ⟨e, ?_⟩
    rcases hn with e1 | ⟨h1, h2⟩
    · rcases h with ⟨h, -⟩ | ⟨-, q, q0, q1, q2, q3⟩
      · omega
      · exact ⟨q, q0, by omega, q2, q3⟩
    · exact ⟨to, t0, by omega, h1, h2⟩
/-- groups counted: a row of firsts -/
def grC (E : Int → Int → Int → Prop) (k z : Int) : Prop := ∃ mn, isMn E k mn ∧ z = sm mn k.toNat
theorem grC_0 {E : Int → Int → Int → Prop} : grC E 0 0 := ⟨fun _ => 0, fun p p0 p1 => absurd p1 (by omega), rfl⟩
theorem grC_s {E : Int → Int → Int → Prop} {k z f ports : Int} (k0 : 0 ≤ k) (hk : k < ports) (h : grC E k z) (hf : fsP E k ports f) : grC E (k + 1) (z + f) := by
  obtain ⟨mn, h1, h2⟩ := h
  refine ⟨zU mn k f, fun p p0 p1 => ?_, ?_⟩
  · by_cases e : p = k
    · subst e
      rw [zU_same]
      rcases hf with ⟨e, g⟩ | ⟨e, q, q0, q1, q2, q3⟩
      · exact Or.inl ⟨e, fun q q0 q1 c => g q q0 (by omega) q1 (cn_symm c)⟩
      · exact Or.inr ⟨e, q, q0, q2, cn_symm q3⟩
    · rw [zU_ne e]
      exact h1 p p0 (by omega)
  · rw [h2, show (k + 1).toNat = k.toNat + 1 by omega]
    show sm mn k.toNat + f = sm (zU mn k f) k.toNat + zU mn k f (k.toNat : Int)
    rw [show ((k.toNat : Nat) : Int) = k by omega, zU_same, sm_congr (f := zU mn k f) (g := mn) (fun j j0 j1 => zU_ne (by omega))]
theorem grC_end {E : Int → Int → Int → Prop} {ports z : Int} (h : grC E ports z) : grpP E ports z := h
/-! joined by legs of a reach: the needed range -/
theorem need_lit {legs : Int} {lower upper leng reach : Int → Int} {i j z r : Int} (hr : r ≤ 20) (h : needP (eg legs lower upper leng reach) i j z) (hz : z ≠ -1) : cn (eg legs lower upper leng reach r) i j ↔ z ≤ r := by
  rcases h with ⟨h, -⟩ | ⟨h0, h1, h2, h3⟩
  · exact absurd h hz
  · constructor
    · intro c
      refine Classical.byContradiction fun g => h3 r (by omega) c
    · intro g
      refine cn_mono ?_ h2
      rintro a b w ⟨k, k0, k1, k2, k3, k4⟩
      exact ⟨k, k0, k1, by omega, k3, k4⟩
theorem need_ways {legs : Int} {lower upper leng reach : Int → Int} {i j z : Int} (h : needP (eg legs lower upper leng reach) i j z) : z = -1 ↔ ¬ cn (eg legs lower upper leng reach 20) i j := by
  rcases h with ⟨h, g⟩ | ⟨h0, h1, h2, h3⟩
  · exact ⟨fun _ => g 20 (Int.le_refl _), fun _ => h⟩
  · refine ⟨fun e => by omega, fun g => absurd (cn_mono ?_ h2) g⟩
    rintro a b w ⟨k, k0, k1, k2, k3, k4⟩
    exact ⟨k, k0, k1, by omega, k3, k4⟩
theorem need_pos {ports legs : Int} {lower upper leng reach : Int → Int} {i j z : Int} (hc : ChV ports legs lower upper leng reach) (hij : i ≠ j) (h : needP (eg legs lower upper leng reach) i j z) : z = -1 ∨ 1 ≤ z := by
  rcases h with ⟨h, -⟩ | ⟨h0, h1, h2, h3⟩
  · exact Or.inl h
  · by_cases e : z = 0
    · subst e
      have := h2 (fun x => x) (fun a b w ⟨k, k0, k1, k2, k3, k4⟩ => by
        have := hc.2.2.2.2.1 k k0 k1
        omega)
      exact absurd this hij
    · exact Or.inr (by omega)
