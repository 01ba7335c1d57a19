/-! ===== p57: all shares add up to the cost of the greatest need (draft, not yet compiled) ===== -/
theorem sixths {c : Int} (h : 1 ≤ c ∧ c ≤ 6) (x : Int) : c * (60 * x / c) = 60 * x := by
  rw [div60 h]
  have e : c * (60 / c) = 60 := by
    have : c = 1 ∨ c = 2 ∨ c = 3 ∨ c = 4 ∨ c = 5 ∨ c = 6 := by omega
    rcases this with q | q | q | q | q | q <;> subst q <;> decide
  rw [← Int.mul_assoc, e]
theorem sm_mulc (f : Int → Int) (c : Int) : ∀ n : Nat, sm (fun j => f j * c) n = sm f n * c
  | 0 => by show (0 : Int) = 0 * c; rw [Int.zero_mul]
  | n + 1 => by
    show sm (fun j => f j * c) n + f n * c = (sm f n + f n) * c
    rw [sm_mulc f c n, Int.add_mul]
/-- what is paid of the shares up to range m -/
def paidTo (t nd : Int → Int) (m : Nat) : Int := sm (fun j => if t j = 1 then shR t nd (min (m : Int) (nd j)).toNat else 0) 6
theorem paidTo_0 {t nd : Int → Int} (hv : TpV t nd) : paidTo t nd 0 = 0 := by
  unfold paidTo
  rw [sm_congr (n := 6) (g := fun _ => 0) (fun j j0 j1 => ?_)]
  · rfl
  · show (if t j = 1 then shR t nd (min ((0 : Nat) : Int) (nd j)).toNat else 0) = 0
    by_cases e : t j = 1
    · have := hv.2 j j0 (by omega) e
      rw [if_pos e, show (min ((0 : Nat) : Int) (nd j)).toNat = 0 by omega]
      rfl
    · rw [if_neg e]
theorem paidTo_s {t nd : Int → Int} {m : Nat} (hv : TpV t nd) (hc : 1 ≤ cntN t nd ((m : Int) + 1)) : paidTo t nd (m + 1) = paidTo t nd m + dC ((m : Int) + 1) := by
  have h6 := cntN_in t nd ((m : Int) + 1)
  have e1 : ∀ j : Int, 0 ≤ j → j < (6 : Nat) → (if t j = 1 then shR t nd (min ((m + 1 : Nat) : Int) (nd j)).toNat else 0) = (fun j => (if t j = 1 then shR t nd (min (m : Int) (nd j)).toNat else 0) + (fun j => (if t j = 1 ∧ (m : Int) + 1 ≤ nd j then (1 : Int) else 0) * (dC ((m : Int) + 1) / cntN t nd ((m : Int) + 1))) j) j := by
    intro j j0 j1
    show _ = (if t j = 1 then shR t nd (min (m : Int) (nd j)).toNat else 0) + (if t j = 1 ∧ (m : Int) + 1 ≤ nd j then (1 : Int) else 0) * (dC ((m : Int) + 1) / cntN t nd ((m : Int) + 1))
    by_cases e : t j = 1
    · have := hv.2 j j0 (by omega) e
      rw [if_pos e, if_pos e]
      by_cases g : (m : Int) + 1 ≤ nd j
      · rw [if_pos ⟨e, g⟩, show (min ((m + 1 : Nat) : Int) (nd j)).toNat = m + 1 by omega, show (min (m : Int) (nd j)).toNat = m by omega, Int.one_mul]
        rfl
      · rw [if_neg (fun z => g z.2), show (min ((m + 1 : Nat) : Int) (nd j)).toNat = (min (m : Int) (nd j)).toNat by omega, Int.zero_mul, Int.add_zero]
    · rw [if_neg e, if_neg e, if_neg (fun z => e z.1), Int.zero_mul, Int.add_zero]
  unfold paidTo
  rw [sm_congr e1, sm_add, sm_mulc]
  have e2 : sm (fun j => if t j = 1 ∧ (m : Int) + 1 ≤ nd j then (1 : Int) else 0) 6 = cntN t nd ((m : Int) + 1) := rfl
  rw [e2, dC_eq, sixths ⟨hc, h6.2⟩]
theorem paidTo_all {t nd : Int → Int} {g : Int} (hv : TpV t nd) (hg : isGr t nd g) : ∀ m : Nat, (m : Int) ≤ g → paidTo t nd m = 60 * (m : Int) * (m : Int)
  | 0, _ => paidTo_0 hv
  | m + 1, h => by
    have hc : 1 ≤ cntN t nd ((m : Int) + 1) := by
      rcases hg.2.2.2 with q | ⟨j, j0, j1, jt, je⟩
      · omega
      · exact cntN_pos j0 j1 jt (by omega)
    rw [paidTo_s hv hc, paidTo_all hv hg m (by omega), dC_eq]
    rw [show ((m + 1 : Nat) : Int) = (m : Int) + 1 by omega]
    have e : 60 * ((m : Int) + 1) * ((m : Int) + 1) = 60 * (m : Int) * (m : Int) + 60 * (2 * ((m : Int) + 1) - 1) := by
      rw [show 60 * ((m : Int) + 1) = 60 * (m : Int) + 60 by omega, Int.add_mul, Int.mul_add, Int.mul_one]
      omega
    omega
/-- all shares together -/
theorem shares_all {t nd : Int → Int} {g : Int} (hv : TpV t nd) (hg : isGr t nd g) : sm (fun j => if t j = 1 then shR t nd (nd j).toNat else 0) 6 = 60 * g * g := by
  have h := paidTo_all hv hg g.toNat (by have := hg.1; omega)
  have eg : ((g.toNat : Nat) : Int) = g := by have := hg.1; omega
  rw [eg] at h
  rw [← h]
  unfold paidTo
  refine sm_congr (fun j j0 j1 => ?_)
  show (if t j = 1 then shR t nd (nd j).toNat else 0) = if t j = 1 then shR t nd (min ((g.toNat : Nat) : Int) (nd j)).toNat else 0
  by_cases e : t j = 1
  · have := hg.2.2.1 j j0 (by omega) e
    rw [if_pos e, if_pos e, eg, show min g (nd j) = nd j by omega]
  · rw [if_neg e, if_neg e]
/-! fewer who share: greater shares -/
theorem cntN_sub {t t' nd : Int → Int} (h : ∀ j, 0 ≤ j → j < 6 → t' j = 1 → t j = 1) (r : Int) : cntN t' nd r ≤ cntN t nd r := by
  refine sm_mono (fun j j0 j1 => ?_)
  show (if t' j = 1 ∧ r ≤ nd j then (1 : Int) else 0) ≤ if t j = 1 ∧ r ≤ nd j then 1 else 0
  by_cases e : t' j = 1 ∧ r ≤ nd j
  · rw [if_pos e, if_pos ⟨h j j0 (by omega) e.1, e.2⟩]
    exact Int.le_refl _
  · rw [if_neg e]
    exact (b01 _).1
theorem div_anti {x c d : Int} (hx : 0 ≤ x) (hc : 1 ≤ c ∧ c ≤ d) : x / d ≤ x / c := by
  refine Int.le_ediv_of_mul_le (by omega) ?_
  have h1 : x / d * c ≤ x / d * d := Int.mul_le_mul_of_nonneg_left hc.2 (Int.ediv_nonneg hx (by omega))
  have h2 := Int.ediv_mul_le x (show d ≠ 0 by omega)
  omega
theorem shR_sub {t t' nd : Int → Int} (h : ∀ j, 0 ≤ j → j < 6 → t' j = 1 → t j = 1) {j : Int} (j0 : 0 ≤ j) (j1 : j < 6) (hj : t' j = 1) : ∀ n : Nat, (n : Int) ≤ nd j → shR t nd n ≤ shR t' nd n
  | 0, _ => Int.le_refl _
  | n + 1, hn => by
    have ih := shR_sub (t := t) (t' := t') (nd := nd) h j0 j1 hj n (by omega)
    have h1 := cntN_pos (t := t') (nd := nd) (r := (n : Int) + 1) j0 j1 hj (by omega)
    have h2 := cntN_sub (nd := nd) h ((n : Int) + 1)
    have h3 : 0 ≤ dC ((n : Int) + 1) := by rw [dC_eq]; omega
    have h4 := div_anti h3 ⟨h1, h2⟩
    show shR t nd n + dC ((n : Int) + 1) / cntN t nd ((n : Int) + 1) ≤ shR t' nd n + dC ((n : Int) + 1) / cntN t' nd ((n : Int) + 1)
    omega
