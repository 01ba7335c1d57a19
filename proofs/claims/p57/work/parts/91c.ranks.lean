/-! ===== p57: ranks: each rank has its one (draft, not yet compiled) ===== -/
theorem pigeon : ∀ (n : Nat) (f : Int → Int), (∀ j : Int, 0 ≤ j → j < n → 0 ≤ f j ∧ f j < n) → (∀ i j : Int, 0 ≤ i → i < n → 0 ≤ j → j < n → f i = f j → i = j) → ∀ k : Int, 0 ≤ k → k < n → ∃ j : Int, 0 ≤ j ∧ j < n ∧ f j = k
  | 0, _, _, _, k, h0, h1 => absurd h1 (by omega)
  | n + 1, f, hf, hi, k, k0, k1 => by
    have vn := hf n (by omega) (by omega)
    by_cases ek : f n = k
    · exact ⟨n, by omega, by omega, ek⟩
    · have vne : ∀ j : Int, 0 ≤ j → j < n → f j ≠ f n := fun j j0 j1 e => by
        have := hi j n j0 (by omega) (by omega) (by omega) e
        omega
      have hf' : ∀ j : Int, 0 ≤ j → j < n → 0 ≤ (if f j = n then f n else f j) ∧ (if f j = n then f n else f j) < n := by
        intro j j0 j1
        have a := hf j j0 (by omega)
        have b := vne j j0 j1
        by_cases e : f j = n
        · rw [if_pos e]
          omega
        · rw [if_neg e]
          omega
      have hi' : ∀ i j : Int, 0 ≤ i → i < n → 0 ≤ j → j < n → (if f i = n then f n else f i) = (if f j = n then f n else f j) → i = j := by
        intro i j i0 i1 j0 j1 e
        have a := vne i i0 i1
        have b := vne j j0 j1
        by_cases e1 : f i = n
        · rw [if_pos e1] at e
          by_cases e2 : f j = n
          · exact hi i j i0 (by omega) j0 (by omega) (by omega)
          · rw [if_neg e2] at e
            exact absurd e.symm b
        · rw [if_neg e1] at e
          by_cases e2 : f j = n
          · rw [if_pos e2] at e
            exact absurd e a
          · rw [if_neg e2] at e
            exact hi i j i0 (by omega) j0 (by omega) e
      have ih := pigeon n (fun j => if f j = n then f n else f j) hf' hi'
      by_cases en : k = n
      · obtain ⟨j, j0, j1, e⟩ := ih (f n) vn.1 (by omega)
        have e' : (if f j = n then f n else f j) = f n := e
        by_cases e1 : f j = n
        · exact ⟨j, j0, by omega, by omega⟩
        · rw [if_neg e1] at e'
          exact absurd e' (vne j j0 j1)
      · obtain ⟨j, j0, j1, e⟩ := ih k k0 (by omega)
        have e' : (if f j = n then f n else f j) = k := e
        by_cases e1 : f j = n
        · rw [if_pos e1] at e'
          exact absurd e' ek
        · rw [if_neg e1] at e'
          exact ⟨j, j0, by omega, e'⟩
/-- o goes ahead of j -/
def dkB (darkN : Int → Int) (o j : Int) : Prop := darkN j < darkN o ∨ (darkN o = darkN j ∧ o < j)
theorem dkR_in (cnt : Int) (darkN : Int → Int) (j : Int) : 0 ≤ dkR cnt darkN j ∧ dkR cnt darkN j ≤ cnt.toNat := sm_in (fun _ _ _ => b01 _)
theorem dkR_lt {cnt : Int} {darkN : Int → Int} {o j : Int} (o0 : 0 ≤ o) (o1 : o < cnt) (h : dkB darkN o j) : dkR cnt darkN o + 1 ≤ dkR cnt darkN j := by
  unfold dkB at h
  refine sm_lt (k := o) o0 (by omega) ?_ (fun q q0 q1 => ?_)
  · show (if darkN o < darkN o ∨ (darkN o = darkN o ∧ o < o) then (1 : Int) else 0) + 1 ≤ if darkN j < darkN o ∨ (darkN o = darkN j ∧ o < j) then 1 else 0
    rw [if_neg (by omega), if_pos h]
    decide
  · show (if darkN o < darkN q ∨ (darkN q = darkN o ∧ q < o) then (1 : Int) else 0) ≤ if darkN j < darkN q ∨ (darkN q = darkN j ∧ q < j) then 1 else 0
    by_cases e : darkN o < darkN q ∨ (darkN q = darkN o ∧ q < o)
    · rw [if_pos e, if_pos (by omega)]
      exact Int.le_refl _
    · rw [if_neg e]
      exact (b01 _).1
theorem dkR_max {cnt : Int} {darkN : Int → Int} {j : Int} (j0 : 0 ≤ j) (j1 : j < cnt) : dkR cnt darkN j < cnt := by
  have h := sm_lt (f := fun o => if darkN j < darkN o ∨ (darkN o = darkN j ∧ o < j) then (1 : Int) else 0) (g := fun _ => 1) (k := j) j0 (n := cnt.toNat) (by omega) (by
    show (if darkN j < darkN j ∨ (darkN j = darkN j ∧ j < j) then (1 : Int) else 0) + 1 ≤ 1
    rw [if_neg (by omega)]
    decide) (fun q _ _ => (b01 _).2)
  have e : ∀ n : Nat, sm (fun _ => 1) n = n := by
    intro n
    induction n with
    | zero => rfl
    | succ n ih =>
      show sm (fun _ => 1) n + 1 = ((n + 1 : Nat) : Int)
      rw [ih]
      omega
  rw [e] at h
  have : dkR cnt darkN j + 1 ≤ cnt.toNat := h
  omega
theorem dkR_inj {cnt : Int} {darkN : Int → Int} {i j : Int} (i0 : 0 ≤ i) (i1 : i < cnt) (j0 : 0 ≤ j) (j1 : j < cnt) (h : dkR cnt darkN i = dkR cnt darkN j) : i = j := by
  refine Classical.byContradiction fun hne => ?_
  by_cases e : dkB darkN i j
  · have := dkR_lt (cnt := cnt) i0 i1 e
    omega
  · have e2 : dkB darkN j i := by
      unfold dkB at *
      omega
    have := dkR_lt (cnt := cnt) j0 j1 e2
    omega
/-- each rank below the number of subscribers is somebody's -/
theorem dkP_some {cnt : Int} {darkN : Int → Int} {rank z : Int} (h0 : 0 ≤ rank) (h1 : rank < cnt) (h : dkP cnt darkN rank z) : 0 ≤ z ∧ z < cnt ∧ dkR cnt darkN z = rank := by
  rcases h with ⟨-, h⟩ | ⟨z0, z1, z2, -⟩
  · obtain ⟨j, j0, j1, e⟩ := pigeon cnt.toNat (dkR cnt darkN) (fun j j0 j1 => ⟨(dkR_in cnt darkN j).1, by have := dkR_max (cnt := cnt) (darkN := darkN) j0 (by omega); omega⟩) (fun i j i0 i1 j0 j1 => dkR_inj i0 (by omega) j0 (by omega)) rank h0 (by omega)
    exact absurd e (h j j0 (by omega))
  · exact ⟨z0, z1, z2⟩
/-- no rank beyond -/
theorem dkP_none {cnt : Int} {darkN : Int → Int} {rank z : Int} (h1 : cnt ≤ rank) (h : dkP cnt darkN rank z) : z = -1 := by
  rcases h with ⟨h, -⟩ | ⟨z0, z1, z2, -⟩
  · exact h
  · have := dkR_max (cnt := cnt) (darkN := darkN) z0 z1
    omega
/-- the one of the rank before goes ahead -/
theorem dkP_next {cnt : Int} {darkN : Int → Int} {rank i j : Int} (hi : 0 ≤ i ∧ i < cnt ∧ dkR cnt darkN i = rank - 1) (hj : 0 ≤ j ∧ j < cnt ∧ dkR cnt darkN j = rank) : dkB darkN i j := by
  refine Classical.byContradiction fun hne => ?_
  by_cases e : i = j
  · subst e
    omega
  · have e2 : dkB darkN j i := by
      unfold dkB at *
      omega
    have := dkR_lt (cnt := cnt) hj.1 hj.2.1 e2
    omega
