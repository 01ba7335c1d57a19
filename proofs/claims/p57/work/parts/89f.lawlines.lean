/-! ===== p57: written lines; shares by what they are made of ===== -/
theorem dg_ch : ∀ (k : Nat) (x v : Int), v ∈ dg k x → 48 ≤ v ∧ v ≤ 57
  | 0, x, v, h => by
    have h : v ∈ [48 + x % 10] := h
    rw [List.mem_singleton] at h
    omega
  | k + 1, x, v, h => by
    have h : v ∈ (if x ≤ 9 then [48 + x % 10] else dg k (x / 10) ++ [48 + x % 10]) := h
    by_cases q : x ≤ 9
    · rw [if_pos q, List.mem_singleton] at h
      omega
    · rw [if_neg q] at h
      rcases List.mem_append.mp h with z | z
      · exact dg_ch k _ v z
      · rw [List.mem_singleton] at z
        omega
theorem ch_dg (x : Int) : ∀ v ∈ dgL x, 0 ≤ v ∧ v ≤ 127 := fun v h => by
  have q := dg_ch 8 x v h
  omega
theorem ch_1 {x : Int} (hx : 0 ≤ x ∧ x ≤ 127) : ∀ v ∈ [x], 0 ≤ v ∧ v ≤ 127 := fun v h => by
  rw [List.mem_singleton] at h
  subst h
  exact hx
theorem ch_0 : ∀ v ∈ ([] : List Int), 0 ≤ v ∧ v ≤ 127 := fun v h => absurd h List.not_mem_nil
theorem ch_app {l r : List Int} (h1 : ∀ v ∈ l, 0 ≤ v ∧ v ≤ 127) (h2 : ∀ v ∈ r, 0 ≤ v ∧ v ≤ 127) : ∀ v ∈ l ++ r, 0 ≤ v ∧ v ≤ 127 := fun v h => (List.mem_append.mp h).elim (h1 v) (h2 v)
theorem subLn_ch (x1 x2 x3 x4 : Int) : ∀ v ∈ subLn x1 x2 x3 x4, 0 ≤ v ∧ v ≤ 127 := by
  unfold subLn
  split
  · exact ch_app (ch_app (ch_app (ch_app (ch_app (ch_app ch_0 (ch_dg _)) (ch_1 (by decide))) (ch_dg _)) (ch_1 (by decide))) (ch_dg _)) (ch_1 (by decide))
  · exact ch_app (ch_app (ch_app (ch_app (ch_app (ch_app (ch_app ch_0 (ch_dg _)) (ch_1 (by decide))) (ch_dg _)) (ch_1 (by decide))) (ch_dg _)) (ch_1 (by decide))) (ch_dg _)
theorem legLn_ch (x1 x2 x3 x4 x5 : Int) : ∀ v ∈ legLn x1 x2 x3 x4 x5, 0 ≤ v ∧ v ≤ 127 := by
  unfold legLn
  split
  · exact ch_app (ch_app (ch_app (ch_app (ch_app (ch_app (ch_app (ch_app ch_0 (ch_dg _)) (ch_1 (by decide))) (ch_dg _)) (ch_1 (by decide))) (ch_dg _)) (ch_1 (by decide))) (ch_dg _)) (ch_1 (by decide))
  · exact ch_app (ch_app (ch_app (ch_app (ch_app (ch_app (ch_app ch_0 (ch_dg _)) (ch_1 (by decide))) (ch_dg _)) (ch_1 (by decide))) (ch_dg _)) (ch_1 (by decide))) (ch_dg _)
theorem subLn_16 {x1 x2 x3 x4 : Int} (h1 : 0 ≤ x1 ∧ x1 ≤ 9) (h2 : 0 ≤ x2 ∧ x2 ≤ 9) (h3 : 0 ≤ x3 ∧ x3 ≤ 999999999) (h4 : -1 ≤ x4 ∧ x4 ≤ 20) : (subLn x1 x2 x3 x4).length ≤ 16 := by
  have q1 := dgN_1 h1.1 h1.2
  have q2 := dgN_1 h2.1 h2.2
  have q3 := dgN_in h3.1 h3.2
  unfold dgN at q1 q2 q3
  by_cases z : x4 = -1
  · unfold subLn
    rw [if_pos z]
    simp only [List.length_append, List.length_cons, List.length_nil]
    omega
  · have q4 := dgN_le2 (x := x4) (by omega) (by omega)
    unfold dgN at q4
    unfold subLn
    rw [if_neg z]
    simp only [List.length_append, List.length_cons, List.length_nil]
    omega
theorem legLn_16 {x1 x2 x3 x4 x5 : Int} (h1 : 0 ≤ x1 ∧ x1 ≤ 9) (h2 : 0 ≤ x2 ∧ x2 ≤ 9) (h3 : 0 ≤ x3 ∧ x3 ≤ 99) (h4 : 0 ≤ x4 ∧ x4 ≤ 99) : (legLn x1 x2 x3 x4 x5).length ≤ 16 := by
  have q1 := dgN_1 h1.1 h1.2
  have q2 := dgN_1 h2.1 h2.2
  have q3 := dgN_le2 h3.1 h3.2
  have q4 := dgN_le2 h4.1 h4.2
  unfold dgN at q1 q2 q3 q4
  unfold legLn
  split
  · simp only [List.length_append, List.length_cons, List.length_nil]
    omega
  · simp only [List.length_append, List.length_cons, List.length_nil]
    omega
def agT (t t' nd nd' : Int → Int) : Prop := ∀ j, 0 ≤ j → j < 6 → t j = t' j ∧ (t j = 1 → nd j = nd' j)
theorem agT_sym {t t' nd nd' : Int → Int} (h : agT t t' nd nd') : agT t' t nd' nd := fun j j0 j1 => by
  have q := h j j0 j1
  exact ⟨q.1.symm, fun e => (q.2 (q.1.trans e)).symm⟩
theorem shR_cg {t t' nd nd' : Int → Int} (h : agT t t' nd nd') : ∀ n : Nat, shR t nd n = shR t' nd' n
  | 0 => rfl
  | n + 1 => by
    show shR t nd n + dC ((n : Int) + 1) / cntN t nd ((n : Int) + 1) = shR t' nd' n + dC ((n : Int) + 1) / cntN t' nd' ((n : Int) + 1)
    rw [shR_cg h n]
    congr 2
    refine sm_congr (fun j j0 j1 => ?_)
    show (if t j = 1 ∧ (n : Int) + 1 ≤ nd j then (1 : Int) else 0) = if t' j = 1 ∧ (n : Int) + 1 ≤ nd' j then 1 else 0
    have q := h j j0 (by omega)
    by_cases e : t j = 1
    · have q2 := q.2 e
      rw [← q.1, ← q2]
    · rw [if_neg (fun z => e z.1), if_neg (fun z => e (q.1.trans z.1))]
theorem shJ_cg {t t' nd nd' : Int → Int} (h : agT t t' nd nd') {j : Int} (j0 : 0 ≤ j) (j1 : j < 6) (hj : t j = 1) : shR t nd (nd j).toNat = shR t' nd' (nd' j).toNat := by
  rw [← (h j j0 j1).2 hj]
  exact shR_cg h _
theorem agT_U {t t' nd nd' : Int → Int} {z : Int} (h : agT t t' nd nd') : agT (zU t z 0) (zU t' z 0) nd nd' := fun j j0 j1 => by
  by_cases e : j = z
  · rw [e, zU_same, zU_same]
    exact ⟨rfl, fun q => absurd q (by decide)⟩
  · rw [zU_ne e, zU_ne e]
    exact h j j0 j1
theorem isGr_cg {t t' nd nd' : Int → Int} {g : Int} (h : agT t t' nd nd') (hg : isGr t nd g) : isGr t' nd' g := by
  obtain ⟨a, b, c, d⟩ := hg
  refine ⟨a, b, fun j j0 j1 hj => ?_, ?_⟩
  · have q := h j j0 j1
    have e : t j = 1 := q.1.trans hj
    rw [← q.2 e]
    exact c j j0 j1 e
  · rcases d with d | ⟨j, j0, j1, j2, j3⟩
    · exact Or.inl d
    · have q := h j j0 j1
      exact Or.inr ⟨j, j0, j1, q.1.symm.trans j2, (q.2 j2).symm.trans j3⟩
theorem wrL_ch {f : Int → Int} {l : List Int} (h : ∀ v ∈ l, 0 ≤ v ∧ v ≤ 127) : ∀ j : Int, 0 ≤ j → j < (l.length : Nat) → 0 ≤ wrL f 0 l j ∧ wrL f 0 l j ≤ 127 := fun j j0 j1 => by
  rw [wrL_in (by omega)]
  have hj : (j - 0).toNat < l.length := by omega
  rw [List.getD_eq_getElem?_getD, List.getElem?_eq_getElem hj]
  exact h _ (List.getElem_mem hj)
