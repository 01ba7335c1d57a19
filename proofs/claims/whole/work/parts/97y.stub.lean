/-- words of private methods of StringBuilder's superclass: their rows follow out of the tables -/
def lw_x3 : List Cond := [.selects RJ4 yJ5_ensureCapacityInternal_d00df yJ5_ensureCapacityInternal_d00df, .selects RJ4 yJ5_newCapacity_0f7a4 yJ5_newCapacity_0f7a4, .selects RJ4 yJ5_inflate_da8c8 yJ5_inflate_da8c8]
def lw_tb2 : List Cond := lw_tbl ++ lw_x3
theorem st_sel {args : Array Value} {s : State} {y z : MethodName} (hy : y.cls ≠ "java/lang/invoke/MethodHandle" ∧ y.cls ≠ "java/lang/invoke/VarHandle") (hz : z.cls = y.cls) (hs : (Cond.selects RJ4 z z).before args s = true) (hpriv : (Cond.privateMethod y).before args s = true) (hinst : (Cond.instanceMethod y).before args s = true) : (Cond.selects RJ4 y y).before args s = true := by
  obtain ⟨c1, r1, m1, hc, -, hm, -, k1, hk, hni⟩ := Cond.selects_spec (args := args) (first := s) (o := none) (s := s) (idx := []) hs
  obtain ⟨mk, methM, hnamed, hmethM, -, -⟩ := Cond.instanceMethod_spec hinst
  have hfound : s.methodFound? y.cls y.name y.desc = some mk := State.methodFound?_of_named hnamed hy
  have hcls : mk.cls = m1.cls := Option.some.inj ((findClass_of_methodNamed hnamed).symm.trans (by rw [← hz]; exact findClass_of_methodNamed hm))
  have hsel : selectMethod {} s.vm c1 mk = .method mk := selectMethod_private hmethM (Cond.privateMethod_at hpriv mk methM hnamed hmethM)
  simp only [Cond.before, Cond.holds, Cond.value, hc, hfound, hnamed, hsel, hcls, hk]
  simp; exact hni
theorem lw_more {args : Array Value} {s : State} (hts : ∀ w ∈ lw_tbl, w.before args s = true) : ∀ w ∈ lw_tb2, w.before args s = true := by
  have hz : (Cond.selects RJ4 ⟨RJ5, "isLatin1", "()Z"⟩ ⟨RJ5, "isLatin1", "()Z"⟩).before args s = true := hts _ (by decide +kernel)
  intro w hw
  rcases List.mem_append.mp hw with h | h
  · exact hts w h
  · rcases List.mem_cons.mp h with rfl | h
    · exact st_sel (z := ⟨RJ5, "isLatin1", "()Z"⟩) ⟨by decide +kernel, by decide +kernel⟩ rfl hz (hts _ (by decide +kernel)) (hts _ (by decide +kernel))
    · rcases List.mem_cons.mp h with rfl | h
      · exact st_sel (z := ⟨RJ5, "isLatin1", "()Z"⟩) ⟨by decide +kernel, by decide +kernel⟩ rfl hz (hts _ (by decide +kernel)) (hts _ (by decide +kernel))
      · rcases List.mem_cons.mp h with rfl | h
        · exact st_sel (z := ⟨RJ5, "isLatin1", "()Z"⟩) ⟨by decide +kernel, by decide +kernel⟩ rfl hz (hts _ (by decide +kernel)) (hts _ (by decide +kernel))
        · exact absurd h List.not_mem_nil
theorem wsL_law_in : ∀ w ∈ wsL_law, w ∈ lw_tb2 := by sorry
theorem inX1 : ∀ w ∈ wsX10, w ∈ lw_tb2 := fun w h => wsL_law_in w (inlX1 w h)
theorem inX3 : ∀ w ∈ wsX30, w ∈ lw_tb2 := fun w h => wsL_law_in w (inlX3 w h)
theorem inX4 : ∀ w ∈ wsX40, w ∈ lw_tb2 := fun w h => wsL_law_in w (inlX4 w h)
theorem inX5 : ∀ w ∈ wsX50, w ∈ lw_tb2 := fun w h => wsL_law_in w (inlX5 w h)
theorem inX6 : ∀ w ∈ wsX60, w ∈ lw_tb2 := fun w h => wsL_law_in w (inlX6 w h)
theorem inX7 : ∀ w ∈ wsX70, w ∈ lw_tb2 := fun w h => wsL_law_in w (inlX7 w h)
theorem inX8 : ∀ w ∈ wsX80, w ∈ lw_tb2 := fun w h => wsL_law_in w (inlX8 w h)
theorem inX9 : ∀ w ∈ wsX90, w ∈ lw_tb2 := fun w h => wsL_law_in w (inlX9 w h)
theorem inX10 : ∀ w ∈ wsX100, w ∈ lw_tb2 := fun w h => wsL_law_in w (inlX10 w h)
theorem inX11 : ∀ w ∈ wsX110, w ∈ lw_tb2 := fun w h => wsL_law_in w (inlX11 w h)
theorem inJx00060 : ∀ w ∈ wsJx000600, w ∈ lw_tb2 := fun w h => wsL_law_in w (inlJx00060 w h)
theorem inJ0 : ∀ w ∈ wsJ00, w ∈ lw_tb2 := fun w h => wsL_law_in w (inlJ0 w h)
theorem inJ4 : ∀ w ∈ wsJ40, w ∈ lw_tb2 := fun w h => wsL_law_in w (inlJ4 w h)
theorem inJx7c733 : ∀ w ∈ wsJx7c7330, w ∈ lw_tb2 := fun w h => wsL_law_in w (inlJx7c733 w h)
