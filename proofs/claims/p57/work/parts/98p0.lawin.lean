/-! ===== where the law's words stand (0) ===== -/
/-- words of private methods of StringBuilder's superclass: their rows follow out of the tables -/
def lw_x3 : List Cond := [.selects RJ4 yJ5_ensureCapacityInternal_d00df yJ5_ensureCapacityInternal_d00df, .selects RJ4 yJ5_newCapacity_0f7a4 yJ5_newCapacity_0f7a4, .selects RJ4 yJ5_appendNull_278bc yJ5_appendNull_278bc, .selects RJ4 yJ5_inflateIfNeededFor_a7421 yJ5_inflateIfNeededFor_a7421, .selects RJ4 yJ5_putStringAt_47b60 yJ5_putStringAt_47b60, .selects RJ4 yJ5_inflate_da8c8 yJ5_inflate_da8c8]
def lw_tb2 : List Cond := lw_tbl ++ lw_x3
theorem st_sel {args : Array Value} {s : State} {y z : MethodName} (hy : y.cls ≠ "java/lang/invoke/MethodHandle" ∧ y.cls ≠ "java/lang/invoke/VarHandle") (hz : z.cls = y.cls) (hs : (Cond.selects RJ4 z z).before args s = true) (hpriv : (Cond.privateMethod y).before args s = true) (hinst : (Cond.instanceMethod y).before args s = true) : (Cond.selects RJ4 y y).before args s = true := by
  obtain ⟨c1, r1, m1, hc, -, hm, -, k1, hk, hni⟩ := Cond.selects_spec (args := args) (first := s) (o := none) (s := s) (idx := []) hs
  obtain ⟨mk, methM, hnamed, hmethM, -, -⟩ := Cond.instanceMethod_spec hinst
  have hfound : s.methodFound? y.cls y.name y.desc = some mk := State.methodFound?_of_named hnamed hy
  have hcls : mk.cls = m1.cls := Option.some.inj ((findClass_of_methodNamed hnamed).symm.trans (by rw [← hz]; exact findClass_of_methodNamed hm))
  have hsel : selectMethod {} s.vm c1 mk = .method mk := selectMethod_private hmethM (Cond.privateMethod_at hpriv mk methM hnamed hmethM)
  simp only [Cond.before, Cond.holds, Cond.value, hc, hfound, hnamed, hsel, hcls, hk]
  simp; exact hni
theorem lw_more {args : Array Value} {s : State} (hts : ∀ w ∈ lw_tbl, w.before args s = true) : ∀ w ∈ lw_tb2, w.before args s = true := by
  have hz : (Cond.selects RJ4 ⟨RJ5, "isLatin1", "()Z"⟩ ⟨RJ5, "isLatin1", "()Z"⟩).before args s = true := hts _ (by decide +kernel)
  intro w hw
  rcases List.mem_append.mp hw with h | h
  · exact hts w h
  · rcases List.mem_cons.mp h with rfl | h
    · exact st_sel (z := ⟨RJ5, "isLatin1", "()Z"⟩) ⟨by decide +kernel, by decide +kernel⟩ rfl hz (hts _ (by decide +kernel)) (hts _ (by decide +kernel))
    · rcases List.mem_cons.mp h with rfl | h
      · exact st_sel (z := ⟨RJ5, "isLatin1", "()Z"⟩) ⟨by decide +kernel, by decide +kernel⟩ rfl hz (hts _ (by decide +kernel)) (hts _ (by decide +kernel))
      · rcases List.mem_cons.mp h with rfl | h
        · exact st_sel (z := ⟨RJ5, "isLatin1", "()Z"⟩) ⟨by decide +kernel, by decide +kernel⟩ rfl hz (hts _ (by decide +kernel)) (hts _ (by decide +kernel))
        · rcases List.mem_cons.mp h with rfl | h
          · exact st_sel (z := ⟨RJ5, "isLatin1", "()Z"⟩) ⟨by decide +kernel, by decide +kernel⟩ rfl hz (hts _ (by decide +kernel)) (hts _ (by decide +kernel))
          · rcases List.mem_cons.mp h with rfl | h
            · exact st_sel (z := ⟨RJ5, "isLatin1", "()Z"⟩) ⟨by decide +kernel, by decide +kernel⟩ rfl hz (hts _ (by decide +kernel)) (hts _ (by decide +kernel))
            · rcases List.mem_cons.mp h with rfl | h
              · exact st_sel (z := ⟨RJ5, "isLatin1", "()Z"⟩) ⟨by decide +kernel, by decide +kernel⟩ rfl hz (hts _ (by decide +kernel)) (hts _ (by decide +kernel))
              · exact absurd h List.not_mem_nil
