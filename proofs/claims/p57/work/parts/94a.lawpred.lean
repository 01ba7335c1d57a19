/-! ===== p57: what the law's own methods answer ===== -/
theorem zP_i {D : va_G} {w : va_W} {H : Heap} (h : va_P D vwCl w H) : va_P D vwCl [w].flatten H := by
  show va_P D vwCl (w ++ []) H
  rw [List.append_nil]
  exact h
theorem zP_o {D : va_G} {w : va_W} {H : Heap} (h : va_P D vwCl [w].flatten H) : va_P D vwCl w H := by
  have h : va_P D vwCl (w ++ []) H := h
  rw [List.append_nil] at h
  exact h
theorem zD_i {A : Nat → Prop} {w : va_W} (h : va_D A w) : va_D A [w].flatten := by
  show va_D A (w ++ [])
  rw [List.append_nil]
  exact h
theorem zD_o {A : Nat → Prop} {w : va_W} (h : va_D A [w].flatten) : va_D A w := by
  have h : va_D A (w ++ []) := h
  rw [List.append_nil] at h
  exact h
def xL : List Cond := [.classLink RL 14 "java/lang/IllegalStateException", .classLink RL 20 "java/lang/IndexOutOfBoundsException", .classLink RL 22 "java/lang/IllegalArgumentException", .classLink RL 28 "java/util/NoSuchElementException", .classLink RL 72 "java/lang/UnsupportedOperationException"]
theorem goodIn_wid {a b ws : List Cond} (h : GoodIn a ws) : GoodIn (a ++ b) ws := fun w hw => ⟨List.mem_append_left _ (h w hw).1, (h w hw).2⟩
theorem xL_self : GoodIn xL xL := goodIn_of _ (by decide +kernel)
theorem gx_ww {W ws : List Cond} {own : String} {index : Nat} {y : MethodName} (h : GoodIn W (va_wsS own index y ws)) : GoodIn (W ++ xL) (va_wsS own index y (ws ++ xL)) := by
  intro w hw
  unfold va_wsS at hw
  rcases List.mem_append.mp hw with a | a
  · have q := h w (by unfold va_wsS; exact List.mem_append_left _ a)
    exact ⟨List.mem_append_left _ q.1, q.2⟩
  · rcases List.mem_append.mp a with a | a
    · have q := h w (by unfold va_wsS; exact List.mem_append_right _ a)
      exact ⟨List.mem_append_left _ q.1, q.2⟩
    · exact ⟨List.mem_append_right _ a, (xL_self w a).2⟩
def wHas (v : Nat → Int → Int) (a b z : Int) : Prop := (¬ inP (v 0 0) a b ∧ z = -11) ∨ (inP (v 0 0) a b ∧ ((z = 1 ∧ hasL (v 1 0) (v 2) (v 3) a b) ∨ (z = 0 ∧ ¬ hasL (v 1 0) (v 2) (v 3) a b)))
def wLeg (f : Nat) (v : Nat → Int → Int) (a b z : Int) : Prop := (¬ inP (v 0 0) a b ∧ z = -11) ∨ (inP (v 0 0) a b ∧ ((z = -13 ∧ ¬ hasL (v 1 0) (v 2) (v 3) a b) ∨ ∃ p, 0 ≤ p ∧ p < v 1 0 ∧ v 2 p = min a b ∧ v 3 p = max a b ∧ z = v f p))
def wLit (v : Nat → Int → Int) (a b z : Int) : Prop := (¬ inP (v 0 0) a b ∧ z = -11) ∨ (inP (v 0 0) a b ∧ ((z = -13 ∧ ¬ hasL (v 1 0) (v 2) (v 3) a b) ∨ ∃ p, 0 ≤ p ∧ p < v 1 0 ∧ v 2 p = min a b ∧ v 3 p = max a b ∧ ((z = 1 ∧ v 5 p ≤ v 13 0) ∨ (z = 0 ∧ ¬ v 5 p ≤ v 13 0))))
def wPos (f : Nat) (v : Nat → Int → Int) (k z : Int) : Prop := (¬ (0 ≤ k ∧ k < v 1 0) ∧ z = -11) ∨ ((0 ≤ k ∧ k < v 1 0) ∧ z = v f k)
def wSub (f : Nat) (v : Nat → Int → Int) (k z : Int) : Prop := (¬ (0 ≤ k ∧ k < v 7 0) ∧ z = -11) ∨ ((0 ≤ k ∧ k < v 7 0) ∧ z = v f k)
def wDist (r : Int) (v : Nat → Int → Int) (a b z : Int) : Prop := (¬ inP (v 0 0) a b ∧ z = -11) ∨ (inP (v 0 0) a b ∧ ((z = -13 ∧ distP (sE v r) a b (-1)) ∨ (z ≠ -1 ∧ distP (sE v r) a b z)))
def wNeed (v : Nat → Int → Int) (a b z : Int) : Prop := (¬ inP (v 0 0) a b ∧ z = -11) ∨ (inP (v 0 0) a b ∧ ((a = b ∧ z = -12) ∨ (a ≠ b ∧ ((z = -13 ∧ needP (sE v) a b (-1)) ∨ (z ≠ -1 ∧ needP (sE v) a b z)))))
def wNof (v : Nat → Int → Int) (k z : Int) : Prop := (¬ (0 ≤ k ∧ k < v 7 0) ∧ z = -11) ∨ ((0 ≤ k ∧ k < v 7 0) ∧ ((z = -13 ∧ needP (sE v) (v 8 k) (v 9 k) (-1)) ∨ (z ≠ -1 ∧ needP (sE v) (v 8 k) (v 9 k) z)))
def wShr (v : Nat → Int → Int) (k z : Int) : Prop := (¬ (0 ≤ k ∧ k < v 7 0) ∧ z = -11) ∨ ((0 ≤ k ∧ k < v 7 0) ∧ ((z = -13 ∧ shrP (sE v) (v 7 0) (v 8) (v 9) k (-1)) ∨ (z ≠ -1 ∧ shrP (sE v) (v 7 0) (v 8) (v 9) k z)))
def wDrk (v : Nat → Int → Int) (r z : Int) : Prop := (z = -13 ∧ dkP (v 7 0) (v 12) r (-1)) ∨ (z ≠ -1 ∧ dkP (v 7 0) (v 12) r z)
def wWld (v : Nat → Int → Int) (k z : Int) : Prop := (¬ (0 ≤ k ∧ k < v 7 0) ∧ z = -11) ∨ ((0 ≤ k ∧ k < v 7 0) ∧ (z = 0 ∨ z = 1) ∧ ∃ tq nq sq, isPlan (sE v) (v 7 0) (v 8) (v 9) (v 10) tq nq sq ∧ z = tq k)
def wCst (r z : Int) : Prop := (¬ (0 ≤ r ∧ r ≤ 20) ∧ z = -12) ∨ ((0 ≤ r ∧ r ≤ 20) ∧ z = 60 * r * r)
def wLin (lnb : Int → Int) (lct i z : Int) : Prop := (¬ (0 ≤ i ∧ i < lct) ∧ z = -11) ∨ ((0 ≤ i ∧ i < lct) ∧ z = lnb i ∧ 0 ≤ z ∧ z ≤ 127)
def wWrS (v : Nat → Int → Int) (k z : Int) (g g' : GL) : Prop := (¬ (0 ≤ k ∧ k < v 7 0) ∧ z = -11) ∨ ((0 ≤ k ∧ k < v 7 0) ∧ ∃ nd, needP (sE v) (v 8 k) (v 9 k) nd ∧ z = ((subLn (v 8 k) (v 9 k) (v 10 k) nd).length : Nat) ∧ GL_lct g' = z ∧ GL_lnb g' = wrL (GL_lnb g) 0 (subLn (v 8 k) (v 9 k) (v 10 k) nd) ∧ z ≤ 16)
def wWrL (v : Nat → Int → Int) (k z : Int) (g g' : GL) : Prop := (¬ (0 ≤ k ∧ k < v 1 0) ∧ z = -11) ∨ ((0 ≤ k ∧ k < v 1 0) ∧ z = ((legLn (v 2 k) (v 3 k) (v 4 k) (v 5 k) (v 13 0)).length : Nat) ∧ GL_lct g' = z ∧ GL_lnb g' = wrL (GL_lnb g) 0 (legLn (v 2 k) (v 3 k) (v 4 k) (v 5 k) (v 13 0)) ∧ z ≤ 16)
/-- a call that changes: done, or refused with nothing changed -/
def wOp (B N : Int) (g g' : GL) (z : Int) : Prop := (z < 0 ∧ RDO B N g g') ∨ (0 ≤ z ∧ DID B N g g')
