/-! ===== what the refusals say; shares and ranks as the questions answer them ===== -/
theorem legF_in {ports legs : Int} {lower upper : Int → Int} {a b w r z : Int} (h : legF ports legs lower upper a b w r z) : 0 ≤ z ∧ z ≤ 5 := by
  rcases h with h | ⟨-, h | ⟨-, h | h⟩⟩ <;> omega
theorem legF_0 {ports legs : Int} {lower upper : Int → Int} {a b w r z : Int} (h : legF ports legs lower upper a b w r z) (hz : ¬ (1 ≤ z ∧ z ≤ 5)) : legF ports legs lower upper a b w r 0 ∧ (inP ports a b ∧ a ≠ b ∧ 1 ≤ w ∧ w ≤ 99 ∧ 1 ≤ r ∧ r ≤ 20) ∧ legs < 20 ∧ ¬ hasL legs lower upper a b := by
  have h0 : z = 0 := by have := legF_in h; omega
  subst h0
  refine ⟨h, ?_⟩
  rcases h with ⟨h, -⟩ | ⟨hp, ⟨h, -⟩ | ⟨h1, ⟨h, -⟩ | ⟨-, h2, h3⟩⟩⟩
  · exact absurd h (by decide)
  · exact absurd h (by decide)
  · exact absurd h (by decide)
  · exact ⟨⟨hp, h1⟩, h2, h3⟩
theorem cutF_in {ports legs : Int} {lower upper : Int → Int} {a b z : Int} (h : cutF ports legs lower upper a b z) : 0 ≤ z ∧ z ≤ 5 := by
  rcases h with h | ⟨-, h | h⟩ <;> omega
theorem cutF_0 {ports legs : Int} {lower upper : Int → Int} {a b z : Int} (h : cutF ports legs lower upper a b z) (hz : ¬ (1 ≤ z ∧ z ≤ 5)) : cutF ports legs lower upper a b 0 ∧ inP ports a b ∧ hasL legs lower upper a b := by
  have h0 : z = 0 := by have := cutF_in h; omega
  subst h0
  refine ⟨h, ?_⟩
  rcases h with ⟨h, -⟩ | ⟨hp, ⟨h, -⟩ | ⟨-, h1⟩⟩
  · exact absurd h (by decide)
  · exact absurd h (by decide)
  · exact ⟨hp, h1⟩
theorem shipF_in {ports cnt : Int} {E : Int → Int → Int → Int → Prop} {a b mny z : Int} (h : shipF ports cnt E a b mny z) : 0 ≤ z ∧ z ≤ 5 := by
  rcases h with h | ⟨-, h | ⟨-, h | ⟨-, h | h⟩⟩⟩ <;> omega
theorem shipF_0 {ports cnt : Int} {E : Int → Int → Int → Int → Prop} {a b mny z : Int} (h : shipF ports cnt E a b mny z) (hz : ¬ (1 ≤ z ∧ z ≤ 5)) : shipF ports cnt E a b mny 0 ∧ inP ports a b ∧ (a ≠ b ∧ 0 ≤ mny ∧ mny ≤ 9999) ∧ cnt < 6 := by
  have h0 : z = 0 := by have := shipF_in h; omega
  subst h0
  refine ⟨h, ?_⟩
  rcases h with ⟨h, -⟩ | ⟨hp, ⟨h, -⟩ | ⟨h1, ⟨h, -⟩ | ⟨h2, ⟨h, -⟩ | ⟨-, h3⟩⟩⟩⟩
  · exact absurd h (by decide)
  · exact absurd h (by decide)
  · exact absurd h (by decide)
  · exact absurd h (by decide)
  · exact ⟨hp, h1, h2⟩
theorem payF_in {cnt i w z : Int} (h : payF cnt i w z) : 0 ≤ z ∧ z ≤ 5 := by
  rcases h with h | ⟨-, h | h⟩ <;> omega
theorem payF_0 {cnt i w z : Int} (h : payF cnt i w z) (hz : ¬ (1 ≤ z ∧ z ≤ 5)) : payF cnt i w 0 ∧ (0 ≤ i ∧ i < cnt) ∧ (1 ≤ w ∧ w ≤ 9999) := by
  have h0 : z = 0 := by have := payF_in h; omega
  subst h0
  refine ⟨h, ?_⟩
  rcases h with ⟨h, -⟩ | ⟨hp, ⟨h, -⟩ | ⟨-, h1⟩⟩
  · exact absurd h (by decide)
  · exact absurd h (by decide)
  · exact ⟨hp, h1⟩
def shrP (E : Int → Int → Int → Int → Prop) (cnt : Int) (strt goal : Int → Int) (ship z : Int) : Prop := (0 ≤ ship ∧ ship < 6) ∧ ∃ tp nd, isGat E cnt strt goal tp nd ∧ ((tp ship = 0 ∧ z = -1) ∨ (tp ship = 1 ∧ z = shR tp nd (nd ship).toNat))
theorem shrP_of2 {E : Int → Int → Int → Int → Prop} {cnt ship z : Int} {strt goal tp nd : Int → Int} (h : isGat E cnt strt goal tp nd) (hz : (tp ship = 0 ∧ z = -1) ∨ (tp ship = 1 ∧ z = shR tp nd (nd ship).toNat)) (h0 : 0 ≤ ship) (h1 : ship < 6) : shrP E cnt strt goal ship z := ⟨⟨h0, h1⟩, tp, nd, h, hz⟩
theorem shrP_of {E : Int → Int → Int → Int → Prop} {cnt ship : Int} {strt goal tp nd shr : Int → Int} (h : isGat E cnt strt goal tp nd) (hs : isSh tp nd shr) (h0 : 0 ≤ ship) (h1 : ship < 6) : shrP E cnt strt goal ship (shr ship) := by
  refine ⟨⟨h0, h1⟩, tp, nd, h, ?_⟩
  have e := hs ship h0 h1
  rcases (isGat_V h).1 ship h0 h1 with q | q
  · rw [if_neg (by omega)] at e
    exact Or.inl ⟨q, e⟩
  · rw [if_pos q] at e
    exact Or.inr ⟨q, e⟩
theorem shrP_in {E : Int → Int → Int → Int → Prop} {cnt ship z : Int} {strt goal : Int → Int} (h : shrP E cnt strt goal ship z) : -1 ≤ z ∧ z ≤ 46800 := by
  obtain ⟨⟨h0, h1⟩, tp, nd, hg, h | h⟩ := h
  · omega
  · have a := (isGat_V hg).2 ship h0 h1 h.1
    have b := shR_in tp nd (nd ship).toNat (by omega)
    omega
def dkR (cnt : Int) (darkN : Int → Int) (j : Int) : Int := sm (fun o => if darkN j < darkN o ∨ (darkN o = darkN j ∧ o < j) then 1 else 0) cnt.toNat
def dkP (cnt : Int) (darkN : Int → Int) (rank z : Int) : Prop := (z = -1 ∧ ∀ t, 0 ≤ t → t < cnt → ¬ dkR cnt darkN t = rank) ∨ (0 ≤ z ∧ z < cnt ∧ dkR cnt darkN z = rank ∧ ∀ t, 0 ≤ t → t < z → ¬ dkR cnt darkN t = rank)
theorem dkP_in {cnt : Int} {darkN : Int → Int} {rank z : Int} (hc : 0 ≤ cnt ∧ cnt ≤ 6) (h : dkP cnt darkN rank z) : -1 ≤ z ∧ z < 6 := by
  rcases h with h | h <;> omega
