/-! ===== a text is read alike by the class and by the reference ===== -/
theorem bh_c {txt : Int → Int} {len p c : Int} (hc : 0 ≤ c) : (p < len ∧ txt p = c) ↔ bh txt len p = c := by
  unfold bh
  by_cases h : p < len
  · rw [if_pos h]; exact ⟨fun g => g.2, fun g => ⟨h, g⟩⟩
  · rw [if_neg h]; exact ⟨fun g => absurd g.1 h, fun g => by omega⟩
def w3 (m a0 a1 a2 c0 c1 c2 : Int) : Prop := (a0 ≠ c0 ∧ m = 0) ∨ (a0 = c0 ∧ a1 ≠ c1 ∧ m = 1) ∨ (a0 = c0 ∧ a1 = c1 ∧ a2 ≠ c2 ∧ m = 2) ∨ (a0 = c0 ∧ a1 = c1 ∧ a2 = c2 ∧ 3 ≤ m)
theorem mt3 {txt : Int → Int} {len p c0 c1 c2 : Int} {w : List Int} {i : Nat} (hi : sTx.getD i [] = c0 :: c1 :: c2 :: w) (h0 : 0 ≤ c0 ∧ 0 ≤ c1 ∧ 0 ≤ c2) : w3 (mtW txt len p (sTx.getD i [])) (bh txt len p) (bh txt len (p + 1)) (bh txt len (p + 2)) c0 c1 c2 := by
  rw [hi]
  have e : mtW txt len p (c0 :: c1 :: c2 :: w) = if p < len ∧ txt p = c0 then (if p + 1 < len ∧ txt (p + 1) = c1 then (if p + 1 + 1 < len ∧ txt (p + 1 + 1) = c2 then mtW txt len (p + 1 + 1 + 1) w + 1 else 0) + 1 else 0) + 1 else 0 := rfl
  rw [e, show p + 1 + 1 = p + 2 by omega]
  unfold w3
  by_cases g0 : p < len ∧ txt p = c0
  · rw [if_pos g0]
    have x0 := (bh_c h0.1).mp g0
    by_cases g1 : p + 1 < len ∧ txt (p + 1) = c1
    · rw [if_pos g1]
      have x1 := (bh_c h0.2.1).mp g1
      by_cases g2 : p + 2 < len ∧ txt (p + 2) = c2
      · rw [if_pos g2]
        have x2 := (bh_c h0.2.2).mp g2
        have y := mtW_in txt len w (p + 2 + 1) (by omega)
        exact Or.inr (Or.inr (Or.inr ⟨x0, x1, x2, by omega⟩))
      · rw [if_neg g2]
        exact Or.inr (Or.inr (Or.inl ⟨x0, x1, fun z => g2 ((bh_c h0.2.2).mpr z), by omega⟩))
    · rw [if_neg g1]
      exact Or.inr (Or.inl ⟨x0, fun z => g1 ((bh_c h0.2.1).mpr z), by omega⟩)
  · rw [if_neg g0]
    exact Or.inl ⟨fun z => g0 ((bh_c h0.1).mpr z), rfl⟩
section
variable {txt : Int → Int} {len p : Int}
theorem w8_0 : w3 (mtW txt len p (sTx.getD 0 [])) (bh txt len p) (bh txt len (p + 1)) (bh txt len (p + 2)) 112 111 114 := mt3 (w := [116]) rfl (by decide)
theorem w8_1 : w3 (mtW txt len p (sTx.getD 1 [])) (bh txt len p) (bh txt len (p + 1)) (bh txt len (p + 2)) 108 101 103 := mt3 (w := []) rfl (by decide)
theorem w8_2 : w3 (mtW txt len p (sTx.getD 2 [])) (bh txt len p) (bh txt len (p + 1)) (bh txt len (p + 2)) 99 117 116 := mt3 (w := []) rfl (by decide)
theorem w8_3 : w3 (mtW txt len p (sTx.getD 3 [])) (bh txt len p) (bh txt len (p + 1)) (bh txt len (p + 2)) 115 104 105 := mt3 (w := [112]) rfl (by decide)
theorem w8_4 : w3 (mtW txt len p (sTx.getD 4 [])) (bh txt len p) (bh txt len (p + 1)) (bh txt len (p + 2)) 112 97 121 := mt3 (w := []) rfl (by decide)
theorem w8_5 : w3 (mtW txt len p (sTx.getD 5 [])) (bh txt len p) (bh txt len (p + 1)) (bh txt len (p + 2)) 108 101 97 := mt3 (w := [118, 101]) rfl (by decide)
theorem w8_6 : w3 (mtW txt len p (sTx.getD 6 [])) (bh txt len p) (bh txt len (p + 1)) (bh txt len (p + 2)) 102 111 103 := mt3 (w := []) rfl (by decide)
theorem w8_7 : w3 (mtW txt len p (sTx.getD 7 [])) (bh txt len p) (bh txt len (p + 1)) (bh txt len (p + 2)) 110 105 103 := mt3 (w := [104, 116]) rfl (by decide)
end
theorem ch_best {txt : Int → Int} {len p : Int} {i : Nat} (hi : i < 8) : mtW txt len p (sTx.getD i []) ≤ mtW txt len p (sTx.getD (chC txt len p) []) ∧ (mtW txt len p (sTx.getD i []) = (sLn i : Nat) → i = chC txt len p) := by
  have hi : i = 0 ∨ i = 1 ∨ i = 2 ∨ i = 3 ∨ i = 4 ∨ i = 5 ∨ i = 6 ∨ i = 7 := by omega
  by_cases h5 : bh txt len p = 108 ∧ bh txt len (p + 1) = 101 ∧ bh txt len (p + 2) = 97
  · have e : chC txt len p = 5 := chC_5 h5
    rw [e]
    rcases hi with rfl | rfl | rfl | rfl | rfl | rfl | rfl | rfl
    · exact ⟨by have x := w8_0 (txt := txt) (len := len) (p := p); have y := w8_5 (txt := txt) (len := len) (p := p); unfold w3 at x y; omega, fun g => by have x := w8_0 (txt := txt) (len := len) (p := p); unfold w3 at x; rw [show sLn 0 = 4 from rfl] at g; exfalso; omega⟩
    · exact ⟨by have x := w8_1 (txt := txt) (len := len) (p := p); have y := w8_5 (txt := txt) (len := len) (p := p); unfold w3 at x y; omega, fun g => by have x := w8_1 (txt := txt) (len := len) (p := p); unfold w3 at x; rw [show sLn 1 = 3 from rfl] at g; exfalso; omega⟩
    · exact ⟨by have x := w8_2 (txt := txt) (len := len) (p := p); have y := w8_5 (txt := txt) (len := len) (p := p); unfold w3 at x y; omega, fun g => by have x := w8_2 (txt := txt) (len := len) (p := p); unfold w3 at x; rw [show sLn 2 = 3 from rfl] at g; exfalso; omega⟩
    · exact ⟨by have x := w8_3 (txt := txt) (len := len) (p := p); have y := w8_5 (txt := txt) (len := len) (p := p); unfold w3 at x y; omega, fun g => by have x := w8_3 (txt := txt) (len := len) (p := p); unfold w3 at x; rw [show sLn 3 = 4 from rfl] at g; exfalso; omega⟩
    · exact ⟨by have x := w8_4 (txt := txt) (len := len) (p := p); have y := w8_5 (txt := txt) (len := len) (p := p); unfold w3 at x y; omega, fun g => by have x := w8_4 (txt := txt) (len := len) (p := p); unfold w3 at x; rw [show sLn 4 = 3 from rfl] at g; exfalso; omega⟩
    · exact ⟨Int.le_refl _, fun _ => rfl⟩
    · exact ⟨by have x := w8_6 (txt := txt) (len := len) (p := p); have y := w8_5 (txt := txt) (len := len) (p := p); unfold w3 at x y; omega, fun g => by have x := w8_6 (txt := txt) (len := len) (p := p); unfold w3 at x; rw [show sLn 6 = 3 from rfl] at g; exfalso; omega⟩
    · exact ⟨by have x := w8_7 (txt := txt) (len := len) (p := p); have y := w8_5 (txt := txt) (len := len) (p := p); unfold w3 at x y; omega, fun g => by have x := w8_7 (txt := txt) (len := len) (p := p); unfold w3 at x; rw [show sLn 7 = 5 from rfl] at g; exfalso; omega⟩
  · skip
    by_cases h1 : bh txt len p = 108
    · have e : chC txt len p = 1 := chC_1 h1 (by omega)
      rw [e]
      rcases hi with rfl | rfl | rfl | rfl | rfl | rfl | rfl | rfl
      · exact ⟨by have x := w8_0 (txt := txt) (len := len) (p := p); have y := w8_1 (txt := txt) (len := len) (p := p); unfold w3 at x y; omega, fun g => by have x := w8_0 (txt := txt) (len := len) (p := p); unfold w3 at x; rw [show sLn 0 = 4 from rfl] at g; exfalso; omega⟩
      · exact ⟨Int.le_refl _, fun _ => rfl⟩
      · exact ⟨by have x := w8_2 (txt := txt) (len := len) (p := p); have y := w8_1 (txt := txt) (len := len) (p := p); unfold w3 at x y; omega, fun g => by have x := w8_2 (txt := txt) (len := len) (p := p); unfold w3 at x; rw [show sLn 2 = 3 from rfl] at g; exfalso; omega⟩
      · exact ⟨by have x := w8_3 (txt := txt) (len := len) (p := p); have y := w8_1 (txt := txt) (len := len) (p := p); unfold w3 at x y; omega, fun g => by have x := w8_3 (txt := txt) (len := len) (p := p); unfold w3 at x; rw [show sLn 3 = 4 from rfl] at g; exfalso; omega⟩
      · exact ⟨by have x := w8_4 (txt := txt) (len := len) (p := p); have y := w8_1 (txt := txt) (len := len) (p := p); unfold w3 at x y; omega, fun g => by have x := w8_4 (txt := txt) (len := len) (p := p); unfold w3 at x; rw [show sLn 4 = 3 from rfl] at g; exfalso; omega⟩
      · exact ⟨by have x := w8_5 (txt := txt) (len := len) (p := p); have y := w8_1 (txt := txt) (len := len) (p := p); unfold w3 at x y; omega, fun g => by have x := w8_5 (txt := txt) (len := len) (p := p); unfold w3 at x; rw [show sLn 5 = 5 from rfl] at g; exfalso; omega⟩
      · exact ⟨by have x := w8_6 (txt := txt) (len := len) (p := p); have y := w8_1 (txt := txt) (len := len) (p := p); unfold w3 at x y; omega, fun g => by have x := w8_6 (txt := txt) (len := len) (p := p); unfold w3 at x; rw [show sLn 6 = 3 from rfl] at g; exfalso; omega⟩
      · exact ⟨by have x := w8_7 (txt := txt) (len := len) (p := p); have y := w8_1 (txt := txt) (len := len) (p := p); unfold w3 at x y; omega, fun g => by have x := w8_7 (txt := txt) (len := len) (p := p); unfold w3 at x; rw [show sLn 7 = 5 from rfl] at g; exfalso; omega⟩
    · skip
      by_cases h2 : bh txt len p = 99
      · have e : chC txt len p = 2 := chC_2 h2
        rw [e]
        rcases hi with rfl | rfl | rfl | rfl | rfl | rfl | rfl | rfl
        · exact ⟨by have x := w8_0 (txt := txt) (len := len) (p := p); have y := w8_2 (txt := txt) (len := len) (p := p); unfold w3 at x y; omega, fun g => by have x := w8_0 (txt := txt) (len := len) (p := p); unfold w3 at x; rw [show sLn 0 = 4 from rfl] at g; exfalso; omega⟩
        · exact ⟨by have x := w8_1 (txt := txt) (len := len) (p := p); have y := w8_2 (txt := txt) (len := len) (p := p); unfold w3 at x y; omega, fun g => by have x := w8_1 (txt := txt) (len := len) (p := p); unfold w3 at x; rw [show sLn 1 = 3 from rfl] at g; exfalso; omega⟩
        · exact ⟨Int.le_refl _, fun _ => rfl⟩
        · exact ⟨by have x := w8_3 (txt := txt) (len := len) (p := p); have y := w8_2 (txt := txt) (len := len) (p := p); unfold w3 at x y; omega, fun g => by have x := w8_3 (txt := txt) (len := len) (p := p); unfold w3 at x; rw [show sLn 3 = 4 from rfl] at g; exfalso; omega⟩
        · exact ⟨by have x := w8_4 (txt := txt) (len := len) (p := p); have y := w8_2 (txt := txt) (len := len) (p := p); unfold w3 at x y; omega, fun g => by have x := w8_4 (txt := txt) (len := len) (p := p); unfold w3 at x; rw [show sLn 4 = 3 from rfl] at g; exfalso; omega⟩
        · exact ⟨by have x := w8_5 (txt := txt) (len := len) (p := p); have y := w8_2 (txt := txt) (len := len) (p := p); unfold w3 at x y; omega, fun g => by have x := w8_5 (txt := txt) (len := len) (p := p); unfold w3 at x; rw [show sLn 5 = 5 from rfl] at g; exfalso; omega⟩
        · exact ⟨by have x := w8_6 (txt := txt) (len := len) (p := p); have y := w8_2 (txt := txt) (len := len) (p := p); unfold w3 at x y; omega, fun g => by have x := w8_6 (txt := txt) (len := len) (p := p); unfold w3 at x; rw [show sLn 6 = 3 from rfl] at g; exfalso; omega⟩
        · exact ⟨by have x := w8_7 (txt := txt) (len := len) (p := p); have y := w8_2 (txt := txt) (len := len) (p := p); unfold w3 at x y; omega, fun g => by have x := w8_7 (txt := txt) (len := len) (p := p); unfold w3 at x; rw [show sLn 7 = 5 from rfl] at g; exfalso; omega⟩
      · skip
        by_cases h3 : bh txt len p = 115
        · have e : chC txt len p = 3 := chC_3 h3
          rw [e]
          rcases hi with rfl | rfl | rfl | rfl | rfl | rfl | rfl | rfl
          · exact ⟨by have x := w8_0 (txt := txt) (len := len) (p := p); have y := w8_3 (txt := txt) (len := len) (p := p); unfold w3 at x y; omega, fun g => by have x := w8_0 (txt := txt) (len := len) (p := p); unfold w3 at x; rw [show sLn 0 = 4 from rfl] at g; exfalso; omega⟩
          · exact ⟨by have x := w8_1 (txt := txt) (len := len) (p := p); have y := w8_3 (txt := txt) (len := len) (p := p); unfold w3 at x y; omega, fun g => by have x := w8_1 (txt := txt) (len := len) (p := p); unfold w3 at x; rw [show sLn 1 = 3 from rfl] at g; exfalso; omega⟩
          · exact ⟨by have x := w8_2 (txt := txt) (len := len) (p := p); have y := w8_3 (txt := txt) (len := len) (p := p); unfold w3 at x y; omega, fun g => by have x := w8_2 (txt := txt) (len := len) (p := p); unfold w3 at x; rw [show sLn 2 = 3 from rfl] at g; exfalso; omega⟩
          · exact ⟨Int.le_refl _, fun _ => rfl⟩
          · exact ⟨by have x := w8_4 (txt := txt) (len := len) (p := p); have y := w8_3 (txt := txt) (len := len) (p := p); unfold w3 at x y; omega, fun g => by have x := w8_4 (txt := txt) (len := len) (p := p); unfold w3 at x; rw [show sLn 4 = 3 from rfl] at g; exfalso; omega⟩
          · exact ⟨by have x := w8_5 (txt := txt) (len := len) (p := p); have y := w8_3 (txt := txt) (len := len) (p := p); unfold w3 at x y; omega, fun g => by have x := w8_5 (txt := txt) (len := len) (p := p); unfold w3 at x; rw [show sLn 5 = 5 from rfl] at g; exfalso; omega⟩
          · exact ⟨by have x := w8_6 (txt := txt) (len := len) (p := p); have y := w8_3 (txt := txt) (len := len) (p := p); unfold w3 at x y; omega, fun g => by have x := w8_6 (txt := txt) (len := len) (p := p); unfold w3 at x; rw [show sLn 6 = 3 from rfl] at g; exfalso; omega⟩
          · exact ⟨by have x := w8_7 (txt := txt) (len := len) (p := p); have y := w8_3 (txt := txt) (len := len) (p := p); unfold w3 at x y; omega, fun g => by have x := w8_7 (txt := txt) (len := len) (p := p); unfold w3 at x; rw [show sLn 7 = 5 from rfl] at g; exfalso; omega⟩
        · skip
          by_cases h4 : bh txt len p = 112 ∧ bh txt len (p + 1) = 97
          · have e : chC txt len p = 4 := chC_4 h4
            rw [e]
            rcases hi with rfl | rfl | rfl | rfl | rfl | rfl | rfl | rfl
            · exact ⟨by have x := w8_0 (txt := txt) (len := len) (p := p); have y := w8_4 (txt := txt) (len := len) (p := p); unfold w3 at x y; omega, fun g => by have x := w8_0 (txt := txt) (len := len) (p := p); unfold w3 at x; rw [show sLn 0 = 4 from rfl] at g; exfalso; omega⟩
            · exact ⟨by have x := w8_1 (txt := txt) (len := len) (p := p); have y := w8_4 (txt := txt) (len := len) (p := p); unfold w3 at x y; omega, fun g => by have x := w8_1 (txt := txt) (len := len) (p := p); unfold w3 at x; rw [show sLn 1 = 3 from rfl] at g; exfalso; omega⟩
            · exact ⟨by have x := w8_2 (txt := txt) (len := len) (p := p); have y := w8_4 (txt := txt) (len := len) (p := p); unfold w3 at x y; omega, fun g => by have x := w8_2 (txt := txt) (len := len) (p := p); unfold w3 at x; rw [show sLn 2 = 3 from rfl] at g; exfalso; omega⟩
            · exact ⟨by have x := w8_3 (txt := txt) (len := len) (p := p); have y := w8_4 (txt := txt) (len := len) (p := p); unfold w3 at x y; omega, fun g => by have x := w8_3 (txt := txt) (len := len) (p := p); unfold w3 at x; rw [show sLn 3 = 4 from rfl] at g; exfalso; omega⟩
            · exact ⟨Int.le_refl _, fun _ => rfl⟩
            · exact ⟨by have x := w8_5 (txt := txt) (len := len) (p := p); have y := w8_4 (txt := txt) (len := len) (p := p); unfold w3 at x y; omega, fun g => by have x := w8_5 (txt := txt) (len := len) (p := p); unfold w3 at x; rw [show sLn 5 = 5 from rfl] at g; exfalso; omega⟩
            · exact ⟨by have x := w8_6 (txt := txt) (len := len) (p := p); have y := w8_4 (txt := txt) (len := len) (p := p); unfold w3 at x y; omega, fun g => by have x := w8_6 (txt := txt) (len := len) (p := p); unfold w3 at x; rw [show sLn 6 = 3 from rfl] at g; exfalso; omega⟩
            · exact ⟨by have x := w8_7 (txt := txt) (len := len) (p := p); have y := w8_4 (txt := txt) (len := len) (p := p); unfold w3 at x y; omega, fun g => by have x := w8_7 (txt := txt) (len := len) (p := p); unfold w3 at x; rw [show sLn 7 = 5 from rfl] at g; exfalso; omega⟩
          · skip
            by_cases h6 : bh txt len p = 102
            · have e : chC txt len p = 6 := chC_6 h6
              rw [e]
              rcases hi with rfl | rfl | rfl | rfl | rfl | rfl | rfl | rfl
              · exact ⟨by have x := w8_0 (txt := txt) (len := len) (p := p); have y := w8_6 (txt := txt) (len := len) (p := p); unfold w3 at x y; omega, fun g => by have x := w8_0 (txt := txt) (len := len) (p := p); unfold w3 at x; rw [show sLn 0 = 4 from rfl] at g; exfalso; omega⟩
              · exact ⟨by have x := w8_1 (txt := txt) (len := len) (p := p); have y := w8_6 (txt := txt) (len := len) (p := p); unfold w3 at x y; omega, fun g => by have x := w8_1 (txt := txt) (len := len) (p := p); unfold w3 at x; rw [show sLn 1 = 3 from rfl] at g; exfalso; omega⟩
              · exact ⟨by have x := w8_2 (txt := txt) (len := len) (p := p); have y := w8_6 (txt := txt) (len := len) (p := p); unfold w3 at x y; omega, fun g => by have x := w8_2 (txt := txt) (len := len) (p := p); unfold w3 at x; rw [show sLn 2 = 3 from rfl] at g; exfalso; omega⟩
              · exact ⟨by have x := w8_3 (txt := txt) (len := len) (p := p); have y := w8_6 (txt := txt) (len := len) (p := p); unfold w3 at x y; omega, fun g => by have x := w8_3 (txt := txt) (len := len) (p := p); unfold w3 at x; rw [show sLn 3 = 4 from rfl] at g; exfalso; omega⟩
              · exact ⟨by have x := w8_4 (txt := txt) (len := len) (p := p); have y := w8_6 (txt := txt) (len := len) (p := p); unfold w3 at x y; omega, fun g => by have x := w8_4 (txt := txt) (len := len) (p := p); unfold w3 at x; rw [show sLn 4 = 3 from rfl] at g; exfalso; omega⟩
              · exact ⟨by have x := w8_5 (txt := txt) (len := len) (p := p); have y := w8_6 (txt := txt) (len := len) (p := p); unfold w3 at x y; omega, fun g => by have x := w8_5 (txt := txt) (len := len) (p := p); unfold w3 at x; rw [show sLn 5 = 5 from rfl] at g; exfalso; omega⟩
              · exact ⟨Int.le_refl _, fun _ => rfl⟩
              · exact ⟨by have x := w8_7 (txt := txt) (len := len) (p := p); have y := w8_6 (txt := txt) (len := len) (p := p); unfold w3 at x y; omega, fun g => by have x := w8_7 (txt := txt) (len := len) (p := p); unfold w3 at x; rw [show sLn 7 = 5 from rfl] at g; exfalso; omega⟩
            · skip
              by_cases h7 : bh txt len p = 110
              · have e : chC txt len p = 7 := chC_7 h7
                rw [e]
                rcases hi with rfl | rfl | rfl | rfl | rfl | rfl | rfl | rfl
                · exact ⟨by have x := w8_0 (txt := txt) (len := len) (p := p); have y := w8_7 (txt := txt) (len := len) (p := p); unfold w3 at x y; omega, fun g => by have x := w8_0 (txt := txt) (len := len) (p := p); unfold w3 at x; rw [show sLn 0 = 4 from rfl] at g; exfalso; omega⟩
                · exact ⟨by have x := w8_1 (txt := txt) (len := len) (p := p); have y := w8_7 (txt := txt) (len := len) (p := p); unfold w3 at x y; omega, fun g => by have x := w8_1 (txt := txt) (len := len) (p := p); unfold w3 at x; rw [show sLn 1 = 3 from rfl] at g; exfalso; omega⟩
                · exact ⟨by have x := w8_2 (txt := txt) (len := len) (p := p); have y := w8_7 (txt := txt) (len := len) (p := p); unfold w3 at x y; omega, fun g => by have x := w8_2 (txt := txt) (len := len) (p := p); unfold w3 at x; rw [show sLn 2 = 3 from rfl] at g; exfalso; omega⟩
                · exact ⟨by have x := w8_3 (txt := txt) (len := len) (p := p); have y := w8_7 (txt := txt) (len := len) (p := p); unfold w3 at x y; omega, fun g => by have x := w8_3 (txt := txt) (len := len) (p := p); unfold w3 at x; rw [show sLn 3 = 4 from rfl] at g; exfalso; omega⟩
                · exact ⟨by have x := w8_4 (txt := txt) (len := len) (p := p); have y := w8_7 (txt := txt) (len := len) (p := p); unfold w3 at x y; omega, fun g => by have x := w8_4 (txt := txt) (len := len) (p := p); unfold w3 at x; rw [show sLn 4 = 3 from rfl] at g; exfalso; omega⟩
                · exact ⟨by have x := w8_5 (txt := txt) (len := len) (p := p); have y := w8_7 (txt := txt) (len := len) (p := p); unfold w3 at x y; omega, fun g => by have x := w8_5 (txt := txt) (len := len) (p := p); unfold w3 at x; rw [show sLn 5 = 5 from rfl] at g; exfalso; omega⟩
                · exact ⟨by have x := w8_6 (txt := txt) (len := len) (p := p); have y := w8_7 (txt := txt) (len := len) (p := p); unfold w3 at x y; omega, fun g => by have x := w8_6 (txt := txt) (len := len) (p := p); unfold w3 at x; rw [show sLn 6 = 3 from rfl] at g; exfalso; omega⟩
                · exact ⟨Int.le_refl _, fun _ => rfl⟩
              · skip
                have e : chC txt len p = 0 := chC_0 (by omega)
                rw [e]
                rcases hi with rfl | rfl | rfl | rfl | rfl | rfl | rfl | rfl
                · exact ⟨Int.le_refl _, fun _ => rfl⟩
                · exact ⟨by have x := w8_1 (txt := txt) (len := len) (p := p); have y := w8_0 (txt := txt) (len := len) (p := p); unfold w3 at x y; omega, fun g => by have x := w8_1 (txt := txt) (len := len) (p := p); unfold w3 at x; rw [show sLn 1 = 3 from rfl] at g; exfalso; omega⟩
                · exact ⟨by have x := w8_2 (txt := txt) (len := len) (p := p); have y := w8_0 (txt := txt) (len := len) (p := p); unfold w3 at x y; omega, fun g => by have x := w8_2 (txt := txt) (len := len) (p := p); unfold w3 at x; rw [show sLn 2 = 3 from rfl] at g; exfalso; omega⟩
                · exact ⟨by have x := w8_3 (txt := txt) (len := len) (p := p); have y := w8_0 (txt := txt) (len := len) (p := p); unfold w3 at x y; omega, fun g => by have x := w8_3 (txt := txt) (len := len) (p := p); unfold w3 at x; rw [show sLn 3 = 4 from rfl] at g; exfalso; omega⟩
                · exact ⟨by have x := w8_4 (txt := txt) (len := len) (p := p); have y := w8_0 (txt := txt) (len := len) (p := p); unfold w3 at x y; omega, fun g => by have x := w8_4 (txt := txt) (len := len) (p := p); unfold w3 at x; rw [show sLn 4 = 3 from rfl] at g; exfalso; omega⟩
                · exact ⟨by have x := w8_5 (txt := txt) (len := len) (p := p); have y := w8_0 (txt := txt) (len := len) (p := p); unfold w3 at x y; omega, fun g => by have x := w8_5 (txt := txt) (len := len) (p := p); unfold w3 at x; rw [show sLn 5 = 5 from rfl] at g; exfalso; omega⟩
                · exact ⟨by have x := w8_6 (txt := txt) (len := len) (p := p); have y := w8_0 (txt := txt) (len := len) (p := p); unfold w3 at x y; omega, fun g => by have x := w8_6 (txt := txt) (len := len) (p := p); unfold w3 at x; rw [show sLn 6 = 3 from rfl] at g; exfalso; omega⟩
                · exact ⟨by have x := w8_7 (txt := txt) (len := len) (p := p); have y := w8_0 (txt := txt) (len := len) (p := p); unfold w3 at x y; omega, fun g => by have x := w8_7 (txt := txt) (len := len) (p := p); unfold w3 at x; rw [show sLn 7 = 5 from rfl] at g; exfalso; omega⟩
theorem pWd_k {txt : Int → Int} {len p : Int} (hf : mtW txt len p (sTx.getD (chC txt len p) []) = (sLn (chC txt len p) : Nat)) : ∀ (n i : Nat) (f : Int), i + n = 8 → i ≤ chC txt len p → pWd txt len p n i f = (1, ((chC txt len p : Nat) : Int), p + mtW txt len p (sTx.getD (chC txt len p) []))
  | 0, i, f, hi, hk => absurd (chC_in txt len p) (by omega)
  | n + 1, i, f, hi, hk => by
    have e : pWd txt len p (n + 1) i f = if mtW txt len p (sTx.getD i []) = (sLn i : Nat) then ((1 : Int), ((i : Nat) : Int), p + mtW txt len p (sTx.getD i [])) else pWd txt len p n (i + 1) (max f (mtW txt len p (sTx.getD i []))) := rfl
    by_cases g : mtW txt len p (sTx.getD i []) = (sLn i : Nat)
    · have q := (ch_best (txt := txt) (len := len) (p := p) (i := i) (by omega)).2 g
      rw [e, if_pos g, ← q]
    · rw [e, if_neg g]
      by_cases q : i = chC txt len p
      · rw [q] at g; exact absurd hf g
      · exact pWd_k hf n (i + 1) _ (by omega) (by omega)
theorem pWd_n {txt : Int → Int} {len p : Int} (hf : mtW txt len p (sTx.getD (chC txt len p) []) ≠ (sLn (chC txt len p) : Nat)) : ∀ (n i : Nat) (f : Int), i + n = 8 → f ≤ mtW txt len p (sTx.getD (chC txt len p) []) → (i ≤ chC txt len p ∨ f = mtW txt len p (sTx.getD (chC txt len p) [])) → pWd txt len p n i f = (0, 0, p + mtW txt len p (sTx.getD (chC txt len p) []))
  | 0, i, f, hi, hm, hk => by
    have e : f = mtW txt len p (sTx.getD (chC txt len p) []) := hk.elim (fun h => absurd (chC_in txt len p) (by omega)) id
    show ((0 : Int), (0 : Int), p + f) = _
    rw [e]
  | n + 1, i, f, hi, hm, hk => by
    have e : pWd txt len p (n + 1) i f = if mtW txt len p (sTx.getD i []) = (sLn i : Nat) then ((1 : Int), ((i : Nat) : Int), p + mtW txt len p (sTx.getD i [])) else pWd txt len p n (i + 1) (max f (mtW txt len p (sTx.getD i []))) := rfl
    have b := ch_best (txt := txt) (len := len) (p := p) (i := i) (by omega)
    by_cases g : mtW txt len p (sTx.getD i []) = (sLn i : Nat)
    · have q := b.2 g
      rw [q] at g; exact absurd g hf
    · rw [e, if_neg g]
      refine pWd_n hf n (i + 1) _ (by omega) (by omega) ?_
      by_cases q : i = chC txt len p
      · right; rw [q]; omega
      · rcases hk with hk | hk
        · left; omega
        · right; omega
theorem mtW_nn {txt : Int → Int} {len : Int} : ∀ {p : Int} {w : List Int}, 0 ≤ mtW txt len p w
  | p, [] => Int.le_refl _
  | p, c :: w => by
    show 0 ≤ (if p < len ∧ txt p = c then mtW txt len (p + 1) w + 1 else 0)
    have := mtW_nn (txt := txt) (len := len) (p := p + 1) (w := w)
    split <;> omega
theorem rdF_1 {txt : Int → Int} {len : Int} : ∀ {ds : List Int} {p : Int}, (rdF txt len ds p 1).2 = (p, 1)
  | [], p => rfl
  | d :: ds, p => by
    show (rdF txt len ds (rnF txt len p 1 (d - 48)).2.1 (rnF txt len p 1 (d - 48)).2.2).2 = (p, 1)
    have e : rnF txt len p 1 (d - 48) = (0, p, 1) := if_pos rfl
    rw [e]
    exact rdF_1
theorem rdF_v {txt : Int → Int} {len : Int} : ∀ {ds : List Int} {p : Int}, ((pVals txt len ds p).1 = 1 ∧ rdF txt len ds p 0 = ((pVals txt len ds p).2.2, (pVals txt len ds p).2.1, 0)) ∨ ((pVals txt len ds p).1 = 0 ∧ (rdF txt len ds p 0).2 = ((pVals txt len ds p).2.1, 1))
  | [], p => Or.inl ⟨rfl, rfl⟩
  | d :: ds, p => by
    have e : rdF txt len (d :: ds) p 0 = ((rnF txt len p 0 (d - 48)).1 :: (rdF txt len ds (rnF txt len p 0 (d - 48)).2.1 (rnF txt len p 0 (d - 48)).2.2).1, (rdF txt len ds (rnF txt len p 0 (d - 48)).2.1 (rnF txt len p 0 (d - 48)).2.2).2) := rfl
    have er : rnF txt len p 0 (d - 48) = if p < len ∧ txt p = 32 then (if ctD txt len (d - 48).toNat (p + 1) = 0 then (0, p + 1, 1) else (nvD txt (p + 1) (ctD txt len (d - 48).toNat (p + 1)).toNat, p + 1 + ctD txt len (d - 48).toNat (p + 1), 0)) else (0, p, 1) := if_neg (by decide)
    rw [e, pVals_c, er]
    by_cases g : p < len ∧ txt p = 32
    · rw [if_pos g, if_pos g]
      by_cases c : ctD txt len (d - 48).toNat (p + 1) = 0
      · rw [if_pos c, if_pos c]
        exact Or.inr ⟨rfl, rdF_1⟩
      · rw [if_neg c, if_neg c]
        rcases rdF_v (txt := txt) (len := len) (ds := ds) (p := p + 1 + ctD txt len (d - 48).toNat (p + 1)) with ⟨a, b⟩ | ⟨a, b⟩
        · refine Or.inl ⟨a, ?_⟩
          show (_ :: (rdF txt len ds _ 0).1, (rdF txt len ds _ 0).2) = _
          rw [b]
        · exact Or.inr ⟨a, b⟩
    · rw [if_neg g, if_neg g]
      exact Or.inr ⟨rfl, rdF_1⟩
/-- command n stands in the numbers c: its letter, its values -/
def cmEq (c : Int → Int) (n : Int) (k : Nat) (v : Nat → Int) : Prop := c (5 * n) = kdC k ∧ ∀ j : Nat, j < sLn (dgI k) → c (5 * n + 1 + j) = v j
theorem rdF_len {txt : Int → Int} {len : Int} : ∀ {ds : List Int} {p w : Int}, (rdF txt len ds p w).1.length = ds.length
  | [], p, w => rfl
  | d :: ds, p, w => congrArg (· + 1) rdF_len
theorem rcP_eq {txt : Int → Int} {len p : Int} {f : Int → Int} {n : Int} {c' : Int → Int} {n' p' w' : Int} (h : rcP txt len p 0 f n c' n' p' w') : n' = n + 1 ∧ (∀ j, j < 5 * n → c' j = f j) ∧ p' = (pCmd txt len p).2.2.1 ∧ ((w' = 0 ∧ (pCmd txt len p).1 = 1 ∧ cmEq c' n (pCmd txt len p).2.1.toNat (fun j => (pCmd txt len p).2.2.2.getD j 0)) ∨ (w' = 1 ∧ (pCmd txt len p).1 = 0)) := by
  rcases h with ⟨a, -⟩ | ⟨-, b, p1, w1, s, c, d, e⟩
  · exact absurd a (by decide)
  · have hlo : ∀ j, j < 5 * n → c' j = f j := fun j hj => by
      rw [c, wrL_out (by omega), zU_ne (by omega)]
    rcases s with ⟨g, -⟩ | ⟨-, g1, ⟨g2, g3⟩ | ⟨g2, g3⟩⟩
    · exact absurd g (by decide)
    · have hw := pWd_k g3 8 0 0 rfl (Nat.zero_le _)
      subst g2
      rw [← g1] at hw
      have e1 : (pWd txt len p 8 0 0).1 = 1 := by rw [hw]
      have e2 : (pWd txt len p 8 0 0).2.1.toNat = chC txt len p := by rw [hw]; rfl
      have e3 : (pWd txt len p 8 0 0).2.2 = p1 := by rw [hw]
      have ec : pCmd txt len p = ((pVals txt len (sTx.getD (dgI (chC txt len p)) []) p1).1, ((chC txt len p : Nat) : Int), (pVals txt len (sTx.getD (dgI (chC txt len p)) []) p1).2.1, (pVals txt len (sTx.getD (dgI (chC txt len p)) []) p1).2.2) := by
        rw [pCmd_1 e1, e2, e3, hw]
      rcases rdF_v (txt := txt) (len := len) (ds := sTx.getD (dgI (chC txt len p)) []) (p := p1) with ⟨x, y⟩ | ⟨x, y⟩
      · refine ⟨b, hlo, by rw [d, y, ec], Or.inl ⟨by rw [e, y], by rw [ec]; exact x, ?_⟩⟩
        rw [ec]
        refine ⟨by show c' (5 * n) = _; rw [c, wrL_out (by omega), zU_same]; rfl, fun j hj => ?_⟩
        have hl := rdF_len (txt := txt) (len := len) (ds := sTx.getD (dgI (chC txt len p)) []) (p := p1) (w := 0)
        have hj : j < sLn (dgI (chC txt len p)) := hj
        have hj2 : j < (sTx.getD (dgI (chC txt len p)) []).length := hj
        rw [c, wrL_in (by omega), y, show (5 * n + 1 + (j : Int) - (5 * n + 1)).toNat = j by omega]
      · exact ⟨b, hlo, by rw [d, y, ec], Or.inr ⟨by rw [e, y], by rw [ec]; exact x⟩⟩
    · have hw := pWd_n g3 8 0 0 rfl (by have := mtW_nn (txt := txt) (len := len) (p := p) (w := sTx.getD (chC txt len p) []); exact this) (Or.inl (Nat.zero_le _))
      subst g2
      rw [← g1] at hw
      have ec : pCmd txt len p = (0, 0, p1, []) := by
        rw [pCmd_0 (by rw [hw]; simp), hw]
      have y := rdF_1 (txt := txt) (len := len) (ds := sTx.getD (dgI (chC txt len p)) []) (p := p1)
      exact ⟨b, hlo, by rw [d, y, ec], Or.inr ⟨by rw [e, y], by rw [ec]⟩⟩
theorem psk_nn {txt : Int → Int} {len : Int} (hl : 0 ≤ len) : ∀ {k : Nat}, (∀ i : Nat, i < k → (pNx txt len (psk txt len i)).1 = 1 ∧ psk txt len i ≤ len) → (k : Int) ≤ psk txt len k
  | 0, h => Int.le_refl _
  | k + 1, h => by
    have a := psk_nn hl (k := k) (fun i hi => h i (by omega))
    have b := h k (by omega)
    have c := pNx_ge b.2 b.1
    show ((k + 1 : Nat) : Int) ≤ (pNx txt len (psk txt len k)).2.2.1
    omega
theorem cmEq_lo {c c' : Int → Int} {n : Int} {k : Nat} {v : Nat → Int} {m : Int} (h : cmEq c n k v) (hn : n < m) (hk : sLn (dgI k) ≤ 4) (hl : ∀ j, j < 5 * m → c' j = c j) : cmEq c' n k v :=
  ⟨by rw [hl _ (by omega)]; exact h.1, fun j hj => by rw [hl _ (by omega)]; exact h.2 j hj⟩
/-- the reading of the reference, beside the class's -/
def seqQ (txt : Int → Int) (len : Int) (k : Nat) (p w : Int) (c : Int → Int) : Prop := p = psk txt len (k + 1) ∧ (∀ i : Nat, i < k → (pNx txt len (psk txt len i)).1 = 1 ∧ psk txt len (i + 1) < len ∧ txt (psk txt len (i + 1)) = 59) ∧ (∀ i : Nat, i < k → cmEq c i (cmK txt len i) (vlK txt len i)) ∧ ((w = 0 ∧ (pNx txt len (psk txt len k)).1 = 1 ∧ cmEq c k (cmK txt len k) (vlK txt len k)) ∨ (w = 1 ∧ (pNx txt len (psk txt len k)).1 = 0))
theorem seq_eq {txt : Int → Int} {len : Int} {c0 : Int → Int} (hl : 0 ≤ len) : ∀ {k : Nat} {p w : Int} {c : Int → Int}, prM txt len c0 k p w c → seqQ txt len k p w c
  | 0, p, w, c, h => by
    obtain ⟨a1, a2, a3, a4⟩ := rcP_eq h
    have e : pNx txt len (psk txt len 0) = pCmd txt len 0 := pNx_0 (Int.le_refl 0)
    refine ⟨?_, fun i hi => absurd hi (Nat.not_lt_zero _), fun i hi => absurd hi (Nat.not_lt_zero _), ?_⟩
    · show p = (pNx txt len (psk txt len 0)).2.2.1
      rw [e]; exact a3
    · unfold cmK vlK
      rw [e]
      exact a4
  | k + 1, p', w', c', h => by
    obtain ⟨p, c, h1, h2, h3⟩ := h
    obtain ⟨b1, b2, b3, b4⟩ := seq_eq hl h1
    have b4 : (pNx txt len (psk txt len k)).1 = 1 ∧ cmEq c k (cmK txt len k) (vlK txt len k) := b4.elim (fun g => g.2) (fun g => absurd g.1 (by decide))
    obtain ⟨a1, a2, a3, a4⟩ := rcP_eq h3
    have hall : ∀ i : Nat, i < k + 1 → (pNx txt len (psk txt len i)).1 = 1 ∧ psk txt len (i + 1) < len ∧ txt (psk txt len (i + 1)) = 59 := fun i hi => by
      by_cases q : i = k
      · subst q
        exact ⟨b4.1, by rw [← b1]; exact h2.1, by rw [← b1]; exact h2.2⟩
      · exact b2 i (by omega)
    have hpos : ∀ i : Nat, i < k + 1 → (pNx txt len (psk txt len i)).1 = 1 ∧ psk txt len i ≤ len := fun i hi => ⟨(hall i hi).1, by
      rcases i with _ | i
      · exact hl
      · have := (hall i (by omega)).2.1
        omega⟩
    have hk0 := psk_nn hl hpos
    have e : pNx txt len (psk txt len (k + 1)) = pCmd txt len (p + 1) := by
      rw [← b1]
      exact pNx_1 (by omega) h2
    have hlow : ∀ j, j < 5 * ((k : Int) + 1) → c' j = c j := a2
    refine ⟨?_, hall, fun i hi => ?_, ?_⟩
    · show p' = (pNx txt len (psk txt len (k + 1))).2.2.1
      rw [e]; exact a3
    · by_cases q : i = k
      · subst q
        exact cmEq_lo b4.2 (by omega) (dgI_4 _) hlow
      · exact cmEq_lo (b3 i (by omega)) (by omega) (dgI_4 _) hlow
    · unfold cmK vlK
      rw [e]
      exact a4
theorem cnt_go {txt : Int → Int} {len : Int} : ∀ {k : Nat}, k ≤ 60 → (∀ i : Nat, i < k → (pNx txt len (psk txt len i)).1 = 1 ∧ psk txt len (i + 1) ≠ len) → pCnt txt len 60 1 0 = pCnt txt len (60 - k) ((k : Int) + 1) (psk txt len k)
  | 0, _, _ => rfl
  | k + 1, hk, h => by
    have a := cnt_go (k := k) (by omega) (fun i hi => h i (by omega))
    have b := h k (by omega)
    have b2 : (pNx txt len (psk txt len k)).2.2.1 ≠ len := b.2
    rw [a, show 60 - k = (60 - (k + 1)) + 1 by omega]
    show (if (pNx txt len (psk txt len k)).1 = 1 then (if (pNx txt len (psk txt len k)).2.2.1 = len then ((k : Int) + 1, len) else pCnt txt len (60 - (k + 1)) ((k : Int) + 1 + 1) (pNx txt len (psk txt len k)).2.2.1) else (-1, (pNx txt len (psk txt len k)).2.2.1)) = _
    rw [if_pos b.1, if_neg b2, show ((k + 1 : Nat) : Int) = (k : Int) + 1 by omega]
    rfl
theorem cnt_at {txt : Int → Int} {len : Int} {k : Nat} (hk : k < 60) : pCnt txt len (60 - k) ((k : Int) + 1) (psk txt len k) = (if (pNx txt len (psk txt len k)).1 = 1 then (if psk txt len (k + 1) = len then ((k : Int) + 1, len) else pCnt txt len (60 - (k + 1)) ((k : Int) + 1 + 1) (psk txt len (k + 1))) else (-1, psk txt len (k + 1))) := by
  rw [show 60 - k = (60 - (k + 1)) + 1 by omega]
  rfl
theorem seq_pos {txt : Int → Int} {len : Int} (hl : 0 ≤ len) {k : Nat} {p w : Int} {c : Int → Int} (h : seqQ txt len k p w c) : (k : Int) ≤ psk txt len k ∧ (k = 0 ∨ psk txt len k < len) := by
  obtain ⟨b1, b2, b3, b4⟩ := h
  have hpos : ∀ i : Nat, i < k → (pNx txt len (psk txt len i)).1 = 1 ∧ psk txt len i ≤ len := fun i hi => ⟨(b2 i hi).1, by
    rcases i with _ | i
    · exact hl
    · have := (b2 i (by omega)).2.1
      omega⟩
  refine ⟨psk_nn hl hpos, ?_⟩
  rcases k with _ | k
  · exact Or.inl rfl
  · exact Or.inr (b2 k (by omega)).2.1
theorem bad_eq {txt : Int → Int} {len : Int} {c0 : Int → Int} {p : Int} (hl : 0 ≤ len ∧ len ≤ 60) (h : badM txt len c0 p) : (pCnt txt len 60 1 0).1 = -1 ∧ (pCnt txt len 60 1 0).2 = p := by
  obtain ⟨k, c, w, h1, h2⟩ := h
  have s := seq_eq hl.1 h1
  have t := seq_pos hl.1 s
  obtain ⟨b1, b2, b3, b4⟩ := s
  have hk : k < 60 := by omega
  have g := cnt_go (txt := txt) (len := len) (k := k) (by omega) (fun i hi => ⟨(b2 i hi).1, by have := (b2 i hi).2.1; omega⟩)
  rw [g, cnt_at hk]
  rcases b4 with ⟨w0, x, -⟩ | ⟨w1, x⟩
  · have h2 : p < len ∧ txt p ≠ 59 := h2.elim (fun z => by omega) id
    rw [if_pos x, if_neg (by rw [← b1]; omega)]
    have hpk : psk txt len k ≤ len := by
      rcases t.2 with z | z
      · subst z; exact hl.1
      · omega
    have pg := pNx_ge (txt := txt) (len := len) (p := psk txt len k) (by omega) x
    have pg : psk txt len k + 1 ≤ p := by rw [b1]; exact pg
    have hk2 : k + 1 < 60 := by omega
    have e := cnt_at (txt := txt) (len := len) hk2
    rw [show ((k + 1 : Nat) : Int) + 1 = (k : Int) + 1 + 1 by omega] at e
    have en : pNx txt len (psk txt len (k + 1)) = (0, 0, p, []) := by
      rw [← b1]
      unfold pNx
      rw [if_pos (by omega), if_neg (fun z => h2.2 z.2)]
    have en2 : psk txt len (k + 1 + 1) = p := by
      show (pNx txt len (psk txt len (k + 1))).2.2.1 = p
      rw [en]
    rw [e, en, if_neg (by simp), en2]
    exact ⟨rfl, rfl⟩
  · rw [if_neg (by omega), b1]
    exact ⟨rfl, rfl⟩
theorem ok_eq {txt : Int → Int} {len : Int} {c0 : Int → Int} {n : Int} {c : Int → Int} (hl : 0 ≤ len ∧ len ≤ 60) (h : okM txt len c0 n c) : (pCnt txt len 60 1 0).1 = n ∧ ∀ i : Nat, (i : Int) < n → cmEq c i (cmK txt len i) (vlK txt len i) := by
  obtain ⟨hn, h1⟩ := h
  obtain ⟨k, hk⟩ : ∃ k : Nat, (k : Int) + 1 = n := ⟨(n - 1).toNat, by omega⟩
  rw [show (n - 1).toNat = k by omega] at h1
  have s := seq_eq hl.1 h1
  have t := seq_pos hl.1 s
  obtain ⟨b1, b2, b3, b4⟩ := s
  have b4 : (pNx txt len (psk txt len k)).1 = 1 ∧ cmEq c k (cmK txt len k) (vlK txt len k) := b4.elim (fun g => g.2) (fun g => absurd g.1 (by decide))
  have hk2 : k < 60 := by omega
  have g := cnt_go (txt := txt) (len := len) (k := k) (by omega) (fun i hi => ⟨(b2 i hi).1, by have := (b2 i hi).2.1; omega⟩)
  refine ⟨?_, fun i hi => ?_⟩
  · rw [g, cnt_at hk2, if_pos b4.1, if_pos b1.symm]
    exact hk
  · by_cases q : i = k
    · subst q; exact b4.2
    · exact b3 i (by omega)
