/-! ===== the numbers of a command are small ===== -/
theorem vrg_s {v : Int → Int} {i x : Int} (h : ∀ j, 0 ≤ j → j < 4 → 0 ≤ v j ∧ v j ≤ 9999) (hx : 0 ≤ x ∧ x ≤ 9999) : ∀ j, 0 ≤ j → j < 4 → 0 ≤ zU v i x j ∧ zU v i x j ≤ 9999 := by
  intro j j0 j1
  by_cases e : j = i
  · rw [e, zU_same]; exact hx
  · rw [zU_ne e]; exact h j j0 j1
theorem nvD_9999 {txt : Int → Int} {len p m : Int} (h0 : 0 ≤ m) (h : m ≤ 4) (hp : p ≤ len) : 0 ≤ nvD txt p (ctD txt len m.toNat p).toNat ∧ nvD txt p (ctD txt len m.toNat p).toNat ≤ 9999 := by
  have a := ctD_in txt len m.toNat p hp
  have b := nvD_in (txt := txt) (len := len) (n := (ctD txt len m.toNat p).toNat) (p := p) (m := m.toNat) (by omega)
  generalize hgn : (ctD txt len m.toNat p).toNat = n at *
  have c : n = 0 ∨ n = 1 ∨ n = 2 ∨ n = 3 ∨ n = 4 := by omega
  have e0 : (10 : Int) ^ 0 = 1 := by decide
  have e1 : (10 : Int) ^ 1 = 10 := by decide
  have e2 : (10 : Int) ^ 2 = 100 := by decide
  have e3 : (10 : Int) ^ 3 = 1000 := by decide
  have e4 : (10 : Int) ^ 4 = 10000 := by decide
  rcases c with rfl | rfl | rfl | rfl | rfl
  · rw [e0] at b; omega
  · rw [e1] at b; omega
  · rw [e2] at b; omega
  · rw [e3] at b; omega
  · rw [e4] at b; omega
