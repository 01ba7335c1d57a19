/-! ===== what a command does to a state: refusals, effects ===== -/
theorem swV_all : ∀ c : Nat, c < 8 → (c = 0 ∧ swV c = 1) ∨ (c = 1 ∧ swV c = 2) ∨ (c = 2 ∧ swV c = 3) ∨ (c = 3 ∧ swV c = 4) ∨ (c = 4 ∧ swV c = 5) ∨ (c = 5 ∧ swV c = 6) ∨ (c = 6 ∧ swV c = 7) ∨ (c = 7 ∧ swV c = 0) := by decide
def portF (ports z : Int) : Prop := (z = 3 ∧ 10 ≤ ports) ∨ (z = 0 ∧ ports < 10)
def leavF (cnt i z : Int) : Prop := (z = 0 ∧ 0 ≤ i ∧ i < cnt) ∨ (z = 1 ∧ ¬ (0 ≤ i ∧ i < cnt))
def fogF (n z : Int) : Prop := (z = 2 ∧ ¬ (0 ≤ n ∧ n ≤ 9)) ∨ (z = 0 ∧ 0 ≤ n ∧ n ≤ 9)
def fltC (ports legs : Int) (lower upper : Int → Int) (cnt : Int) (E : Int → Int → Int → Int → Prop) (c : Nat) (a b x y z : Int) : Prop :=
  (c = 0 ∧ portF ports z) ∨ (c = 1 ∧ legF ports legs lower upper a b x y z) ∨ (c = 2 ∧ cutF ports legs lower upper a b z) ∨ (c = 3 ∧ shipF ports cnt E a b x z) ∨ (c = 4 ∧ payF cnt a b z) ∨ (c = 5 ∧ leavF cnt a z) ∨ (c = 6 ∧ fogF a z) ∨ (c = 7 ∧ z = 0)
theorem fltC_0 {ports legs : Int} {lower upper : Int → Int} {cnt : Int} {E : Int → Int → Int → Int → Prop} {c : Nat} {a b x y z : Int} (hc : c = 0) (h : portF ports z) : fltC ports legs lower upper cnt E c a b x y z := Or.inl (⟨hc, h⟩)
theorem fltC_z0 {ports legs : Int} {lower upper : Int → Int} {cnt : Int} {E : Int → Int → Int → Int → Prop} {c : Nat} {a b x y z : Int} (hc : c = 0) (h : fltC ports legs lower upper cnt E c a b x y z) : portF ports z := by
  rcases h with h | h | h | h | h | h | h | h
  · exact h.2
  · exfalso; omega
  · exfalso; omega
  · exfalso; omega
  · exfalso; omega
  · exfalso; omega
  · exfalso; omega
  · exfalso; omega
theorem fltC_1 {ports legs : Int} {lower upper : Int → Int} {cnt : Int} {E : Int → Int → Int → Int → Prop} {c : Nat} {a b x y z : Int} (hc : c = 1) (h : legF ports legs lower upper a b x y z) : fltC ports legs lower upper cnt E c a b x y z := Or.inr (Or.inl (⟨hc, h⟩))
theorem fltC_z1 {ports legs : Int} {lower upper : Int → Int} {cnt : Int} {E : Int → Int → Int → Int → Prop} {c : Nat} {a b x y z : Int} (hc : c = 1) (h : fltC ports legs lower upper cnt E c a b x y z) : legF ports legs lower upper a b x y z := by
  rcases h with h | h | h | h | h | h | h | h
  · exfalso; omega
  · exact h.2
  · exfalso; omega
  · exfalso; omega
  · exfalso; omega
  · exfalso; omega
  · exfalso; omega
  · exfalso; omega
theorem fltC_2 {ports legs : Int} {lower upper : Int → Int} {cnt : Int} {E : Int → Int → Int → Int → Prop} {c : Nat} {a b x y z : Int} (hc : c = 2) (h : cutF ports legs lower upper a b z) : fltC ports legs lower upper cnt E c a b x y z := Or.inr (Or.inr (Or.inl (⟨hc, h⟩)))
theorem fltC_z2 {ports legs : Int} {lower upper : Int → Int} {cnt : Int} {E : Int → Int → Int → Int → Prop} {c : Nat} {a b x y z : Int} (hc : c = 2) (h : fltC ports legs lower upper cnt E c a b x y z) : cutF ports legs lower upper a b z := by
  rcases h with h | h | h | h | h | h | h | h
  · exfalso; omega
  · exfalso; omega
  · exact h.2
  · exfalso; omega
  · exfalso; omega
  · exfalso; omega
  · exfalso; omega
  · exfalso; omega
theorem fltC_3 {ports legs : Int} {lower upper : Int → Int} {cnt : Int} {E : Int → Int → Int → Int → Prop} {c : Nat} {a b x y z : Int} (hc : c = 3) (h : shipF ports cnt E a b x z) : fltC ports legs lower upper cnt E c a b x y z := Or.inr (Or.inr (Or.inr (Or.inl (⟨hc, h⟩))))
theorem fltC_z3 {ports legs : Int} {lower upper : Int → Int} {cnt : Int} {E : Int → Int → Int → Int → Prop} {c : Nat} {a b x y z : Int} (hc : c = 3) (h : fltC ports legs lower upper cnt E c a b x y z) : shipF ports cnt E a b x z := by
  rcases h with h | h | h | h | h | h | h | h
  · exfalso; omega
  · exfalso; omega
  · exfalso; omega
  · exact h.2
  · exfalso; omega
  · exfalso; omega
  · exfalso; omega
  · exfalso; omega
theorem fltC_4 {ports legs : Int} {lower upper : Int → Int} {cnt : Int} {E : Int → Int → Int → Int → Prop} {c : Nat} {a b x y z : Int} (hc : c = 4) (h : payF cnt a b z) : fltC ports legs lower upper cnt E c a b x y z := Or.inr (Or.inr (Or.inr (Or.inr (Or.inl (⟨hc, h⟩)))))
theorem fltC_z4 {ports legs : Int} {lower upper : Int → Int} {cnt : Int} {E : Int → Int → Int → Int → Prop} {c : Nat} {a b x y z : Int} (hc : c = 4) (h : fltC ports legs lower upper cnt E c a b x y z) : payF cnt a b z := by
  rcases h with h | h | h | h | h | h | h | h
  · exfalso; omega
  · exfalso; omega
  · exfalso; omega
  · exfalso; omega
  · exact h.2
  · exfalso; omega
  · exfalso; omega
  · exfalso; omega
theorem fltC_5 {ports legs : Int} {lower upper : Int → Int} {cnt : Int} {E : Int → Int → Int → Int → Prop} {c : Nat} {a b x y z : Int} (hc : c = 5) (h : leavF cnt a z) : fltC ports legs lower upper cnt E c a b x y z := Or.inr (Or.inr (Or.inr (Or.inr (Or.inr (Or.inl (⟨hc, h⟩))))))
theorem fltC_z5 {ports legs : Int} {lower upper : Int → Int} {cnt : Int} {E : Int → Int → Int → Int → Prop} {c : Nat} {a b x y z : Int} (hc : c = 5) (h : fltC ports legs lower upper cnt E c a b x y z) : leavF cnt a z := by
  rcases h with h | h | h | h | h | h | h | h
  · exfalso; omega
  · exfalso; omega
  · exfalso; omega
  · exfalso; omega
  · exfalso; omega
  · exact h.2
  · exfalso; omega
  · exfalso; omega
theorem fltC_6 {ports legs : Int} {lower upper : Int → Int} {cnt : Int} {E : Int → Int → Int → Int → Prop} {c : Nat} {a b x y z : Int} (hc : c = 6) (h : fogF a z) : fltC ports legs lower upper cnt E c a b x y z := Or.inr (Or.inr (Or.inr (Or.inr (Or.inr (Or.inr (Or.inl (⟨hc, h⟩)))))))
theorem fltC_z6 {ports legs : Int} {lower upper : Int → Int} {cnt : Int} {E : Int → Int → Int → Int → Prop} {c : Nat} {a b x y z : Int} (hc : c = 6) (h : fltC ports legs lower upper cnt E c a b x y z) : fogF a z := by
  rcases h with h | h | h | h | h | h | h | h
  · exfalso; omega
  · exfalso; omega
  · exfalso; omega
  · exfalso; omega
  · exfalso; omega
  · exfalso; omega
  · exact h.2
  · exfalso; omega
theorem fltC_7 {ports legs : Int} {lower upper : Int → Int} {cnt : Int} {E : Int → Int → Int → Int → Prop} {c : Nat} {a b x y z : Int} (hc : c = 7) (h : z = 0) : fltC ports legs lower upper cnt E c a b x y z := Or.inr (Or.inr (Or.inr (Or.inr (Or.inr (Or.inr (Or.inr (⟨hc, h⟩)))))))
theorem fltC_z7 {ports legs : Int} {lower upper : Int → Int} {cnt : Int} {E : Int → Int → Int → Int → Prop} {c : Nat} {a b x y z : Int} (hc : c = 7) (h : fltC ports legs lower upper cnt E c a b x y z) : z = 0 := by
  rcases h with h | h | h | h | h | h | h | h
  · exfalso; omega
  · exfalso; omega
  · exfalso; omega
  · exfalso; omega
  · exfalso; omega
  · exfalso; omega
  · exfalso; omega
  · exact h.2
def sPort (s : Nat → Int → Int) : Nat → Int → Int := mkS (s 0 0 + 1) (s 1 0) (s 2) (s 3) (s 4) (s 5) (s 6) (s 7 0) (s 8) (s 9) (s 10) (s 11) (s 12) (s 13 0) (s 14 0) (s 15 0) (s 16 0) (s 17 0) (s 18 0)
def sLeg (s : Nat → Int → Int) (a b w r p : Int) : Nat → Int → Int := mkS (s 0 0) (s 1 0 + 1) (zU (shf (s 2) p (s 1 0)) p (min a b)) (zU (shf (s 3) p (s 1 0)) p (max a b)) (zU (shf (s 4) p (s 1 0)) p w) (zU (shf (s 5) p (s 1 0)) p r) (zU (shf (s 6) p (s 1 0)) p 0) (s 7 0) (s 8) (s 9) (s 10) (s 11) (s 12) (s 13 0) (s 14 0) (s 15 0) (s 16 0) (s 17 0) (s 18 0)
def sCut (s : Nat → Int → Int) (p : Int) : Nat → Int → Int := mkS (s 0 0) (s 1 0 - 1) (dlf (s 2) p (s 1 0)) (dlf (s 3) p (s 1 0)) (dlf (s 4) p (s 1 0)) (dlf (s 5) p (s 1 0)) (dlf (s 6) p (s 1 0)) (s 7 0) (s 8) (s 9) (s 10) (s 11) (s 12) (s 13 0) (s 14 0) (s 15 0) (s 16 0) (s 17 0) (s 18 0)
def sShip (s : Nat → Int → Int) (a b w : Int) : Nat → Int → Int := mkS (s 0 0) (s 1 0) (s 2) (s 3) (s 4) (s 5) (s 6) (s 7 0 + 1) (zU (s 8) (s 7 0) a) (zU (s 9) (s 7 0) b) (zU (s 10) (s 7 0) w) (zU (s 11) (s 7 0) 0) (zU (s 12) (s 7 0) 0) (s 13 0) (s 14 0) (s 15 0) (s 16 0) (s 17 0) (s 18 0 + w)
def sPay (s : Nat → Int → Int) (i w : Int) : Nat → Int → Int := mkS (s 0 0) (s 1 0) (s 2) (s 3) (s 4) (s 5) (s 6) (s 7 0) (s 8) (s 9) (zU (s 10) i (s 10 i + w)) (s 11) (s 12) (s 13 0) (s 14 0) (s 15 0) (s 16 0) (s 17 0) (s 18 0 + w)
def sLeav (s : Nat → Int → Int) (i : Int) : Nat → Int → Int := mkS (s 0 0) (s 1 0) (s 2) (s 3) (s 4) (s 5) (s 6) (s 7 0 - 1) (dlf (s 8) i (s 7 0)) (dlf (s 9) i (s 7 0)) (dlf (s 10) i (s 7 0)) (dlf (s 11) i (s 7 0)) (dlf (s 12) i (s 7 0)) (s 13 0) (s 14 0) (s 15 0) (s 16 0) (s 17 0) (s 18 0 - s 10 i)
def sFog (s : Nat → Int → Int) (n : Int) : Nat → Int → Int := mkS (s 0 0) (s 1 0) (s 2) (s 3) (s 4) (s 5) (s 6) (s 7 0) (s 8) (s 9) (s 10) (s 11) (s 12) (s 13 0) (s 14 0) n (s 16 0) (s 17 0) (s 18 0)
def sNig (s : Nat → Int → Int) (tp sh : Int → Int) (g : Int) : Nat → Int → Int := mkS (s 0 0) (s 1 0) (s 2) (s 3) (s 4) (s 5) (mtUp (s 1 0) (s 5) g (s 6)) (s 7 0) (s 8) (s 9) (updTo (s 7 0) (s 10) (fun j => s 10 j - nSh tp sh j + nBk (s 15 0) tp sh j)) (updTo (s 7 0) (s 11) (fun j => s 11 j + tp j)) (updTo (s 7 0) (s 12) (fun j => s 12 j + (1 - tp j))) g (s 14 0 + 1) (if 0 < s 15 0 then s 15 0 - 1 else s 15 0) (s 16 0 + sm (fun j => nSh tp sh j - nBk (s 15 0) tp sh j) (s 7 0).toNat) (s 17 0 + sm (nBk (s 15 0) tp sh) (s 7 0).toNat) (s 18 0)
def sE (s : Nat → Int → Int) : Int → Int → Int → Int → Prop := eg (s 1 0) (s 2) (s 3) (s 4) (s 5)
def effC (c : Nat) (a b x y : Int) (s s' : Nat → Int → Int) : Prop :=
  (c = 0 ∧ s' = sPort s) ∨ (c = 1 ∧ ∃ p, (0 ≤ p ∧ p ≤ s 1 0) ∧ (∀ j, 0 ≤ j → j < p → legLt (s 5 j) (s 4 j) (s 2 j) (s 3 j) y x (min a b) (max a b)) ∧ (p = s 1 0 ∨ ¬ legLt (s 5 p) (s 4 p) (s 2 p) (s 3 p) y x (min a b) (max a b)) ∧ s' = sLeg s a b x y p) ∨
  (c = 2 ∧ ∃ p, (0 ≤ p ∧ p < s 1 0 ∧ s 2 p = min a b ∧ s 3 p = max a b) ∧ s' = sCut s p) ∨ (c = 3 ∧ s' = sShip s a b x) ∨ (c = 4 ∧ s' = sPay s a b) ∨ (c = 5 ∧ s' = sLeav s a) ∨ (c = 6 ∧ s' = sFog s a) ∨
  (c = 7 ∧ ∃ tp nd sh g, isPlan (sE s) (s 7 0) (s 8) (s 9) (s 10) tp nd sh ∧ isGr tp nd g ∧ s' = sNig s tp sh g)
theorem effC_0 {c : Nat} {a b x y : Int} {s s' : Nat → Int → Int} (hc : c = 0) (h : s' = sPort s) : effC c a b x y s s' := Or.inl (⟨hc, h⟩)
theorem effC_1 {c : Nat} {a b x y : Int} {s s' : Nat → Int → Int} (hc : c = 1) (p : Int) (h0 : 0 ≤ p ∧ p ≤ s 1 0) (h1 : ∀ j, 0 ≤ j → j < p → legLt (s 5 j) (s 4 j) (s 2 j) (s 3 j) y x (min a b) (max a b)) (h2 : p = s 1 0 ∨ ¬ legLt (s 5 p) (s 4 p) (s 2 p) (s 3 p) y x (min a b) (max a b)) (h : s' = sLeg s a b x y p) : effC c a b x y s s' := Or.inr (Or.inl (⟨hc, p, h0, h1, h2, h⟩))
theorem effC_2 {c : Nat} {a b x y : Int} {s s' : Nat → Int → Int} (hc : c = 2) (p : Int) (h0 : 0 ≤ p ∧ p < s 1 0 ∧ s 2 p = min a b ∧ s 3 p = max a b) (h : s' = sCut s p) : effC c a b x y s s' := Or.inr (Or.inr (Or.inl (⟨hc, p, h0, h⟩)))
theorem effC_3 {c : Nat} {a b x y : Int} {s s' : Nat → Int → Int} (hc : c = 3) (h : s' = sShip s a b x) : effC c a b x y s s' := Or.inr (Or.inr (Or.inr (Or.inl (⟨hc, h⟩))))
theorem effC_4 {c : Nat} {a b x y : Int} {s s' : Nat → Int → Int} (hc : c = 4) (h : s' = sPay s a b) : effC c a b x y s s' := Or.inr (Or.inr (Or.inr (Or.inr (Or.inl (⟨hc, h⟩)))))
theorem effC_5 {c : Nat} {a b x y : Int} {s s' : Nat → Int → Int} (hc : c = 5) (h : s' = sLeav s a) : effC c a b x y s s' := Or.inr (Or.inr (Or.inr (Or.inr (Or.inr (Or.inl (⟨hc, h⟩))))))
theorem effC_6 {c : Nat} {a b x y : Int} {s s' : Nat → Int → Int} (hc : c = 6) (h : s' = sFog s a) : effC c a b x y s s' := Or.inr (Or.inr (Or.inr (Or.inr (Or.inr (Or.inr (Or.inl (⟨hc, h⟩)))))))
theorem effC_7 {c : Nat} {a b x y : Int} {s s' : Nat → Int → Int} {tp nd sh : Int → Int} {g : Int} (hc : c = 7) (h1 : isPlan (sE s) (s 7 0) (s 8) (s 9) (s 10) tp nd sh) (h2 : isGr tp nd g) (h : s' = sNig s tp sh g) : effC c a b x y s s' := Or.inr (Or.inr (Or.inr (Or.inr (Or.inr (Or.inr (Or.inr (⟨hc, tp, nd, sh, g, h1, h2, h⟩)))))))
