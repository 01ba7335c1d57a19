/-! ===== p57: the shortest way by trying all simple ways (draft, not yet compiled) ===== -/
theorem feas_neg {E : Int → Int → Int → Prop} {ports : Int} (hE : egOk E ports) {φ : Int → Int} (h : feas E φ) : feas E (fun x => -φ x) := by
  intro a b w hab
  have := h b a w (hE.2 a b w hab)
  show -φ b ≤ -φ a + w
  omega
theorem isD_symm {E : Int → Int → Int → Prop} {ports i j d : Int} (hE : egOk E ports) (h : isD E i j d) : isD E j i d := by
  obtain ⟨h1, φ, h2, h3⟩ := h
  refine ⟨fun ψ hψ => ?_, fun x => -φ x, feas_neg hE h2, ?_⟩
  · have := h1 _ (feas_neg hE hψ)
    have e : -ψ j ≤ -ψ i + d := this
    omega
  · show -φ i = -φ j + d
    omega
theorem distP_symm {E : Int → Int → Int → Prop} {ports i j z : Int} (hE : egOk E ports) (h : distP E i j z) : distP E j i z := by
  rcases h with ⟨h1, h2⟩ | ⟨h1, h2, h3⟩
  · exact Or.inl ⟨h1, fun q => h2 (cn_symm q)⟩
  · exact Or.inr ⟨h1, cn_symm h2, isD_symm hE h3⟩
/-- a length of some way from a to dst -/
def wySound (E : Int → Int → Int → Prop) (a dst z : Int) : Prop := cn E a dst ∧ ∀ φ, feas E φ → φ dst ≤ φ a + z
/-- the ports of G are farther from dst than a is -/
def wyFar (D : Int → Int) (G : Int → Prop) (a : Int) : Prop := ∀ g, G g → D g = -1 ∨ D a < D g
/-- what 'shortest' answers from a, the ports of G left out -/
def shW (E : Int → Int → Int → Prop) (G : Int → Prop) (a dst z : Int) : Prop :=
  (0 ≤ z ∧ z ≤ 99999) ∧ (z = 99999 ∨ wySound E a dst z) ∧ ∀ D, isDv E dst D → D a ≠ -1 → wyFar D G a → z ≤ D a
/-- within its loop: the ports ahead of k are tried -/
def shK (E : Int → Int → Int → Prop) (G : Int → Prop) (a dst k best : Int) : Prop :=
  (1 ≤ best ∧ best ≤ 99999) ∧ (best = 99999 ∨ wySound E a dst best) ∧
  ∀ D, isDv E dst D → ∀ x w, 0 ≤ x → x < k → E a x w → ¬ G x → D x ≠ -1 → wyFar D (fun g => G g ∨ g = a) x → best ≤ w + D x
theorem shW_same {E : Int → Int → Int → Prop} {G : Int → Prop} {a : Int} (ha : 0 ≤ a ∧ a < 10) : shW E G a a 0 :=
  ⟨by omega, Or.inr ⟨cn_refl _ _, fun φ _ => by omega⟩, fun D hD hn _ => by rcases Dv_in hD ha.1 ha.2 with q | q <;> omega⟩
theorem shK_0 {E : Int → Int → Int → Prop} {G : Int → Prop} {a dst : Int} : shK E G a dst 0 99999 :=
  ⟨by omega, Or.inl rfl, fun D _ x w x0 x1 => absurd x1 (by omega)⟩
theorem shK_skip {E : Int → Int → Int → Prop} {G : Int → Prop} {a dst k best : Int} (h : shK E G a dst k best) (hno : G k ∨ ∀ w, ¬ E a k w) : shK E G a dst (k + 1) best := by
  obtain ⟨h1, h2, h3⟩ := h
  refine ⟨h1, h2, fun D hD x w x0 x1 hx hg hd hf => ?_⟩
  by_cases e : x = k
  · subst e
    rcases hno with q | q
    · exact absurd q hg
    · exact absurd hx (q w)
  · exact h3 D hD x w x0 (by omega) hx hg hd hf
theorem shK_take {E : Int → Int → Int → Prop} {G G' : Int → Prop} {ports a dst k best w z best' : Int} (hE : egOk E ports) (hu : ∀ a b x y, E a b x → E a b y → x = y) (h : shK E G a dst k best) (he : E a k w) (hG : ∀ g, 0 ≤ g → g < 10 → (G' g ↔ G g ∨ g = a)) (hG2 : ∀ g, G' g → 0 ≤ g ∧ g < 10) (hz : shW E G' k dst z) (hb : best' = min best (w + z)) : shK E G a dst (k + 1) best' := by
  obtain ⟨h1, h2, h3⟩ := h
  obtain ⟨z1, z2, z3⟩ := hz
  have hw := hE.1 a k w he
  refine ⟨by omega, ?_, fun D hD x y x0 x1 hx hg hd hf => ?_⟩
  · by_cases e : best ≤ w + z
    · have : best' = best := by omega
      rw [this]
      exact h2
    · have e2 : best' = w + z := by omega
      rcases z2 with q | q
      · omega
      · right
        rw [e2]
        exact ⟨cn_trans (cn_edge he) q.1, fun φ hφ => by have a1 := q.2 φ hφ; have a2 := hφ a k w he; omega⟩
  · by_cases e : x = k
    · subst e
      have ew := hu a x y w hx he
      subst ew
      have := z3 D hD hd (fun g hg' => hf g ((hG g (hG2 g hg').1 (hG2 g hg').2).mp hg'))
      omega
    · have := h3 D hD x y x0 (by omega) hx hg hd hf
      omega
theorem shK_end {E : Int → Int → Int → Prop} {G : Int → Prop} {ports a dst k best : Int} (hp : ports ≤ 10) (hE : egOk E ports) (ha : 0 ≤ a ∧ a < 10) (hd : 0 ≤ dst ∧ dst < 10) (hne : a ≠ dst) (h : shK E G a dst k best) (hk : ports ≤ k) : shW E G a dst best := by
  obtain ⟨h1, h2, h3⟩ := h
  refine ⟨by omega, h2, fun D hD hn hf => ?_⟩
  obtain ⟨x, w, e1, e2, e3⟩ := Dv_pred hp hE hD hd ha.1 ha.2 hn hne
  have hw := hE.1 x a w e1
  have hxa := hE.2 x a w e1
  have hx : ¬ G x := by
    intro q
    rcases hf x q with y | y <;> omega
  have := h3 D hD x w hw.1 (by omega) hxa hx e2 (fun g hg => by
    rcases hg with q | q
    · rcases hf g q with y | y
      · exact Or.inl y
      · right; omega
    · subst q; right; omega)
  omega
/-- with nothing left out it is the distance -/
theorem shW_dist {E : Int → Int → Int → Prop} {G : Int → Prop} {ports a dst z : Int} (hp : ports ≤ 10) (hE : egOk E ports) (hu : ∀ a b x y, E a b x → E a b y → x = y) (ha : 0 ≤ a ∧ a < 10) (hd : 0 ≤ dst ∧ dst < 10) (hG : ∀ g, ¬ G g) (h : shW E G a dst z) : distP E a dst (if z = 99999 then -1 else z) ∧ (z = 99999 ↔ ¬ cn E a dst) := by
  obtain ⟨h1, h2, h3⟩ := h
  obtain ⟨D, hD⟩ := Dv_ex hp hE hu dst hd.1 hd.2
  have hDa := hD a ha.1 ha.2
  rcases hDa with ⟨q1, q2⟩ | ⟨q1, q2, q3⟩
  · have nc : ¬ cn E a dst := fun y => q2 (cn_symm y)
    have ez : z = 99999 := by
      rcases h2 with y | y
      · exact y
      · exact absurd y.1 nc
    rw [if_pos ez]
    exact ⟨Or.inl ⟨rfl, nc⟩, fun _ => nc, fun _ => ez⟩
  · have c := cn_symm q2
    have up := h3 D hD (by omega) (fun g hg => absurd hg (hG g))
    have b := isD_bound hp hE hd q2 q3
    have ez : z ≠ 99999 := by omega
    have s : wySound E a dst z := by
      rcases h2 with y | y
      · exact absurd y ez
      · exact y
    have q4 := isD_symm hE q3
    obtain ⟨r1, φ, r2, r3⟩ := id q4
    have low := s.2 φ r2
    have e : z = D a := by omega
    rw [if_neg ez, e]
    exact ⟨Or.inr ⟨q1, c, q4⟩, fun y => absurd y (by omega), fun y => absurd c y⟩
