/-! ===== rows filled place by place ===== -/
theorem upd_all {P : Int → Int → Prop} {g : Int → Int} {i v : Int} (h : ∀ j, 0 ≤ j → j < i → P j (g j)) (hv : P i v) : ∀ j, 0 ≤ j → j < i + 1 → P j (zU g i v j) := by
  intro j h0 h1
  by_cases e : j = i
  · subst e
    rw [zU_same]
    exact hv
  · rw [zU_ne e]
    exact h j h0 (by omega)
theorem upd_keep {P : Int → Int → Prop} {g : Int → Int} {i : Int} (h : ∀ j, 0 ≤ j → j < i → P j (g j)) (hv : P i (g i)) : ∀ j, 0 ≤ j → j < i + 1 → P j (g j) := by
  intro j h0 h1
  by_cases e : j = i
  · subst e
    exact hv
  · exact h j h0 (by omega)
theorem nothing_yet {P : Int → Prop} : ∀ j : Int, 0 ≤ j → j < 0 → P j := fun j h0 h1 => absurd h1 (by omega)
theorem begin_at {s : Int → Int} {src : Int} (h : ∀ j, 0 ≤ j → j < 10 → s j = -1) : ∀ x, 0 ≤ x → x < 10 → zU s src 0 x = if x = src then 0 else -1 := by
  intro x x0 x1
  by_cases e : x = src
  · rw [if_pos e, e, zU_same]
  · rw [if_neg e, zU_ne e, h x x0 x1]
theorem join_same {g : Int → Int} {a b : Int} (h : g a = g b) : ∀ j, 0 ≤ j → j < 10 → g j = if g j = g b then g a else g j := by
  intro j _ _
  by_cases e : g j = g b
  · rw [if_pos e, h, e]
  · rw [if_neg e]
/-! the nearest that is not seen yet -/
def NuI (n s : Int → Int) (i best : Int) : Prop := (-1 ≤ best ∧ best < i) ∧ (best = -1 → ∀ j, 0 ≤ j → j < i → ¬ (n j = 0 ∧ s j ≠ -1)) ∧ (best ≠ -1 → n best = 0 ∧ s best ≠ -1 ∧ ∀ j, 0 ≤ j → j < i → n j = 0 → s j ≠ -1 → s best ≤ s j)
theorem NuI_0 (n s : Int → Int) : NuI n s 0 (-1) := ⟨by omega, fun _ j h0 h1 => absurd h1 (by omega), fun h => absurd rfl h⟩
theorem NuI_skip {n s : Int → Int} {i best : Int} (i0 : 0 ≤ i) (h : NuI n s i best) (hs : ¬ (n i = 0 ∧ s i ≠ -1)) : NuI n s (i + 1) best := by
  obtain ⟨h1, h2, h3⟩ := h
  refine ⟨by omega, fun e j j0 j1 => ?_, fun e => ⟨(h3 e).1, (h3 e).2.1, fun j j0 j1 g1 g2 => ?_⟩⟩
  · by_cases z : j = i
    · subst z; exact hs
    · exact h2 e j j0 (by omega)
  · by_cases z : j = i
    · subst z; exact absurd ⟨g1, g2⟩ hs
    · exact (h3 e).2.2 j j0 (by omega) g1 g2
theorem NuI_keep {n s : Int → Int} {i best : Int} (h : NuI n s i best) (hb : best ≠ -1) (hs : s best ≤ s i) : NuI n s (i + 1) best := by
  obtain ⟨h1, h2, h3⟩ := h
  refine ⟨by omega, fun e => absurd e hb, fun e => ⟨(h3 e).1, (h3 e).2.1, fun j j0 j1 g1 g2 => ?_⟩⟩
  by_cases z : j = i
  · subst z; exact hs
  · exact (h3 e).2.2 j j0 (by omega) g1 g2
theorem NuI_take {n s : Int → Int} {i best : Int} (i0 : 0 ≤ i) (h : NuI n s i best) (hi : n i = 0 ∧ s i ≠ -1) (hs : best = -1 ∨ s i < s best) : NuI n s (i + 1) i := by
  obtain ⟨h1, h2, h3⟩ := h
  refine ⟨by omega, fun e => by omega, fun _ => ⟨hi.1, hi.2, fun j j0 j1 g1 g2 => ?_⟩⟩
  by_cases z : j = i
  · subst z; exact Int.le_refl _
  · by_cases e : best = -1
    · exact absurd ⟨g1, g2⟩ (h2 e j j0 (by omega))
    · have := (h3 e).2.2 j j0 (by omega) g1 g2
      omega
/-! going on from one port -/
def GoI (E Ek : Int → Int → Int → Prop) (a : Int) (s s' : Int → Int) : Prop := (∀ x, 0 ≤ x → x < 10 → s' x = s x ∨ (∃ w, E a x w ∧ s' x = s a + w ∧ (s x = -1 ∨ s a + w < s x))) ∧ ∀ x w, Ek a x w → s' x ≠ -1 ∧ s' x ≤ s a + w
theorem GoI_a {E Ek : Int → Int → Int → Prop} {a ports : Int} {s s' : Int → Int} (hp : ports ≤ 10) (hE : egOk E ports) (ha : 0 ≤ a ∧ a < ports) (h : GoI E Ek a s s') : s' a = s a := by
  rcases h.1 a ha.1 (by omega) with q | ⟨w, e1, -⟩
  · exact q
  · exact absurd rfl (hE.1 a a w e1).2.2.2.2.2.2
theorem GoI_val {E Ek : Int → Int → Int → Prop} {a ports : Int} {s s' : Int → Int} (hE : egOk E ports) (h : GoI E Ek a s s') (hs : ∀ x, 0 ≤ x → x < 10 → s x = -1 ∨ (0 ≤ s x ∧ s x ≤ 900)) (ha : 0 ≤ a ∧ a < 10) {x : Int} (x0 : 0 ≤ x) (x1 : x < 10) : -1 ≤ s' x ∧ s' x ≤ 1000 := by
  have hx := hs x x0 x1
  have h2 := hs a ha.1 ha.2
  rcases h.1 x x0 x1 with q | ⟨w, e1, e2, e3⟩
  · omega
  · have := hE.1 a x w e1
    omega
theorem GoI_0 {E : Int → Int → Int → Prop} {a : Int} {s : Int → Int} {lower upper leng reach : Int → Int} {r : Int} : GoI E (eg 0 lower upper leng reach r) a s s := ⟨fun _ _ _ => Or.inl rfl, fun x w h => absurd h (eg_0 a x w)⟩
theorem GoI_skip {E : Int → Int → Int → Prop} {a k : Int} {s s' : Int → Int} {lower upper leng reach : Int → Int} {r : Int} (hr : ¬ reach k ≤ r) (h : GoI E (eg k lower upper leng reach r) a s s') : GoI E (eg (k + 1) lower upper leng reach r) a s s' := ⟨h.1, fun x w z => h.2 x w ((eg_skip hr a x w).mp z)⟩
theorem GoI_no {E : Int → Int → Int → Prop} {a k : Int} {s s' : Int → Int} {lower upper leng reach : Int → Int} {r : Int} (k0 : 0 ≤ k) (hr : reach k ≤ r) (h1 : ¬ lower k = a) (h2 : ¬ upper k = a) (h : GoI E (eg k lower upper leng reach r) a s s') : GoI E (eg (k + 1) lower upper leng reach r) a s s' := ⟨h.1, fun x w z => by
  rcases (eg_succ k0 hr a x w).mp z with y | ⟨-, ⟨y1, -⟩ | ⟨-, y2⟩⟩
  · exact h.2 x w y
  · exact absurd y1 h1
  · exact absurd y2 h2⟩
theorem GoI_go {E : Int → Int → Int → Prop} {a b k ports : Int} {s s' : Int → Int} {lower upper leng reach : Int → Int} {r : Int} (hp : ports ≤ 10) (hE : egOk E ports) (ha : 0 ≤ a ∧ a < ports) (hsa : 0 ≤ s a) (k0 : 0 ≤ k) (hr : reach k ≤ r) (hab : (lower k = a ∧ upper k = b) ∨ (lower k = b ∧ upper k = a)) (he : E a b (leng k)) (hsub : ∀ a b w, eg k lower upper leng reach r a b w → E a b w) (h : GoI E (eg k lower upper leng reach r) a s s') : GoI E (eg (k + 1) lower upper leng reach r) a s (rlx s' a b (leng k)) := by
  have sa := GoI_a hp hE ha h
  have hw := hE.1 _ _ _ he
  have le : ∀ x, 0 ≤ x → x < 10 → s' x ≠ -1 → rlx s' a b (leng k) x ≠ -1 ∧ rlx s' a b (leng k) x ≤ s' x := by
    intro x x0 x1 hx
    rcases rlx_at (s := s') (a := a) (b := b) (w := leng k) x with q | ⟨q1, q2, q3, q4⟩
    · rw [q]; exact ⟨hx, Int.le_refl _⟩
    · rw [q2]
      rw [← q1] at q4
      omega
  refine ⟨fun x x0 x1 => ?_, fun x w z => ?_⟩
  · rcases rlx_at (s := s') (a := a) (b := b) (w := leng k) x with q | ⟨q1, q2, q3, q4⟩
    · rw [q]
      exact h.1 x x0 x1
    · refine Or.inr ⟨leng k, by rw [q1]; exact he, by rw [q2, sa], ?_⟩
      rw [← q1] at q4
      rcases h.1 x x0 x1 with y | ⟨w, e1, e2, e3⟩
      · rw [y] at q4; omega
      · have := hE.1 a x w e1
        omega
  · have hx : 0 ≤ x ∧ x < 10 := by
      rcases (eg_succ k0 hr a x w).mp z with y | ⟨-, ⟨-, y1⟩ | ⟨y1, -⟩⟩
      · have := hE.1 a x w (hsub a x w y); omega
      · omega
      · omega
    rcases (eg_succ k0 hr a x w).mp z with y | ⟨y0, y1⟩
    · have c := h.2 x w y
      have d := le x hx.1 hx.2 c.1
      omega
    · have hxb : x = b := by omega
      subst hxb
      subst y0
      have d := rlx_end (s := s') (a := a) (b := x) (w := leng k) (by omega) (by omega) (by omega)
      omega
theorem DjI_rng {E : Int → Int → Int → Prop} {src ports rd : Int} {s n : Int → Int} (hrd : 0 ≤ rd ∧ rd ≤ 10) (h : DjI E src ports s n rd) : zRn 10 s := by
  intro j j0 j1
  have := h.2.1 j j0 j1
  omega
theorem DjI_900 {E : Int → Int → Int → Prop} {src ports rd : Int} {s n : Int → Int} (hrd : 0 ≤ rd ∧ rd ≤ 9) (h : DjI E src ports s n rd) : ∀ x, 0 ≤ x → x < 10 → s x = -1 ∨ (0 ≤ s x ∧ s x ≤ 900) := by
  intro j j0 j1
  have := h.2.1 j j0 j1
  omega
theorem BfS_val {Dv s : Int → Int} {src top x : Int} (h : BfS Dv src s top) (x0 : 0 ≤ x) (x1 : x < 10) (ht : top ≤ 1000000) : -1 ≤ s x ∧ s x ≤ 1000000 := by
  have := h.2 x x0 x1
  omega
theorem BfK_top {Dv s0 s : Int → Int} {Ek : Int → Int → Int → Prop} {src top top' fl : Int} (ht : top ≤ top') (h : BfK Dv Ek src s0 s top fl) : BfK Dv Ek src s0 s top' fl :=
  ⟨h.1, ⟨h.2.1.1, fun x x0 x1 => by have := h.2.1.2 x x0 x1; omega⟩, h.2.2.1, h.2.2.2.1, h.2.2.2.2⟩
theorem SpI_out {E : Int → Int → Int → Prop} {src dst : Int} {n : Int → Int} {rd flag : Int} (hd : 0 ≤ dst ∧ dst < 10) (hf : flag = 0 ∨ flag = 1) (h : SpI E src n rd flag) (ho : flag = 0 ∨ ¬ n dst = 0 ∨ 10 ≤ rd) : (n dst = 1 ∧ cn E src dst) ∨ (n dst = 0 ∧ ¬ cn E src dst) := by
  have a := h.2.1 dst hd.1 hd.2
  by_cases z : n dst = 1
  · exact Or.inl ⟨z, h.2.2.1 dst hd.1 hd.2 z⟩
  · rcases hf with q | q
    · exact Or.inr ⟨by omega, SpI_closed h.1 z (h.2.2.2.2 q)⟩
    · subst q
      have := SpI_room h
      omega
theorem cn_low {legs : Int} {lower upper leng reach : Int → Int} {ports i j q : Int} (h : ChV ports legs lower upper leng reach) (hne : i ≠ j) (hq : q < 1) : ¬ cn (eg legs lower upper leng reach q) i j := by
  intro hc
  refine hne (hc (fun z => z) ?_)
  rintro a b w ⟨k, k0, k1, k2, -⟩
  have := h.2.2.2.2.1 k k0 k1
  omega
theorem sepR {g : Int → Int} (h : ∀ j, 0 ≤ j → j < 10 → g j = j) : zRn 10 g := by
  intro j j0 j1
  rw [h j j0 j1]
  omega
theorem joinR {g g' : Int → Int} {a b : Int} (h : zRn 10 g) (ha : 0 ≤ a ∧ a < 10) (hg : ∀ j, 0 ≤ j → j < 10 → g' j = if g j = g b then g a else g j) : zRn 10 g' := by
  intro j j0 j1
  rw [hg j j0 j1]
  by_cases e : g j = g b
  · rw [if_pos e]; exact h a ha.1 ha.2
  · rw [if_neg e]; exact h j j0 j1
theorem cn_e0 {lower upper leng reach : Int → Int} {r i j : Int} (hne : i ≠ j) : ¬ cn (eg 0 lower upper leng reach r) i j := fun hc => hne (hc (fun z => z) (fun a b w h => absurd h (eg_0 a b w)))
theorem sm_next {f : Int → Int} {i : Int} (h : 0 ≤ i) : sm f i.toNat + f i = sm f (i + 1).toNat := by
  rw [show (i + 1).toNat = i.toNat + 1 by omega]
  show sm f i.toNat + f i = sm f i.toNat + f (i.toNat : Int)
  rw [Int.toNat_of_nonneg h]
theorem sm_next1 {f : Int → Int} {i : Int} (h : 0 ≤ i) (h1 : f i = 1) : sm f i.toNat + 1 = sm f (i + 1).toNat := by rw [← sm_next h, h1]
theorem sm_next0 {f : Int → Int} {i : Int} (h : 0 ≤ i) (h1 : f i = 0) : sm f i.toNat = sm f (i + 1).toNat := by rw [← sm_next h, h1, Int.add_zero]
