/-! ===== the class's state beside the reference's numbers ===== -/
def RelH (s : Nat → Int → Int) (ms : Int → Int) : Prop := ms 0 = s 0 0 ∧ ms 1 = s 7 0 ∧ ms 2 = s 15 0 ∧ ms 3 = s 13 0 ∧ ms 4 = s 14 0 ∧ ms 5 = s 16 0 ∧ ms 6 = s 17 0
def RelU (s : Nat → Int → Int) (ms : Int → Int) : Prop := ∀ k, 0 ≤ k → k < s 7 0 → suM ms k 0 = s 8 k ∧ suM ms k 1 = s 9 k ∧ suM ms k 2 = s 10 k ∧ suM ms k 3 = s 11 k ∧ suM ms k 4 = s 12 k
def RelA (s : Nat → Int → Int) (ms : Int → Int) : Prop := ∀ j, 0 ≤ j → j < s 1 0 → lgM ms (s 2 j) (s 3 j) 0 = s 4 j ∧ lgM ms (s 2 j) (s 3 j) 1 = s 5 j ∧ lgM ms (s 2 j) (s 3 j) 2 = s 6 j
def RelB (s : Nat → Int → Int) (ms : Int → Int) : Prop := ∀ a b, 0 ≤ a → a < 10 → 0 ≤ b → b < 10 → 0 < lgM ms a b 0 → ∃ j, 0 ≤ j ∧ j < s 1 0 ∧ ((s 2 j = a ∧ s 3 j = b) ∨ (s 2 j = b ∧ s 3 j = a))
def RelC (N : Int) (ms : Int → Int) : Prop := ∀ a b, 0 ≤ a → a < 10 → 0 ≤ b → b < 10 → (∀ w, 0 ≤ w → w ≤ 2 → lgM ms a b w = lgM ms b a w) ∧ 0 ≤ lgM ms a b 0 ∧ (0 ≤ lgM ms a b 1 ∧ lgM ms a b 1 ≤ 20) ∧ (0 ≤ lgM ms a b 2 ∧ lgM ms a b 2 ≤ N)
def RelS (N : Int) (s : Nat → Int → Int) (ms : Int → Int) : Prop := RelH s ms ∧ RelU s ms ∧ RelA s ms ∧ RelB s ms ∧ RelC N ms
abbrev ChS (s : Nat → Int → Int) : Prop := ChV (s 0 0) (s 1 0) (s 2) (s 3) (s 4) (s 5)
abbrev ChW (s : Nat → Int → Int) : Prop := ChU (s 1 0) (s 2) (s 3)
theorem SVk_c {B N : Int} {s : Nat → Int → Int} (h : SVk B N s) : ChS s ∧ ChW s := ⟨h.1, h.2.1⟩
section
variable {N : Int} {s : Nat → Int → Int} {ms : Int → Int} {a b p r : Int}
theorem lgm_mm (h : RelC N ms) (ha : 0 ≤ a ∧ a < 10) (hb : 0 ≤ b ∧ b < 10) {w : Int} (hw : 0 ≤ w ∧ w ≤ 2) : lgM ms (min a b) (max a b) w = lgM ms a b w := by
  by_cases e : a ≤ b
  · rw [show min a b = a by omega, show max a b = b by omega]
  · rw [show min a b = b by omega, show max a b = a by omega]
    exact (h b a hb.1 hb.2 ha.1 ha.2).1 w hw.1 hw.2
theorem inP_10 (hc : ChS s) (hp : inP (s 0 0) a b) : (0 ≤ a ∧ a < 10) ∧ (0 ≤ b ∧ b < 10) := by
  obtain ⟨x0, x1, x2, x3⟩ := hp
  have := hc.2.1
  exact ⟨⟨x0, by omega⟩, ⟨x2, by omega⟩⟩
theorem ch_in (hc : ChS s) {j : Int} (h0 : 0 ≤ j) (h1 : j < s 1 0) : (0 ≤ s 2 j ∧ s 2 j < s 3 j ∧ s 3 j < s 0 0 ∧ s 3 j < 10) ∧ (1 ≤ s 4 j ∧ s 4 j ≤ 99) ∧ (1 ≤ s 5 j ∧ s 5 j ≤ 20) := by
  have q := hc.2.2.2.2.1 j h0 h1
  have := hc.2.1
  omega
theorem rel_at (hc : ChS s) (h : RelS N s ms) (hp : inP (s 0 0) a b) (h0 : 0 ≤ p) (h1 : p < s 1 0) (h2 : s 2 p = min a b) (h3 : s 3 p = max a b) : lgM ms a b 0 = s 4 p ∧ lgM ms a b 1 = s 5 p ∧ lgM ms a b 2 = s 6 p ∧ 1 ≤ s 4 p := by
  obtain ⟨ha, hb⟩ := inP_10 hc hp
  have q := h.2.2.1 p h0 h1
  have hC := h.2.2.2.2
  rw [h2, h3, lgm_mm hC ha hb (by decide), lgm_mm hC ha hb (by decide), lgm_mm hC ha hb (by decide)] at q
  exact ⟨q.1, q.2.1, q.2.2, (ch_in hc h0 h1).2.1.1⟩
theorem rel_has (hc : ChS s) (h : RelS N s ms) (hp : inP (s 0 0) a b) : hasL (s 1 0) (s 2) (s 3) a b ↔ 0 < lgM ms a b 0 := by
  obtain ⟨ha, hb⟩ := inP_10 hc hp
  constructor
  · rintro ⟨k, k0, k1, k2, k3⟩
    have q := rel_at hc h hp k0 k1 k2 k3
    omega
  · intro g
    obtain ⟨j, j0, j1, j2⟩ := h.2.2.2.1 a b ha.1 ha.2 hb.1 hb.2 g
    have q := ch_in hc j0 j1
    refine ⟨j, j0, j1, ?_, ?_⟩
    · rcases j2 with ⟨x, y⟩ | ⟨x, y⟩ <;> omega
    · rcases j2 with ⟨x, y⟩ | ⟨x, y⟩ <;> omega
theorem rel_no (hc : ChS s) (h : RelS N s ms) (hp : inP (s 0 0) a b) : ¬ hasL (s 1 0) (s 2) (s 3) a b ↔ lgM ms a b 0 = 0 := by
  obtain ⟨ha, hb⟩ := inP_10 hc hp
  have q := (h.2.2.2.2 a b ha.1 ha.2 hb.1 hb.2).2.1
  have e := rel_has hc h hp
  constructor
  · intro g
    have : ¬ 0 < lgM ms a b 0 := fun z => g (e.mpr z)
    omega
  · intro g z
    have := e.mp z
    omega
theorem rel_eg (hc : ChS s) (h : RelS N s ms) (r : Int) : eg (s 1 0) (s 2) (s 3) (s 4) (s 5) r = egM ms r := by
  funext a b w
  refine propext ⟨fun g => ?_, fun g => ?_⟩
  · obtain ⟨k, k0, k1, k2, k3, k4⟩ := g
    have q := ch_in hc k0 k1
    have t := h.2.2.1 k k0 k1
    rcases k4 with ⟨rfl, rfl⟩ | ⟨rfl, rfl⟩
    · exact egM_iff.mpr ⟨by omega, by omega, by omega, by omega, by omega, by omega, by omega⟩
    · have sy := (h.2.2.2.2 (s 3 k) (s 2 k) (by omega) (by omega) (by omega) (by omega)).1
      have y0 := sy 0 (by decide) (by decide)
      have y1 := sy 1 (by decide) (by decide)
      exact egM_iff.mpr ⟨by omega, by omega, by omega, by omega, by omega, by omega, by omega⟩
  · obtain ⟨a0, a1, b0, b1, w0, w1, w2⟩ := egM_iff.mp g
    obtain ⟨j, j0, j1, j2⟩ := h.2.2.2.1 a b a0 a1 b0 b1 w0
    have t := h.2.2.1 j j0 j1
    rcases j2 with ⟨x, y⟩ | ⟨x, y⟩
    · rw [x, y] at t
      exact ⟨j, j0, j1, by omega, by omega, Or.inl ⟨x, y⟩⟩
    · have sy := (h.2.2.2.2 a b a0 a1 b0 b1).1
      have y0 := sy 0 (by decide) (by decide)
      have y1 := sy 1 (by decide) (by decide)
      rw [x, y] at t
      exact ⟨j, j0, j1, by omega, by omega, Or.inr ⟨x, y⟩⟩
theorem rel_sE (hc : ChS s) (h : RelS N s ms) : sE s = egM ms := by
  funext r
  exact rel_eg hc h r
theorem rel_MV {B : Int} (hv : SVk B N s) (h : RelS N s ms) (hB : B ≤ 1000000000) (hN : N ≤ 1000000000) : MV ms ∧ MMt ms := by
  obtain ⟨hc, hu, hm, hcc, hs, ⟨hr, hn, hf⟩, hfd, hsum, hbr⟩ := hv
  obtain ⟨⟨e0, e1, e2, e3, e4, e5, e6⟩, hU, hA, hBB, hC⟩ := id h
  have hc : ChS s := hc
  have h99 : ∀ a b, 0 ≤ a → a < 10 → 0 ≤ b → b < 10 → 0 < lgM ms a b 0 → lgM ms a b 0 ≤ 99 ∧ a ≠ b ∧ a < s 0 0 ∧ b < s 0 0 ∧ 1 ≤ lgM ms a b 1 := by
    intro a b a0 a1 b0 b1 g
    obtain ⟨j, j0, j1, j2⟩ := hBB a b a0 a1 b0 b1 g
    have q := ch_in hc j0 j1
    have t := hA j j0 j1
    have sy := (hC a b a0 a1 b0 b1).1
    have y0 := sy 0 (by decide) (by decide)
    have y1 := sy 1 (by decide) (by decide)
    rcases j2 with ⟨x, y⟩ | ⟨x, y⟩
    · rw [x, y] at t; omega
    · rw [x, y] at t; omega
  have hpos : ∀ j : Int, 0 ≤ j → j < ((s 7 0).toNat : Nat) → 0 ≤ s 10 j := fun j j0 j1 => (hs j j0 (by omega)).2.1
  refine ⟨⟨⟨?_, ?_, ?_, ?_, ?_, ?_, ?_, ?_⟩, ?_, ?_, ?_⟩, ?_⟩
  · rw [e0]; exact hc.1
  · rw [e0]; exact hc.2.1
  · rw [e1]; exact hcc.1
  · rw [e1]; exact hcc.2
  · rw [e2]; exact hf.1
  · rw [e2]; exact hf.2
  · rw [e3]; exact hr.1
  · rw [e3]; exact hr.2
  · intro a b w a0 a1 b0 b1 w0 w1
    have q := hC a b a0 a1 b0 b1
    rcases (show w = 0 ∨ w = 1 by omega) with rfl | rfl
    · by_cases g : 0 < lgM ms a b 0
      · have := h99 a b a0 a1 b0 b1 g; omega
      · omega
    · omega
  · intro a b a0 a1 b0 b1
    have q := hC a b a0 a1 b0 b1
    refine ⟨?_, fun g => ?_, q.1⟩
    · by_cases g : 0 < lgM ms a b 0
      · have := h99 a b a0 a1 b0 b1 g; omega
      · omega
    · have := h99 a b a0 a1 b0 b1 g
      rw [e0]
      omega
  · intro k k0 k1
    rw [e1] at k1
    have u := hU k k0 k1
    have q := hs k k0 k1
    have g := sm_has k0 (n := (s 7 0).toNat) (by omega) hpos
    have hp := hc.2.1
    omega
  · intro a b a0 a1 b0 b1
    have q := hC a b a0 a1 b0 b1
    omega
end
