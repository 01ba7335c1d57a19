/-! ===== p57: ways, ranges and groups as the law compares them ===== -/
theorem bitP_0 (x : Int) : ¬ bitP 0 x := by
  rintro ⟨-, -, h⟩
  unfold shI at h
  rw [show (0 : Int).toNat = 0 from rfl, Nat.zero_div] at h
  exact absurd h (by decide)
theorem wDist_uq {r : Int} {v : Nat → Int → Int} {a b z z' : Int} (h : wDist r v a b z) (h' : wDist r v a b z') : z = z' := by
  rcases h with h | ⟨hi, h⟩
  · rcases h' with h' | h'
    · rw [h.2, h'.2]
    · exact absurd h'.1 h.1
  · rcases h' with h' | ⟨-, h'⟩
    · exact absurd hi h'.1
    · rcases h with h | h <;> rcases h' with h' | h'
      · rw [h.1, h'.1]
      · exact absurd (distP_uniq h.2 h'.2).symm h'.1
      · exact absurd (distP_uniq h'.2 h.2).symm h.1
      · exact distP_uniq h.2 h'.2
theorem wDist_cn {r : Int} {v : Nat → Int → Int} {a b z : Int} (hi : inP (v 0 0) a b) (hE : egOk (sE v r) (v 0 0)) (hp : v 0 0 ≤ 10) (h : wDist r v a b z) : (z = -13 ∧ ¬ cn (sE v r) a b) ∨ (0 ≤ z ∧ z ≤ 990 ∧ cn (sE v r) a b ∧ distP (sE v r) a b z) := by
  rcases h with h | ⟨-, h | h⟩
  · exact absurd hi h.1
  · left
    refine ⟨h.1, ?_⟩
    rcases h.2 with q | q
    · exact q.2
    · omega
  · right
    have hi2 := id hi
    obtain ⟨i0, i1, -, -⟩ := hi2
    have hb := distP_in hE hp (by omega) h.2
    rcases id h.2 with q | q
    · exact absurd q.1 h.1
    · exact ⟨q.1, hb.2, q.2.1, h.2⟩
theorem wDist_sh {r : Int} {v : Nat → Int → Int} {a b z : Int} (hi : inP (v 0 0) a b) (hch : ChV (v 0 0) (v 1 0) (v 2) (v 3) (v 4) (v 5)) (hu : ChU (v 1 0) (v 2) (v 3)) (h : shW (sE v r) (bitP 0) a b z) : (z = 99999 ∧ ¬ cn (sE v r) a b ∧ wDist r v a b (-13)) ∨ (z ≠ 99999 ∧ cn (sE v r) a b ∧ wDist r v a b z) := by
  have hi2 := id hi
  obtain ⟨i0, i1, i2, i3⟩ := hi2
  have hp := hch.2.1
  have q := shW_dist hp (hch.egOk r) (hu.eq hch r) ⟨by omega, by omega⟩ ⟨by omega, by omega⟩ bitP_0 h
  by_cases e : z = 99999
  · left
    rw [if_pos e] at q
    exact ⟨e, q.2.mp e, Or.inr ⟨hi, Or.inl ⟨rfl, q.1⟩⟩⟩
  · right
    rw [if_neg e] at q
    have h0 := h.1
    exact ⟨e, Classical.byContradiction fun z9 => e (q.2.mpr z9), Or.inr ⟨hi, Or.inr ⟨by omega, q.1⟩⟩⟩
theorem eg_mon {v : Nat → Int → Int} {r r' : Int} (hr : r ≤ r') : ∀ a b w, sE v r a b w → sE v r' a b w := by
  rintro a b w ⟨k, k0, k1, k2, k3, k4⟩
  exact ⟨k, k0, k1, by omega, k3, k4⟩
/-- a way by fewer legs is no shorter -/
theorem way_le {v : Nat → Int → Int} {a b rng d d' : Int} (hr : rng ≤ 20) (h : distP (sE v rng) a b d) (h0 : 0 ≤ d) (h' : distP (sE v 20) a b d') : 0 ≤ d' ∧ d' ≤ d := by
  rcases h with q | ⟨-, q2, q3⟩
  · omega
  · rcases h' with p | ⟨p1, p2, p3⟩
    · exact absurd (cn_mono (eg_mon hr) q2) p.2
    · obtain ⟨-, φ, f1, f2⟩ := p3
      have h9 := q3.1 φ (fun x y w hxy => f1 x y w (eg_mon hr x y w hxy))
      omega
theorem wNeed_uq {v : Nat → Int → Int} {a b z z' : Int} (h : wNeed v a b z) (h' : wNeed v a b z') : z = z' := by
  rcases h with h | ⟨hi, h⟩
  · rcases h' with h' | h'
    · rw [h.2, h'.2]
    · exact absurd h'.1 h.1
  · rcases h' with h' | ⟨-, h'⟩
    · exact absurd hi h'.1
    · rcases h with h | ⟨hn, h⟩ <;> rcases h' with h' | ⟨hn', h'⟩
      · rw [h.2, h'.2]
      · exact absurd h.1 hn'
      · exact absurd h'.1 hn
      · rcases h with h | h <;> rcases h' with h' | h'
        · rw [h.1, h'.1]
        · exact absurd (needP_uniq h.2 h'.2).symm h'.1
        · exact absurd (needP_uniq h'.2 h.2).symm h.1
        · exact needP_uniq h.2 h'.2
/-- what a needed range says beside way and lit way -/
theorem wNeed_f {v : Nat → Int → Int} {a b z way lit rng : Int} (hi : inP (v 0 0) a b) (hch : ChV (v 0 0) (v 1 0) (v 2) (v 3) (v 4) (v 5)) (hr : 0 ≤ rng ∧ rng ≤ 20) (hw : (way = -13 ∧ ¬ cn (sE v 20) a b) ∨ (0 ≤ way ∧ cn (sE v 20) a b)) (hl : (lit = -13 ∧ ¬ cn (sE v rng) a b) ∨ (0 ≤ lit ∧ cn (sE v rng) a b)) (h : wNeed v a b z) : (a = b ∧ z = -12) ∨ (a ≠ b ∧ way = -13 ∧ z = -13) ∨ (a ≠ b ∧ 0 ≤ way ∧ 1 ≤ z ∧ z ≤ 20 ∧ ((0 ≤ lit ∧ z ≤ rng) ∨ (lit = -13 ∧ rng < z)) ∧ cn (sE v z) a b ∧ ¬ cn (sE v (z - 1)) a b) := by
  rcases h with h | ⟨-, h | ⟨hn, h | h⟩⟩
  · exact absurd hi h.1
  · exact Or.inl h
  · right; left
    have q := need_ways h.2
    have q2 := q.mp rfl
    rcases hw with w | w
    · exact ⟨hn, w.1, h.1⟩
    · exact absurd w.2 q2
  · right; right
    have q := need_ways h.2
    have q3 := need_pos hch hn h.2
    have q4 := need_lit hr.2 h.2 h.1
    have q5 := needP_in h.2
    have c20 : cn (sE v 20) a b := Classical.byContradiction fun z9 => h.1 (q.mpr z9)
    have w0 : 0 ≤ way := by
      rcases hw with w | w
      · exact absurd c20 w.2
      · exact w.1
    have q6 : cn (sE v z) a b ∧ ∀ y, y < z → ¬ cn (sE v y) a b := by
      rcases h.2 with y | y
      · exact absurd y.1 h.1
      · exact ⟨y.2.2.1, y.2.2.2⟩
    refine ⟨hn, w0, by omega, by omega, ?_, q6.1, q6.2 _ (by omega)⟩
    rcases hl with y | y
    · exact Or.inr ⟨y.1, by
        refine Classical.byContradiction fun z9 => y.2 (q4.mpr (by omega))⟩
    · exact Or.inl ⟨y.1, q4.mp y.2⟩
theorem grp_uq {E : Int → Int → Int → Prop} {ports z z' : Int} (h : grpP E ports z) (h' : grpP E ports z') : z = z' := by
  obtain ⟨mn, h1, h2⟩ := h
  obtain ⟨mn', h1', h2'⟩ := h'
  rw [h2, h2']
  refine sm_congr (fun j j0 j1 => ?_)
  rcases h1 j j0 (by omega) with ⟨p, q⟩ | ⟨p, x, x0, x1, x2⟩ <;> rcases h1' j j0 (by omega) with ⟨p', q'⟩ | ⟨p', y, y0, y1, y2⟩
  · rw [p, p']
  · exact absurd y2 (q y y0 y1)
  · exact absurd x2 (q' x x0 x1)
  · rw [p, p']
theorem fsP_01 {E : Int → Int → Int → Prop} {p t f : Int} (h : fsP E p t f) : f = 0 ∨ f = 1 := h.elim (fun q => Or.inr q.1) (fun q => Or.inl q.1)
