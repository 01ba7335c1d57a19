/-! ===== the night's plan is the same on both sides ===== -/
def agT (t t' nd nd' : Int → Int) : Prop := ∀ j, 0 ≤ j → j < 6 → t j = t' j ∧ (t j = 1 → nd j = nd' j)
theorem agT_sym {t t' nd nd' : Int → Int} (h : agT t t' nd nd') : agT t' t nd' nd := fun j j0 j1 => by
  have q := h j j0 j1
  exact ⟨q.1.symm, fun e => (q.2 (q.1.trans e)).symm⟩
theorem shR_cg {t t' nd nd' : Int → Int} (h : agT t t' nd nd') : ∀ n : Nat, shR t nd n = shR t' nd' n
  | 0 => rfl
  | n + 1 => by
    show shR t nd n + dC ((n : Int) + 1) / cntN t nd ((n : Int) + 1) = shR t' nd' n + dC ((n : Int) + 1) / cntN t' nd' ((n : Int) + 1)
    rw [shR_cg h n]
    congr 2
    refine sm_congr (fun j j0 j1 => ?_)
    show (if t j = 1 ∧ (n : Int) + 1 ≤ nd j then (1 : Int) else 0) = if t' j = 1 ∧ (n : Int) + 1 ≤ nd' j then 1 else 0
    have q := h j j0 (by omega)
    by_cases e : t j = 1
    · have q2 := q.2 e
      rw [← q.1, ← q2]
    · rw [if_neg (fun z => e z.1), if_neg (fun z => e (q.1.trans z.1))]
theorem shJ_cg {t t' nd nd' : Int → Int} (h : agT t t' nd nd') {j : Int} (j0 : 0 ≤ j) (j1 : j < 6) (hj : t j = 1) : shR t nd (nd j).toNat = shR t' nd' (nd' j).toNat := by
  rw [← (h j j0 j1).2 hj]
  exact shR_cg h _
theorem poor_cg {t t' nd nd' mo mo' : Int → Int} {cnt z : Int} (hc : cnt ≤ 6) (h : agT t t' nd nd') (hm : ∀ j, 0 ≤ j → j < cnt → mo j = mo' j) (hp : isPoor t nd mo cnt z) : isPoor t' nd' mo' cnt z := by
  have key : ∀ j, 0 ≤ j → j < cnt → (t' j = 1 ∧ mo' j < shR t' nd' (nd' j).toNat) → (t j = 1 ∧ mo j < shR t nd (nd j).toNat) := by
    intro j j0 j1 g
    have q := h j j0 (by omega)
    have e : t j = 1 := q.1.trans g.1
    rw [shJ_cg h j0 (by omega) e, hm j j0 j1]
    exact ⟨e, g.2⟩
  rcases hp with ⟨a, b⟩ | ⟨a1, a2, a3, a4, a5⟩
  · exact Or.inl ⟨a, fun j j0 j1 g => b j j0 j1 (key j j0 j1 g)⟩
  · have q := h z a1 (by omega)
    refine Or.inr ⟨a1, a2, q.1.symm.trans a3, ?_, fun j j0 j1 g => a5 j j0 j1 (key j j0 (by omega) g)⟩
    rw [← shJ_cg h a1 (by omega) a3, ← hm z a1 a2]
    exact a4
theorem agT_U {t t' nd nd' : Int → Int} {z : Int} (h : agT t t' nd nd') : agT (zU t z 0) (zU t' z 0) nd nd' := fun j j0 j1 => by
  by_cases e : j = z
  · rw [e, zU_same, zU_same]
    exact ⟨rfl, fun q => absurd q (by decide)⟩
  · rw [zU_ne e, zU_ne e]
    exact h j j0 j1
theorem left_uq {nd nd' mo mo' : Int → Int} {cnt : Int} (hc : cnt ≤ 6) (hm : ∀ j, 0 ≤ j → j < cnt → mo j = mo' j) : ∀ {k k' : Nat} {t t' u u' : Int → Int}, agT t t' nd nd' → isLeft nd mo cnt k t u → isLeft nd' mo' cnt k' t' u' → agT u u' nd nd'
  | 0, 0, t, t', u, u', h, h1, h2 => fun j j0 j1 => by
    have e1 := h1.2 j j0 j1
    have e2 := h2.2 j j0 j1
    have q := h j j0 j1
    rw [e1, e2]
    exact q
  | 0, k' + 1, t, t', u, u', h, h1, h2 => by
    obtain ⟨z, z0, z1, -⟩ := h2
    have := isPoor_uniq (poor_cg hc h hm h1.1) z1
    omega
  | k + 1, 0, t, t', u, u', h, h1, h2 => by
    obtain ⟨z, z0, z1, -⟩ := h1
    have := isPoor_uniq (poor_cg hc h hm z1) h2.1
    omega
  | k + 1, k' + 1, t, t', u, u', h, h1, h2 => by
    obtain ⟨z, z0, z1, z2⟩ := h1
    obtain ⟨y, y0, y1, y2⟩ := h2
    have e := isPoor_uniq (poor_cg hc h hm z1) y1
    subst e
    exact left_uq hc hm (agT_U h) z2 y2
theorem isGr_cg {t t' nd nd' : Int → Int} {g : Int} (h : agT t t' nd nd') (hg : isGr t nd g) : isGr t' nd' g := by
  obtain ⟨a, b, c, d⟩ := hg
  refine ⟨a, b, fun j j0 j1 hj => ?_, ?_⟩
  · have q := h j j0 j1
    have e : t j = 1 := q.1.trans hj
    rw [← q.2 e]
    exact c j j0 j1 e
  · rcases d with d | ⟨j, j0, j1, j2, j3⟩
    · exact Or.inl d
    · have q := h j j0 j1
      exact Or.inr ⟨j, j0, j1, q.1.symm.trans j2, (q.2 j2).symm.trans j3⟩
section
variable {B N : Int} {s : Nat → Int → Int} {ms : Int → Int}
theorem rel_gat (hv : SVk B N s) (h : RelS N s ms) {tp nd tk nd' : Int → Int} (h1 : isGat (sE s) (s 7 0) (s 8) (s 9) tp nd) (h2 : gatM ms tk nd') : agT tp (mkT (ms 1) tk) nd nd' := by
  have e1 : ms 1 = s 7 0 := h.1.2.1
  have hE := rel_sE hv.1 h
  have hc6 : s 7 0 ≤ 6 := hv.2.2.2.1.2
  rw [hE] at h1
  intro j j0 j1
  by_cases c : j < s 7 0
  · have a := h1.1 j j0 c j1
    have b := h2 j j0 (by rw [e1]; exact c)
    have u := h.2.1 j j0 c
    rw [mkT_at ⟨j0, by rw [e1]; exact c⟩]
    rw [u.1, u.2.1] at b
    rcases b.1 with ⟨z0, z1, z2⟩ | ⟨z0, z2⟩
    · have e := needP_uniq a.1 z2
      rw [a.2, b.2, e, if_neg (by omega), if_pos (by omega)]
      exact ⟨rfl, fun _ => rfl⟩
    · have e := needP_uniq a.1 z2
      rw [a.2, b.2, e, if_pos rfl, if_neg (by omega)]
      exact ⟨rfl, fun q => absurd q (by decide)⟩
  · rw [h1.2 j (by omega) j1 j0, mkT_out (by omega)]
    exact ⟨rfl, fun q => absurd q (by decide)⟩
theorem rel_plan (hv : SVk B N s) (h : RelS N s ms) {tp nd sh tk nd' : Int → Int} (h1 : isPlan (sE s) (s 7 0) (s 8) (s 9) (s 10) tp nd sh) (h2 : plnM ms tk nd') : agT tp (mkT (ms 1) tk) nd nd' := by
  have e1 : ms 1 = s 7 0 := h.1.2.1
  have hc6 : s 7 0 ≤ 6 := hv.2.2.2.1.2
  obtain ⟨⟨tp0, k, a1, a2⟩, -, -⟩ := h1
  obtain ⟨⟨tk0, k', b1, b2⟩, -⟩ := h2
  have g := rel_gat hv h a1 b1
  rw [e1] at b2 g ⊢
  exact left_uq hc6 (fun j j0 j1 => (h.2.1 j j0 j1).2.2.1.symm) g a2 b2
theorem rel_gr {t t' nd nd' : Int → Int} {g g' : Int} (h : agT t t' nd nd') (h1 : isGr t nd g) (h2 : isGr t' nd' g') : g = g' := isGr_uniq (isGr_cg h h1) h2
theorem rel_sh {t t' nd nd' sh : Int → Int} (h : agT t t' nd nd') (hs : isSh t nd sh) {j : Int} (j0 : 0 ≤ j) (j1 : j < 6) : nSh t sh j = shN t' nd' j := by
  unfold nSh shN
  have q := h j j0 j1
  by_cases e : t j = 1
  · rw [if_pos e, if_pos (q.1.symm.trans e), hs j j0 j1, if_pos e]
    exact shJ_cg h j0 j1 e
  · rw [if_neg e, if_neg (fun z => e (q.1.trans z))]
theorem rel_share (hv : SVk B N s) (h : RelS N s ms) {tk nd' : Int → Int} {sb z : Int} (h1 : shrP (sE s) (s 7 0) (s 8) (s 9) sb z) (hsb : 0 ≤ sb ∧ sb < ms 1) (h2 : gatM ms tk nd') : (z = -1 ∧ tk sb = 0) ∨ (z ≠ -1 ∧ tk sb = 1 ∧ z = shR (mkT (ms 1) tk) nd' (nd' sb).toNat) := by
  obtain ⟨⟨x0, x1⟩, tp, nd, a, b⟩ := h1
  have g := rel_gat hv h a h2
  have q := g sb x0 x1
  rw [mkT_at hsb] at q
  rcases b with ⟨b1, b2⟩ | ⟨b1, b2⟩
  · exact Or.inl ⟨b2, by rw [← q.1]; exact b1⟩
  · have r := shR_in tp nd (nd sb).toNat (by have := (isGat_V a).2 sb x0 x1 b1; omega)
    exact Or.inr ⟨by omega, by rw [← q.1]; exact b1, b2.trans (shJ_cg g x0 x1 b1)⟩
theorem rel_need (hv : SVk B N s) (h : RelS N s ms) {tk nd' : Int → Int} {sb z : Int} (h1 : needP (sE s) (s 8 sb) (s 9 sb) z) (hsb : 0 ≤ sb ∧ sb < ms 1) (h2 : gatM ms tk nd') : (z = -1 ∧ tk sb = 0) ∨ (z ≠ -1 ∧ tk sb = 1 ∧ z = nd' sb) := by
  have e1 : ms 1 = s 7 0 := h.1.2.1
  have u := h.2.1 sb hsb.1 (by omega)
  have b := h2 sb hsb.1 hsb.2
  rw [rel_sE hv.1 h] at h1
  rw [u.1, u.2.1] at b
  rcases b.1 with ⟨z0, z1, z2⟩ | ⟨z0, z2⟩
  · have e := needP_uniq h1 z2
    exact Or.inr ⟨by omega, by rw [b.2, if_pos (by omega)], e⟩
  · have e := needP_uniq h1 z2
    exact Or.inl ⟨e, by rw [b.2, if_neg (by omega)]⟩
end
