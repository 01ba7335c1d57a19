/-! ===== the reference's subscribers: who takes part, shares, the night ===== -/
def mkT (c : Int) (t : Int → Int) : Int → Int := fun j => if 0 ≤ j ∧ j < c then t j else 0
theorem mkT_at {c : Int} {t : Int → Int} {j : Int} (h : 0 ≤ j ∧ j < c) : mkT c t j = t j := if_pos h
theorem mkT_out {c : Int} {t : Int → Int} {j : Int} (h : ¬ (0 ≤ j ∧ j < c)) : mkT c t j = 0 := if_neg h
theorem mkT_U {c z v : Int} {t : Int → Int} (hz : 0 ≤ z ∧ z < c) : mkT c (zU t z v) = zU (mkT c t) z v := by
  funext j
  by_cases e : j = z
  · subst e
    rw [zU_same, mkT_at hz, zU_same]
  · rw [zU_ne e]
    by_cases g : 0 ≤ j ∧ j < c
    · rw [mkT_at g, mkT_at g, zU_ne e]
    · rw [mkT_out g, mkT_out g]
theorem mkT_01 {c : Int} {t nd : Int → Int} (h : TpV (mkT c t) nd) (hc : c ≤ 6) {j : Int} (j0 : 0 ≤ j) (j1 : j < c) : (t j = 0 ∨ t j = 1) ∧ (t j = 1 → 0 ≤ nd j ∧ nd j ≤ 20) := by
  have a := h.1 j j0 (by omega)
  have b := h.2 j j0 (by omega)
  rw [mkT_at ⟨j0, j1⟩] at a b
  exact ⟨a, b⟩
theorem sm_cut {f : Int → Int} {c : Nat} : ∀ (n : Nat), c ≤ n → (∀ j : Int, (c : Int) ≤ j → j < n → f j = 0) → sm f n = sm f c
  | 0, h, _ => by
    have e : c = 0 := by omega
    subst e; rfl
  | n + 1, h, hz => by
    by_cases e : c = n + 1
    · subst e; rfl
    · show sm f n + f n = sm f c
      rw [hz n (by omega) (by omega), Int.add_zero]
      exact sm_cut n (by omega) (fun j j0 j1 => hz j j0 (by omega))
def cntC (t nd : Int → Int) (r : Int) (c : Int) : Int := sm (fun j => if t j = 1 ∧ r ≤ nd j then 1 else 0) c.toNat
theorem cntC_end {t nd : Int → Int} {r c : Int} (hc : 0 ≤ c ∧ c ≤ 6) : cntC t nd r c = cntN (mkT c t) nd r := by
  unfold cntC cntN
  rw [sm_cut (f := fun j => if mkT c t j = 1 ∧ r ≤ nd j then 1 else 0) (c := c.toNat) 6 (by omega) (fun j j0 j1 => by
    show (if mkT c t j = 1 ∧ r ≤ nd j then (1 : Int) else 0) = 0
    rw [mkT_out (by omega), if_neg (by omega)])]
  refine sm_upto (fun j j0 j1 => ?_)
  show (if t j = 1 ∧ r ≤ nd j then (1 : Int) else 0) = if mkT c t j = 1 ∧ r ≤ nd j then 1 else 0
  rw [mkT_at (by omega)]
theorem cntC_s1 {t nd : Int → Int} {r i : Int} (hi : 0 ≤ i) (h : t i = 1 ∧ r ≤ nd i) : cntC t nd r (i + 1) = cntC t nd r i + 1 := (sm_next1 (f := fun j => if t j = 1 ∧ r ≤ nd j then 1 else 0) hi (if_pos h)).symm
theorem cntC_s0 {t nd : Int → Int} {r i : Int} (hi : 0 ≤ i) (h : ¬ (t i = 1 ∧ r ≤ nd i)) : cntC t nd r (i + 1) = cntC t nd r i := (sm_next0 (f := fun j => if t j = 1 ∧ r ≤ nd j then 1 else 0) hi (if_neg h)).symm
theorem shR_next {t nd : Int → Int} {rg many : Int} (h : 1 ≤ rg) (hm : many = cntN t nd rg) : shR t nd (rg - 1).toNat + (60 * rg * rg - 60 * (rg - 1) * (rg - 1)) / many = shR t nd rg.toNat := by
  have e : rg.toNat = (rg - 1).toNat + 1 := by omega
  rw [e]
  show _ = shR t nd (rg - 1).toNat + dC (((rg - 1).toNat : Int) + 1) / cntN t nd (((rg - 1).toNat : Int) + 1)
  rw [show ((rg - 1).toNat : Int) + 1 = rg by omega, hm]
  rfl
theorem dC_in {rg : Int} (h : 1 ≤ rg ∧ rg ≤ 20) : 0 ≤ 60 * rg * rg - 60 * (rg - 1) * (rg - 1) ∧ 60 * rg * rg - 60 * (rg - 1) * (rg - 1) ≤ 2340 := by
  have e : 60 * rg * rg - 60 * (rg - 1) * (rg - 1) = 60 * (2 * rg - 1) := dC_eq rg
  omega
/-- all take part that have a route: the reference's own words -/
def gatM (ms tk nd : Int → Int) : Prop := ∀ k, 0 ≤ k → k < ms 1 → rngP (egM ms) (suM ms k 0) (suM ms k 1) (nd k) ∧ tk k = if nd k < 100000 then 1 else 0
theorem gatM_V {ms tk nd : Int → Int} (h : gatM ms tk nd) : TpV (mkT (ms 1) tk) nd := by
  refine ⟨fun j j0 j1 => ?_, fun j j0 j1 hj => ?_⟩
  · by_cases c : 0 ≤ j ∧ j < ms 1
    · rw [mkT_at c, (h j c.1 c.2).2]
      split
      · exact Or.inr rfl
      · exact Or.inl rfl
    · exact Or.inl (mkT_out c)
  · by_cases c : 0 ≤ j ∧ j < ms 1
    · rw [mkT_at c, (h j c.1 c.2).2] at hj
      have q := rngP_in (h j c.1 c.2).1
      by_cases e : nd j < 100000
      · have := q.2.2.1 e
        omega
      · rw [if_neg e] at hj
        exact absurd hj (by decide)
    · rw [mkT_out c] at hj
      exact absurd hj (by decide)
/-- after the night's choice: who is left -/
def plnM (ms tk nd : Int → Int) : Prop := (∃ tk0 k, gatM ms tk0 nd ∧ isLeft nd (fun j => suM ms j 2) (ms 1) k (mkT (ms 1) tk0) (mkT (ms 1) tk)) ∧ TpV (mkT (ms 1) tk) nd
/-! the last who can't pay of those behind a place, going down -/
def PoK (t nd mo : Int → Int) (cnt k z : Int) : Prop := (z = -1 ∧ ∀ j, k < j → j < cnt → ¬ (t j = 1 ∧ mo j < shR t nd (nd j).toNat)) ∨ (k < z ∧ z < cnt ∧ t z = 1 ∧ mo z < shR t nd (nd z).toNat ∧ ∀ j, k < j → j < z → ¬ (t j = 1 ∧ mo j < shR t nd (nd j).toNat))
theorem PoK_0 {t nd mo : Int → Int} {cnt : Int} : PoK t nd mo cnt (cnt - 1) (-1) := Or.inl ⟨rfl, fun j h0 h1 => absurd h0 (by omega)⟩
theorem PoK_keep {t nd mo : Int → Int} {cnt k z : Int} (h : PoK t nd mo cnt k z) (hk : ¬ (t k = 1 ∧ mo k < shR t nd (nd k).toNat)) : PoK t nd mo cnt (k + -1) z := by
  rcases h with ⟨a, b⟩ | ⟨a1, a2, a3, a4, a5⟩
  · refine Or.inl ⟨a, fun j h0 h1 => ?_⟩
    by_cases e : j = k
    · subst e; exact hk
    · exact b j (by omega) h1
  · refine Or.inr ⟨by omega, a2, a3, a4, fun j h0 h1 => ?_⟩
    by_cases e : j = k
    · subst e; exact hk
    · exact a5 j (by omega) h1
theorem PoK_take {t nd mo : Int → Int} {cnt k z : Int} (hc : k < cnt) (h : PoK t nd mo cnt k z) (hk : t k = 1 ∧ mo k < shR t nd (nd k).toNat) : PoK t nd mo cnt (k + -1) k :=
  Or.inr ⟨by omega, hc, hk.1, hk.2, fun j h0 h1 => absurd h1 (by omega)⟩
theorem PoK_end {t nd mo : Int → Int} {cnt k z : Int} (hk : k = -1) (h : PoK t nd mo cnt k z) : isPoor t nd mo cnt z := by
  subst hk
  rcases h with ⟨a, b⟩ | ⟨a1, a2, a3, a4, a5⟩
  · exact Or.inl ⟨a, fun j h0 h1 => b j (by omega) h1⟩
  · exact Or.inr ⟨by omega, a2, a3, a4, fun j h0 h1 => a5 j (by omega) h1⟩
/-! the night itself, cell by cell -/
def shN (t nd : Int → Int) (j : Int) : Int := if t j = 1 then shR t nd (nd j).toNat else 0
def bkN (fog : Int) (t nd : Int → Int) (j : Int) : Int := if 0 < fog then shN t nd j / 2 else 0
def NiK (ms t nd ms' : Int → Int) (k : Int) : Prop := (∀ j, j < 5 ∨ (7 ≤ j ∧ j < 307) → ms' j = ms j) ∧ ms' 5 = ms 5 + sm (fun j => shN t nd j - bkN (ms 2) t nd j) k.toNat ∧ ms' 6 = ms 6 + sm (bkN (ms 2) t nd) k.toNat ∧
  ∀ i, 0 ≤ i → i < 6 → suM ms' i 0 = suM ms i 0 ∧ suM ms' i 1 = suM ms i 1 ∧ (i < k → suM ms' i 2 = suM ms i 2 - shN t nd i + bkN (ms 2) t nd i ∧ suM ms' i 3 = suM ms i 3 + t i ∧ suM ms' i 4 = suM ms i 4 + (1 - t i)) ∧ (k ≤ i → suM ms' i 2 = suM ms i 2 ∧ suM ms' i 3 = suM ms i 3 ∧ suM ms' i 4 = suM ms i 4)
theorem NiK_0 {ms t nd : Int → Int} : NiK ms t nd ms 0 := ⟨fun _ _ => rfl, (Int.add_zero _).symm, (Int.add_zero _).symm, fun i i0 i1 => ⟨rfl, rfl, fun h => absurd h (by omega), fun _ => ⟨rfl, rfl, rfl⟩⟩⟩
theorem suM_add {ms : Int → Int} {k w v i x : Int} (hw : 0 ≤ w ∧ w ≤ 4) (hx : 0 ≤ x ∧ x ≤ 4) : suM (addM ms k w v) i x = if i = k ∧ x = w then suM ms i x + v else suM ms i x := by
  unfold suM addM zU
  by_cases e : i = k ∧ x = w
  · obtain ⟨rfl, rfl⟩ := e
    rw [if_pos rfl, if_pos ⟨rfl, rfl⟩]
  · rw [if_neg (by omega), if_neg e]
theorem addM_lo {ms : Int → Int} {k w v j : Int} (hk : 0 ≤ k) (hw : 0 ≤ w) (hj : j < 307) : addM ms k w v j = ms j := by
  unfold addM
  rw [zU_ne (by omega)]
theorem NiK_s {ms t nd m0 : Int → Int} {k sh bk wc : Int} (hk : 0 ≤ k ∧ k < 6) (h : NiK ms t nd m0 k) (ht : t k = 0 ∨ t k = 1) (hs : sh = shN t nd k) (hb : bk = bkN (ms 2) t nd k) (hw : wc = if t k = 1 then 3 else 4) :
    NiK ms t nd (zU (zU (addM (addM m0 k 2 (bk - sh)) k wc 1) 5 (addM (addM m0 k 2 (bk - sh)) k wc 1 5 + (sh - bk))) 6 (zU (addM (addM m0 k 2 (bk - sh)) k wc 1) 5 (addM (addM m0 k 2 (bk - sh)) k wc 1 5 + (sh - bk)) 6 + bk)) (k + 1) := by
  have hw2 : (t k = 1 ∧ wc = 3) ∨ (t k = 0 ∧ wc = 4) := by
    rcases ht with q | q
    · exact Or.inr ⟨q, by rw [hw, if_neg (by omega)]⟩
    · exact Or.inl ⟨q, by rw [hw, if_pos q]⟩
  have hw3 : 0 ≤ wc ∧ wc ≤ 4 := by omega
  obtain ⟨g1, g2, g3, g4⟩ := h
  have lo : ∀ j, j < 307 → addM (addM m0 k 2 (bk - sh)) k wc 1 j = m0 j := fun j hj => by
    rw [addM_lo hk.1 hw3.1 hj, addM_lo hk.1 (by decide) hj]
  refine ⟨fun j hj => ?_, ?_, ?_, fun i i0 i1 => ?_⟩
  · rw [zU_ne (by omega), zU_ne (by omega), lo j (by omega)]
    exact g1 j hj
  · rw [zU_ne (by omega), zU_same, lo 5 (by omega), g2, ← sm_next hk.1, hs, hb, Int.add_assoc]
  · rw [zU_same, zU_ne (by omega), lo 6 (by omega), g3, ← sm_next hk.1, hb, Int.add_assoc]
  · generalize hW : zU (zU (addM (addM m0 k 2 (bk - sh)) k wc 1) 5 (addM (addM m0 k 2 (bk - sh)) k wc 1 5 + (sh - bk))) 6 (zU (addM (addM m0 k 2 (bk - sh)) k wc 1) 5 (addM (addM m0 k 2 (bk - sh)) k wc 1 5 + (sh - bk)) 6 + bk) = W
    have e : ∀ x, 0 ≤ x → x ≤ 4 → suM W i x = suM (addM (addM m0 k 2 (bk - sh)) k wc 1) i x := fun x x0 x1 => by
      rw [← hW]
      show zU _ _ _ _ = _
      rw [zU_ne (by omega), zU_ne (by omega)]
      rfl
    have G : ∀ x, 0 ≤ x → x ≤ 4 → (i ≠ k → suM W i x = suM m0 i x) ∧ (i = k → (x = 2 → suM W i x = suM m0 i x + (bk - sh)) ∧ (x = wc → suM W i x = suM m0 i x + 1) ∧ (x ≠ 2 → x ≠ wc → suM W i x = suM m0 i x)) := by
      intro x x0 x1
      rw [e x x0 x1, suM_add hw3 ⟨x0, x1⟩, suM_add (by decide) ⟨x0, x1⟩]
      exact ⟨fun z => by rw [if_neg (fun y => z y.1), if_neg (fun y => z y.1)], fun z => ⟨fun hx => by rw [if_neg (by omega), if_pos ⟨z, hx⟩], fun hx => by rw [if_pos ⟨z, hx⟩, if_neg (by omega)], fun h1 h2 => by rw [if_neg (fun y => h2 y.2), if_neg (fun y => h1 y.2)]⟩⟩
    have G0 := G 0 (by decide) (by decide)
    have G1 := G 1 (by decide) (by decide)
    have G2 := G 2 (by decide) (by decide)
    have G3 := G 3 (by decide) (by decide)
    have G4 := G 4 (by decide) (by decide)
    obtain ⟨q0, q1, q2, q3⟩ := g4 i i0 i1
    by_cases c : i = k
    · subst c
      obtain ⟨r2, r3, r4⟩ := q3 (Int.le_refl _)
      have a0 := (G0.2 rfl).2.2 (by decide) (by omega)
      have a1 := (G1.2 rfl).2.2 (by decide) (by omega)
      have a2 := (G2.2 rfl).1 rfl
      refine ⟨by omega, by omega, fun _ => ⟨by omega, ?_, ?_⟩, fun z => absurd z (by omega)⟩
      · by_cases z : (3 : Int) = wc
        · have := (G3.2 rfl).2.1 z
          omega
        · have := (G3.2 rfl).2.2 (by decide) z
          omega
      · by_cases z : (4 : Int) = wc
        · have := (G4.2 rfl).2.1 z
          omega
        · have := (G4.2 rfl).2.2 (by decide) z
          omega
    · have a0 := G0.1 c
      have a1 := G1.1 c
      have a2 := G2.1 c
      have a3 := G3.1 c
      have a4 := G4.1 c
      refine ⟨by omega, by omega, fun z => ?_, fun z => ?_⟩
      · obtain ⟨r2, r3, r4⟩ := q2 (by omega)
        exact ⟨by omega, by omega, by omega⟩
      · obtain ⟨r2, r3, r4⟩ := q3 (by omega)
        exact ⟨by omega, by omega, by omega⟩
/-! the meters, pair by pair -/
def MtK (m0 m1 : Int → Int) (a b : Int) : Prop := (∀ j, j < 7 ∨ 307 ≤ j → m1 j = m0 j) ∧ ∀ c d, 0 ≤ c → c < 10 → 0 ≤ d → d < 10 → lgM m1 c d 0 = lgM m0 c d 0 ∧ lgM m1 c d 1 = lgM m0 c d 1 ∧ lgM m1 c d 2 = if (max c d < a ∨ (max c d = a ∧ min c d < b)) ∧ c ≠ d ∧ 0 < lgM m0 c d 0 ∧ lgM m0 c d 1 ≤ m0 3 then lgM m0 c d 2 + 1 else lgM m0 c d 2
theorem MtK_0 {m0 : Int → Int} : MtK m0 m0 0 0 := ⟨fun _ _ => rfl, fun c d c0 c1 d0 d1 => ⟨rfl, rfl, by rw [if_neg (by omega)]⟩⟩
theorem MtK_row {m0 m1 : Int → Int} {a b : Int} (hb : b = a) (h : MtK m0 m1 a b) : MtK m0 m1 (a + 1) 0 := ⟨h.1, fun c d c0 c1 d0 d1 => by
  obtain ⟨q0, q1, q2⟩ := h.2 c d c0 c1 d0 d1
  refine ⟨q0, q1, ?_⟩
  rw [q2]
  by_cases e : (max c d < a ∨ (max c d = a ∧ min c d < b)) ∧ c ≠ d ∧ 0 < lgM m0 c d 0 ∧ lgM m0 c d 1 ≤ m0 3
  · rw [if_pos e, if_pos (by omega)]
  · rw [if_neg e, if_neg (by omega)]⟩
theorem MtK_no {m0 m1 : Int → Int} {a b : Int} (h : MtK m0 m1 a b) (hn : ¬ (0 < lgM m0 a b 0 ∧ lgM m0 a b 1 ≤ m0 3)) (hs : MLg m0) (ha : 0 ≤ a ∧ a < 10) (hb : 0 ≤ b ∧ b < a) : MtK m0 m1 a (b + 1) := ⟨h.1, fun c d c0 c1 d0 d1 => by
  obtain ⟨q0, q1, q2⟩ := h.2 c d c0 c1 d0 d1
  refine ⟨q0, q1, ?_⟩
  rw [q2]
  have y := (hs a b ha.1 ha.2 hb.1 (by omega)).2.2
  have y0 := y 0 (by omega) (by omega)
  have y1 := y 1 (by omega) (by omega)
  have z : ∀ x, ((c = a ∧ d = b) ∨ (c = b ∧ d = a)) → lgM m0 c d x = lgM m0 a b x ∨ lgM m0 c d x = lgM m0 b a x := fun x hx => by
    rcases hx with ⟨rfl, rfl⟩ | ⟨rfl, rfl⟩
    · exact Or.inl rfl
    · exact Or.inr rfl
  have z0 := z 0
  have z1 := z 1
  by_cases e : (max c d < a ∨ (max c d = a ∧ min c d < b)) ∧ c ≠ d ∧ 0 < lgM m0 c d 0 ∧ lgM m0 c d 1 ≤ m0 3
  · rw [if_pos e, if_pos (by omega)]
  · rw [if_neg e, if_neg (by omega)]⟩
theorem MtK_go {m0 m1 : Int → Int} {a b : Int} (h : MtK m0 m1 a b) (hn : 0 < lgM m0 a b 0 ∧ lgM m0 a b 1 ≤ m0 3) (hs : MLg m0) (ha : 0 ≤ a ∧ a < 10) (hb : 0 ≤ b ∧ b < a) : MtK m0 (setL m1 a b 2 (lgM m1 a b 2 + 1)) a (b + 1) := by
  have hb10 : 0 ≤ b ∧ b < 10 := by omega
  refine ⟨fun j hj => by rw [setL_lo ha hb10 (by decide) hj]; exact h.1 j hj, fun c d c0 c1 d0 d1 => ?_⟩
  obtain ⟨q0, q1, q2⟩ := h.2 c d c0 c1 d0 d1
  obtain ⟨p0, p1, p2⟩ := h.2 a b ha.1 ha.2 hb10.1 hb10.2
  rw [lgM_set ha hb10 ⟨c0, c1⟩ ⟨d0, d1⟩ (by decide) (by decide), lgM_set ha hb10 ⟨c0, c1⟩ ⟨d0, d1⟩ (by decide) (by decide), lgM_set ha hb10 ⟨c0, c1⟩ ⟨d0, d1⟩ (by decide) (by decide)]
  have y := (hs a b ha.1 ha.2 hb10.1 hb10.2).2.2
  have y0 := y 0 (by omega) (by omega)
  have y1 := y 1 (by omega) (by omega)
  have y2 := y 2 (by omega) (by omega)
  refine ⟨by rw [if_neg (by omega)]; exact q0, by rw [if_neg (by omega)]; exact q1, ?_⟩
  rw [if_neg (show ¬ ((max a b < a ∨ (max a b = a ∧ min a b < b)) ∧ a ≠ b ∧ 0 < lgM m0 a b 0 ∧ lgM m0 a b 1 ≤ m0 3) by omega)] at p2
  by_cases e : (c = a ∧ d = b) ∨ (c = b ∧ d = a)
  · rw [if_pos ⟨rfl, e⟩, p2]
    rcases e with ⟨rfl, rfl⟩ | ⟨rfl, rfl⟩
    · rw [if_pos (by omega)]
    · rw [if_pos (by omega), y2]
  · rw [if_neg (fun z => e z.2), q2]
    by_cases e2 : (max c d < a ∨ (max c d = a ∧ min c d < b)) ∧ c ≠ d ∧ 0 < lgM m0 c d 0 ∧ lgM m0 c d 1 ≤ m0 3
    · rw [if_pos e2, if_pos (by omega)]
    · rw [if_neg e2, if_neg (by omega)]
/-- what a night does to the reference's numbers -/
def nigM (ms t nd : Int → Int) (g : Int) (ms' : Int → Int) : Prop := ∃ m0, NiK ms t nd m0 (ms 1) ∧ (ms' 0 = m0 0 ∧ ms' 1 = m0 1 ∧ ms' 2 = max 0 (m0 2 - 1) ∧ ms' 3 = g ∧ ms' 4 = m0 4 + 1 ∧ ∀ j, 307 ≤ j ∨ j = 5 ∨ j = 6 → ms' j = m0 j) ∧
  ∀ c d, 0 ≤ c → c < 10 → 0 ≤ d → d < 10 → lgM ms' c d 0 = lgM m0 c d 0 ∧ lgM ms' c d 1 = lgM m0 c d 1 ∧ lgM ms' c d 2 = if c ≠ d ∧ 0 < lgM m0 c d 0 ∧ lgM m0 c d 1 ≤ g then lgM m0 c d 2 + 1 else lgM m0 c d 2
def mNight (ms : Int → Int) (z : Int) (ms' : Int → Int) : Prop := ∃ tk nd g, plnM ms tk nd ∧ isGr (mkT (ms 1) tk) nd g ∧ z = sm (mkT (ms 1) tk) (ms 1).toNat ∧ nigM ms (mkT (ms 1) tk) nd g ms'
theorem MLg_of7 {ms m7 : Int → Int} (h : ∀ j, 7 ≤ j → j < 307 → m7 j = ms j) (h0 : m7 0 = ms 0) (hl : MLg ms) : MLg m7 := by
  intro a b a0 a1 b0 b1
  have e : ∀ x y w, 0 ≤ x → x < 10 → 0 ≤ y → y < 10 → 0 ≤ w → w ≤ 2 → lgM m7 x y w = lgM ms x y w := fun x y w x0 x1 y0 y1 w0 w1 => h _ (by omega) (by omega)
  obtain ⟨q1, q2, q3⟩ := hl a b a0 a1 b0 b1
  rw [e a b 0 a0 a1 b0 b1 (by decide) (by decide), e a b 1 a0 a1 b0 b1 (by decide) (by decide), h0]
  refine ⟨q1, q2, fun w w0 w1 => ?_⟩
  rw [e a b w a0 a1 b0 b1 w0 w1, e b a w b0 b1 a0 a1 w0 w1]
  exact q3 w w0 w1
theorem MLr_of7 {ms m7 : Int → Int} (h : ∀ j, 7 ≤ j → j < 307 → m7 j = ms j) (hl : MLr ms) : MLr m7 := by
  intro a b w a0 a1 b0 b1 w0 w1
  have e : lgM m7 a b w = lgM ms a b w := h _ (by omega) (by omega)
  rw [e]
  exact hl a b w a0 a1 b0 b1 w0 w1
theorem NiK_m7 {ms t nd m9 m7 : Int → Int} {k g x : Int} (h : NiK ms t nd m9 k) (e : m7 = zU (zU m9 3 g) 2 x) : (∀ j, 7 ≤ j → j < 307 → m7 j = ms j) ∧ m7 0 = ms 0 ∧ m7 3 = g := by
  subst e
  refine ⟨fun j j0 j1 => ?_, ?_, ?_⟩
  · rw [zU_ne (by omega), zU_ne (by omega)]
    exact h.1 j (by omega)
  · rw [zU_ne (by omega), zU_ne (by omega)]
    exact h.1 0 (by omega)
  · rw [zU_ne (by omega), zU_same]
theorem MtK_lr {m0 m1 : Int → Int} {a b : Int} (h : MtK m0 m1 a b) (hl : MLr m0) : MLr m1 := by
  intro c d w c0 c1 d0 d1 w0 w1
  have q := h.2 c d c0 c1 d0 d1
  rcases (show w = 0 ∨ w = 1 by omega) with rfl | rfl
  · rw [q.1]; exact hl c d 0 c0 c1 d0 d1 w0 w1
  · rw [q.2.1]; exact hl c d 1 c0 c1 d0 d1 w0 w1
def MMt (ms : Int → Int) : Prop := ∀ a b, 0 ≤ a → a < 10 → 0 ≤ b → b < 10 → -1000000000 ≤ lgM ms a b 2 ∧ lgM ms a b 2 ≤ 1000000000
theorem MtK_mt {ms m0 m1 : Int → Int} {a b : Int} (h : MtK m0 m1 a b) (h7 : ∀ j, 7 ≤ j → j < 307 → m0 j = ms j) (hm : MMt ms) (ha : 0 ≤ a ∧ a < 10) (hb : 0 ≤ b ∧ b < 10) : -1000000001 ≤ lgM m1 a b 2 ∧ lgM m1 a b 2 ≤ 1000000001 := by
  have q := (h.2 a b ha.1 ha.2 hb.1 hb.2).2.2
  have e : lgM m0 a b 2 = lgM ms a b 2 := h7 _ (by omega) (by omega)
  have g := hm a b ha.1 ha.2 hb.1 hb.2
  rw [q]
  split <;> omega
theorem MtK_sh {m0 m1 : Int → Int} {a b : Int} (h : MtK m0 m1 a b) (ha : 0 ≤ a ∧ a < 10) (hb : 0 ≤ b ∧ b < a) (hs : 0 < lgM m1 a b 0 ∧ lgM m1 a b 1 ≤ m1 3) : 0 < lgM m0 a b 0 ∧ lgM m0 a b 1 ≤ m0 3 := by
  have q := h.2 a b ha.1 ha.2 hb.1 (by omega)
  have e := h.1 3 (by omega)
  omega
theorem MtK_sh2 {m0 m1 : Int → Int} {a b : Int} (h : MtK m0 m1 a b) (ha : 0 ≤ a ∧ a < 10) (hb : 0 ≤ b ∧ b < a) (hs : 0 < lgM m0 a b 0 ∧ lgM m0 a b 1 ≤ m0 3) : 0 < lgM m1 a b 0 ∧ lgM m1 a b 1 ≤ m1 3 := by
  have q := h.2 a b ha.1 ha.2 hb.1 (by omega)
  have e := h.1 3 (by omega)
  omega
theorem nigM_of {ms t nd m9 m7 m8 : Int → Int} {g : Int} (h : NiK ms t nd m9 (ms 1)) (e : m7 = zU (zU m9 3 g) 2 (max 0 ((zU m9 3 g) 2 - 1))) (hm : MtK m7 m8 10 0) : nigM ms t nd g (zU m8 4 (m8 4 + 1)) := by
  have h3 : m7 3 = g := (NiK_m7 h e).2.2
  have e7 : ∀ j, j ≠ 2 → j ≠ 3 → m7 j = m9 j := fun j j2 j3 => by rw [e, zU_ne j2, zU_ne j3]
  have e72 : m7 2 = max 0 (m9 2 - 1) := by rw [e, zU_same, zU_ne (by decide)]
  refine ⟨m9, h, ⟨?_, ?_, ?_, ?_, ?_, fun j hj => ?_⟩, fun c d c0 c1 d0 d1 => ?_⟩
  · rw [zU_ne (by decide), hm.1 0 (by omega), e7 0 (by decide) (by decide)]
  · rw [zU_ne (by decide), hm.1 1 (by omega), e7 1 (by decide) (by decide)]
  · rw [zU_ne (by decide), hm.1 2 (by omega), e72]
  · rw [zU_ne (by decide), hm.1 3 (by omega), h3]
  · rw [zU_same, hm.1 4 (by omega), e7 4 (by decide) (by decide)]
  · rw [zU_ne (by omega), hm.1 j (by omega), e7 j (by omega) (by omega)]
  · have q := hm.2 c d c0 c1 d0 d1
    have f : ∀ x, 0 ≤ x → x ≤ 2 → lgM m7 c d x = lgM m9 c d x := fun x x0 x1 => e7 _ (by omega) (by omega)
    rw [lgM_lo ⟨c0, c1⟩ ⟨d0, d1⟩ (by decide) (by omega), lgM_lo ⟨c0, c1⟩ ⟨d0, d1⟩ (by decide) (by omega), lgM_lo ⟨c0, c1⟩ ⟨d0, d1⟩ (by decide) (by omega), q.1, q.2.1, q.2.2, f 0 (by decide) (by decide), f 1 (by decide) (by decide), f 2 (by decide) (by decide), h3]
    refine ⟨rfl, rfl, ?_⟩
    by_cases z : c ≠ d ∧ 0 < lgM m9 c d 0 ∧ lgM m9 c d 1 ≤ g
    · rw [if_pos z, if_pos (by omega)]
    · rw [if_neg z, if_neg (by omega)]
theorem GrK_max {t nd : Int → Int} {i g : Int} (hi : 0 ≤ i ∧ i < 6) (hv : TpV t nd) (h : GrK t nd i g) (ht : t i = 1) : GrK t nd (i + 1) (max g (nd i)) := by
  by_cases c : g < nd i
  · rw [Int.max_eq_right (by omega)]
    exact GrK_take hv hi h ht c
  · rw [Int.max_eq_left (by omega)]
    exact GrK_keep h (fun _ => by omega)
theorem GrK_out {c k g : Int} {t nd : Int → Int} (hk : k = c) (h : GrK (mkT c t) nd k g) : isGr (mkT c t) nd g := by
  subst hk
  refine ⟨h.1, h.2.1, fun j j0 j1 hj => ?_, h.2.2.2⟩
  by_cases e : 0 ≤ j ∧ j < k
  · exact h.2.2.1 j e.1 e.2 hj
  · rw [mkT_out e] at hj
    exact absurd hj (by decide)
theorem rgM_0 {ms : Int → Int} : rgM ms 0 = 20 := if_neg (by decide)
theorem rgM_1 {ms : Int → Int} : rgM ms 1 = ms 3 := if_pos rfl
theorem mAddPort_t {ms : Int → Int} {z t : Int} {ms' : Int → Int} (h : mAddPort ms z t ms') : 0 ≤ t ∧ t ≤ 4 := by unfold mAddPort at h; omega
theorem mAddLeg_t {ms : Int → Int} {a b w r z t : Int} {ms' : Int → Int} (h : mAddLeg ms a b w r z t ms') : 0 ≤ t ∧ t ≤ 4 := by unfold mAddLeg at h; omega
theorem mRemoveLeg_t {ms : Int → Int} {a b z t : Int} {ms' : Int → Int} (h : mRemoveLeg ms a b z t ms') : 0 ≤ t ∧ t ≤ 4 := by unfold mRemoveLeg at h; omega
theorem mSubscribe_t {ms : Int → Int} {a b w z t : Int} {ms' : Int → Int} (h : mSubscribe ms a b w z t ms') : 0 ≤ t ∧ t ≤ 4 := by unfold mSubscribe at h; omega
theorem mLeave_t {ms : Int → Int} {k z t : Int} {ms' : Int → Int} (h : mLeave ms k z t ms') : 0 ≤ t ∧ t ≤ 4 := by unfold mLeave at h; omega
theorem mDeposit_t {ms : Int → Int} {k w z t : Int} {ms' : Int → Int} (h : mDeposit ms k w z t ms') : 0 ≤ t ∧ t ≤ 4 := by unfold mDeposit at h; omega
theorem mSetFog_t {ms : Int → Int} {n z t : Int} {ms' : Int → Int} (h : mSetFog ms n z t ms') : 0 ≤ t ∧ t ≤ 4 := by unfold mSetFog at h; omega
def dkC (dn : Int → Int) (j c : Int) : Int := sm (fun o => if dn j < dn o ∨ (dn o = dn j ∧ o < j) then 1 else 0) c.toNat
theorem dkC_s1 {dn : Int → Int} {j c : Int} (hc : 0 ≤ c) (h : dn j < dn c ∨ (dn c = dn j ∧ c < j)) : dkC dn j c + 1 = dkC dn j (c + 1) := sm_next1 (f := fun o => if dn j < dn o ∨ (dn o = dn j ∧ o < j) then 1 else 0) hc (if_pos h)
theorem dkC_s0 {dn : Int → Int} {j c : Int} (hc : 0 ≤ c) (h : ¬ (dn j < dn c ∨ (dn c = dn j ∧ c < j))) : dkC dn j c = dkC dn j (c + 1) := sm_next0 (f := fun o => if dn j < dn o ∨ (dn o = dn j ∧ o < j) then 1 else 0) hc (if_neg h)
def FdK (cnt : Int) (dn : Int → Int) (rank o fd : Int) : Prop := (fd = 0 ∧ ∀ j, 0 ≤ j → j < o → ¬ dkR cnt dn j = rank) ∨ (0 ≤ fd ∧ fd < o ∧ dkR cnt dn fd = rank ∧ ∀ j, fd < j → j < o → ¬ dkR cnt dn j = rank)
theorem FdK_0 {cnt : Int} {dn : Int → Int} {rank : Int} : FdK cnt dn rank 0 0 := Or.inl ⟨rfl, fun j h0 h1 => absurd h1 (by omega)⟩
theorem FdK_yes {cnt : Int} {dn : Int → Int} {rank o fd : Int} (ho : 0 ≤ o) (_h : FdK cnt dn rank o fd) (h1 : dkR cnt dn o = rank) : FdK cnt dn rank (o + 1) o := Or.inr ⟨ho, by omega, h1, fun j h0 h1 => absurd h1 (by omega)⟩
theorem FdK_no {cnt : Int} {dn : Int → Int} {rank o fd : Int} (h : FdK cnt dn rank o fd) (hn : ¬ dkR cnt dn o = rank) : FdK cnt dn rank (o + 1) fd := by
  rcases h with ⟨a, b⟩ | ⟨a1, a2, a3, a4⟩
  · refine Or.inl ⟨a, fun j h0 h1 => ?_⟩
    by_cases e : j = o
    · subst e; exact hn
    · exact b j h0 (by omega)
  · refine Or.inr ⟨a1, by omega, a3, fun j h0 h1 => ?_⟩
    by_cases e : j = o
    · subst e; exact hn
    · exact a4 j h0 (by omega)
/-- The state after one step back. -/
def undM (mpm : Int) (mpast ms : Int → Int) : Int → Int := if mpm = 0 then ms else zCpy mpast ms (337 * (mpm - 1)) 0 337
