/-! ===== looking at all legs until no length becomes shorter ===== -/
/-- the lengths from src, -1 where there is no route -/
def isDv (E : Int → Int → Int → Prop) (src : Int) (Dv : Int → Int) : Prop := ∀ x, 0 ≤ x → x < 10 → distP E src x (Dv x)
theorem Dv_in {E : Int → Int → Int → Prop} {src : Int} {Dv : Int → Int} (h : isDv E src Dv) {x : Int} (x0 : 0 ≤ x) (x1 : x < 10) : Dv x = -1 ∨ 0 ≤ Dv x := by
  rcases h x x0 x1 with ⟨q, -⟩ | ⟨q, -⟩
  · exact Or.inl q
  · exact Or.inr q
theorem Dv_tri {E : Int → Int → Int → Prop} {src ports : Int} {Dv : Int → Int} (hp : ports ≤ 10) (hE : egOk E ports) (h : isDv E src Dv) {a b w : Int} (hab : E a b w) (ha : Dv a ≠ -1) : Dv b ≠ -1 ∧ Dv b ≤ Dv a + w := by
  have hw := hE.1 a b w hab
  rcases h a hw.1 (by omega) with ⟨q, -⟩ | ⟨q, q2, q3⟩
  · exact absurd q ha
  · rcases h b hw.2.2.1 (by omega) with ⟨z, z2⟩ | ⟨z, z2, z3, φ, z4, z5⟩
    · exact absurd (cn_trans q2 (cn_edge hab)) z2
    · have := q3.1 φ z4
      have := z4 a b w hab
      omega
theorem Dv_src {E : Int → Int → Int → Prop} {src : Int} {Dv : Int → Int} (h : isDv E src Dv) (hsrc : 0 ≤ src ∧ src < 10) : Dv src = 0 := by
  rcases h src hsrc.1 hsrc.2 with ⟨q, q2⟩ | ⟨q, q2, q3, φ, q4, q5⟩
  · exact absurd (cn_refl _ _) q2
  · omega
theorem Dv_pred {E : Int → Int → Int → Prop} {src ports : Int} {Dv : Int → Int} (hp : ports ≤ 10) (hE : egOk E ports) (h : isDv E src Dv) (hsrc : 0 ≤ src ∧ src < 10) {x : Int} (x0 : 0 ≤ x) (x1 : x < 10) (hx : Dv x ≠ -1) (hne : x ≠ src) : ∃ a w, E a x w ∧ Dv a ≠ -1 ∧ Dv x = Dv a + w := by
  refine Classical.byContradiction fun hno => ?_
  have d0 := Dv_src h hsrc
  rcases h x x0 x1 with ⟨q, -⟩ | ⟨q, q2, q3⟩
  · exact hx q
  · have hf : feas E (fun y => if y = x then Dv x + 1 else if Dv y = -1 then 0 else Dv y) := by
      intro a b w hab
      have hw := hE.1 a b w hab
      have sym : Dv a = -1 ↔ Dv b = -1 := by
        constructor
        · intro z
          by_cases y : Dv b = -1
          · exact y
          · exact absurd z (Dv_tri hp hE h (hE.2 a b w hab) y).1
        · intro z
          by_cases y : Dv a = -1
          · exact y
          · exact absurd z (Dv_tri hp hE h hab y).1
      show (if b = x then Dv x + 1 else if Dv b = -1 then 0 else Dv b) ≤ (if a = x then Dv x + 1 else if Dv a = -1 then 0 else Dv a) + w
      by_cases hb : b = x
      · have ha : a ≠ x := by omega
        rw [if_pos hb, if_neg ha]
        have ha1 : Dv a ≠ -1 := fun z => hx (by rw [← hb]; exact sym.mp z)
        rw [if_neg ha1]
        have t := Dv_tri hp hE h hab ha1
        rw [hb] at t
        have : Dv x ≠ Dv a + w := fun z => hno ⟨a, w, by rw [← hb]; exact hab, ha1, z⟩
        omega
      · rw [if_neg hb]
        by_cases ha : a = x
        · rw [if_pos ha]
          have ha1 : Dv a ≠ -1 := by rw [ha]; exact hx
          have t := Dv_tri hp hE h hab ha1
          rw [if_neg t.1]
          rw [ha] at t
          omega
        · rw [if_neg ha]
          by_cases z : Dv a = -1
          · rw [if_pos z, if_pos (sym.mp z)]
            omega
          · have t := Dv_tri hp hE h hab z
            rw [if_neg z, if_neg t.1]
            exact t.2
    have h1 := q3.1 _ hf
    have h2 : (if x = x then Dv x + 1 else if Dv x = -1 then 0 else Dv x) ≤ (if src = x then Dv x + 1 else if Dv src = -1 then 0 else Dv src) + Dv x := h1
    rw [if_pos rfl, if_neg (fun z => hne z.symm), if_neg (by omega), d0] at h2
    omega
/-- lengths that are found so far: none too short -/
def BfS (Dv : Int → Int) (src : Int) (s : Int → Int) (top : Int) : Prop := s src = 0 ∧ ∀ x, 0 ≤ x → x < 10 → s x = -1 ∨ (0 ≤ s x ∧ s x ≤ top ∧ Dv x ≠ -1 ∧ Dv x ≤ s x)
def ind (s Dv : Int → Int) : Int → Int := fun x => if s x = Dv x then 1 else 0
def BfI (Dv : Int → Int) (src : Int) (s : Int → Int) (rd flag : Int) : Prop := BfS Dv src s (3960 * rd) ∧ (flag = 1 → (∀ x, 0 ≤ x → x < 10 → s x = Dv x) ∨ rd + 1 ≤ sm (ind s Dv) 10) ∧ (flag = 0 → ∀ x, 0 ≤ x → x < 10 → s x = Dv x)
/-- within a round, the legs ahead of k are done, with what stood at its beginning -/
def BfK (Dv : Int → Int) (Ek : Int → Int → Int → Prop) (src : Int) (s0 s : Int → Int) (top flag : Int) : Prop := (flag = 0 ∨ flag = 1) ∧ BfS Dv src s top ∧ (∀ x, 0 ≤ x → x < 10 → s0 x ≠ -1 → s x ≠ -1 ∧ s x ≤ s0 x) ∧ (∀ a b w, Ek a b w → s0 a ≠ -1 → s b ≠ -1 ∧ s b ≤ s0 a + w) ∧ (flag = 0 → ∀ x, 0 ≤ x → x < 10 → s x = s0 x)
def rlx (s : Int → Int) (a b w : Int) : Int → Int := if s a = -1 ∨ (s b ≠ -1 ∧ s b ≤ s a + w) then s else zU s b (s a + w)
theorem ind_in (s Dv : Int → Int) (x : Int) : 0 ≤ ind s Dv x ∧ ind s Dv x ≤ 1 := by
  unfold ind
  by_cases h : s x = Dv x
  · rw [if_pos h]; decide
  · rw [if_neg h]; decide
/-- what a relaxed leg does -/
theorem rlx_at {s : Int → Int} {a b w : Int} (x : Int) : rlx s a b w x = s x ∨ (x = b ∧ rlx s a b w x = s a + w ∧ s a ≠ -1 ∧ (s b = -1 ∨ s a + w < s b)) := by
  unfold rlx
  by_cases h : s a = -1 ∨ (s b ≠ -1 ∧ s b ≤ s a + w)
  · rw [if_pos h]; exact Or.inl rfl
  · rw [if_neg h]
    by_cases hx : x = b
    · subst hx
      rw [zU_same]
      exact Or.inr ⟨rfl, rfl, by omega, by omega⟩
    · rw [zU_ne hx]; exact Or.inl rfl
theorem rlx_end {s : Int → Int} {a b w : Int} (ha : s a ≠ -1) (ha0 : 0 ≤ s a) (hw : 0 ≤ w) : rlx s a b w b ≠ -1 ∧ rlx s a b w b ≤ s a + w := by
  unfold rlx
  by_cases h : s a = -1 ∨ (s b ≠ -1 ∧ s b ≤ s a + w)
  · rw [if_pos h]; omega
  · rw [if_neg h, zU_same]; omega
theorem BfS_rlx {E : Int → Int → Int → Prop} {src ports : Int} {Dv s : Int → Int} {top a b w : Int} (hp : ports ≤ 10) (hE : egOk E ports) (hD : isDv E src Dv) (hab : E a b w) (h : BfS Dv src s top) : BfS Dv src (rlx s a b w) (top + 99) := by
  obtain ⟨h1, h2⟩ := h
  have hw := hE.1 a b w hab
  have ha := h2 a hw.1 (by omega)
  refine ⟨?_, fun x x0 x1 => ?_⟩
  · rcases rlx_at (s := s) (a := a) (b := b) (w := w) src with q | ⟨q1, q2, q3, q4⟩
    · rw [q, h1]
    · rw [← q1, h1] at q4
      omega
  · have hx := h2 x x0 x1
    rcases rlx_at (s := s) (a := a) (b := b) (w := w) x with q | ⟨q1, q2, q3, q4⟩
    · rw [q]; omega
    · rw [q2]
      have t := Dv_tri hp hE hD hab (by omega)
      subst q1
      omega
theorem BfI_init {Dv s : Int → Int} {E : Int → Int → Int → Prop} {src : Int} (hD : isDv E src Dv) (hsrc : 0 ≤ src ∧ src < 10) (hs : ∀ x, 0 ≤ x → x < 10 → s x = if x = src then 0 else -1) : BfI Dv src s 0 1 := by
  have h0 : s src = 0 := by rw [hs src hsrc.1 hsrc.2, if_pos rfl]
  have d0 := Dv_src hD hsrc
  refine ⟨⟨h0, fun x x0 x1 => ?_⟩, fun _ => Or.inr ?_, fun h => absurd h (by decide)⟩
  · rw [hs x x0 x1]
    by_cases hx : x = src
    · subst hx
      rw [if_pos rfl, d0]
      exact Or.inr ⟨by decide, by decide, by decide, by decide⟩
    · rw [if_neg hx]; exact Or.inl rfl
  · have h := sm_lt (f := fun _ => 0) (g := ind s Dv) (k := src) hsrc.1 (n := 10) (by omega) (by unfold ind; rw [if_pos (by rw [h0, d0])]; decide) (fun j j0 j1 => (ind_in s Dv j).1)
    have h2 : sm (fun _ => 0) 10 = 0 := rfl
    omega
theorem BfK_init {Dv s : Int → Int} {src rd flag : Int} {lower upper leng reach : Int → Int} {r : Int} (h : BfI Dv src s rd flag) : BfK Dv (eg 0 lower upper leng reach r) src s s (3960 * rd + 198 * 0) 0 :=
  ⟨Or.inl rfl, by rw [Int.mul_zero, Int.add_zero]; exact h.1, fun x _ _ z => ⟨z, Int.le_refl _⟩, fun a b w z => absurd z (eg_0 a b w), fun _ _ _ _ => rfl⟩
theorem BfK_step {E : Int → Int → Int → Prop} {src ports k : Int} {Dv s0 s : Int → Int} {top flag flag' z1 z2 : Int} {lower upper leng reach : Int → Int} {r : Int} (hp : ports ≤ 10) (hE : egOk E ports) (hD : isDv E src Dv) (k0 : 0 ≤ k) (hr : reach k ≤ r) (hsub : ∀ a b w, eg (k + 1) lower upper leng reach r a b w → E a b w)
    (h : BfK Dv (eg k lower upper leng reach r) src s0 s (top + 198 * k) flag) (hz1 : z1 = 0 → rlx s (lower k) (upper k) (leng k) = s) (hz2 : z2 = 0 → rlx (rlx s (lower k) (upper k) (leng k)) (upper k) (lower k) (leng k) = rlx s (lower k) (upper k) (leng k))
    (hf : flag' = 0 ∨ flag' = 1) (hf2 : flag' = 0 → flag = 0 ∧ z1 = 0 ∧ z2 = 0) : BfK Dv (eg (k + 1) lower upper leng reach r) src s0 (rlx (rlx s (lower k) (upper k) (leng k)) (upper k) (lower k) (leng k)) (top + 198 * (k + 1)) flag' := by
  obtain ⟨h1, h2, h3, h4, h5⟩ := h
  have hk : E (lower k) (upper k) (leng k) := hsub _ _ _ ((eg_succ k0 hr _ _ _).mpr (Or.inr ⟨rfl, Or.inl ⟨rfl, rfl⟩⟩))
  have hw := hE.1 _ _ _ hk
  have s1 := BfS_rlx hp hE hD hk h2
  have s2 := BfS_rlx hp hE hD (hE.2 _ _ _ hk) s1
  have le1 : ∀ x, 0 ≤ x → x < 10 → s x ≠ -1 → rlx s (lower k) (upper k) (leng k) x ≠ -1 ∧ rlx s (lower k) (upper k) (leng k) x ≤ s x := by
    intro x x0 x1 hx
    have a := h2.2 (lower k) hw.1 (by omega)
    rcases rlx_at (s := s) (a := lower k) (b := upper k) (w := leng k) x with q | ⟨q1, q2, q3, q4⟩
    · rw [q]; exact ⟨hx, Int.le_refl _⟩
    · rw [q2]; rw [← q1] at q4; omega
  have le2 : ∀ x, 0 ≤ x → x < 10 → s x ≠ -1 → rlx (rlx s (lower k) (upper k) (leng k)) (upper k) (lower k) (leng k) x ≠ -1 ∧ rlx (rlx s (lower k) (upper k) (leng k)) (upper k) (lower k) (leng k) x ≤ s x := by
    intro x x0 x1 hx
    have b := le1 x x0 x1 hx
    have a := s1.2 (upper k) hw.2.2.1 (by omega)
    rcases rlx_at (s := rlx s (lower k) (upper k) (leng k)) (a := upper k) (b := lower k) (w := leng k) x with q | ⟨q1, q2, q3, q4⟩
    · rw [q]; exact b
    · have e : rlx s (lower k) (upper k) (leng k) x = rlx s (lower k) (upper k) (leng k) (lower k) := congrArg _ q1
      rw [q2]
      omega
  refine ⟨hf, by rw [show top + 198 * (k + 1) = top + 198 * k + 99 + 99 by omega]; exact s2, ?_, ?_, ?_⟩
  · intro x x0 x1 hx
    have a := h3 x x0 x1 hx
    have b := le2 x x0 x1 a.1
    omega
  · intro a b w hab ha
    rcases (eg_succ k0 hr a b w).mp hab with y | ⟨y0, ⟨y1, y2⟩ | ⟨y1, y2⟩⟩
    · have hb := hE.1 a b w (hsub a b w hab)
      have c := h4 a b w y ha
      have d := le2 b hb.2.2.1 (by omega) c.1
      omega
    · subst y0; subst y1; subst y2
      have c := h3 _ hw.1 (by omega) ha
      have ca := h2.2 (lower k) hw.1 (by omega)
      have d := rlx_end (s := s) (a := lower k) (b := upper k) (w := leng k) c.1 (by omega) (by omega)
      have e := s1.2 (upper k) hw.2.2.1 (by omega)
      rcases rlx_at (s := rlx s (lower k) (upper k) (leng k)) (a := upper k) (b := lower k) (w := leng k) (upper k) with q | ⟨q1, -⟩
      · rw [q]; omega
      · exact absurd q1.symm hw.2.2.2.2.2.2
    · subst y0; subst y1; subst y2
      have c := h3 _ hw.2.2.1 (by omega) ha
      have c2 := le1 _ hw.2.2.1 (by omega) c.1
      have e := s1.2 (upper k) hw.2.2.1 (by omega)
      have d := rlx_end (s := rlx s (lower k) (upper k) (leng k)) (a := upper k) (b := lower k) (w := leng k) c2.1 (by omega) (by omega)
      omega
  · intro z x x0 x1
    have f := hf2 z
    rw [hz2 f.2.2, hz1 f.2.1]
    exact h5 f.1 x x0 x1
/-- a whole round: every leg is looked at; one more length is right, or all are -/
theorem BfI_done {E : Int → Int → Int → Prop} {src ports : Int} {Dv s0 s : Int → Int} {rd flag : Int} (hp : ports ≤ 10) (hE : egOk E ports) (hD : isDv E src Dv) (hsrc : 0 ≤ src ∧ src < 10) (h0 : BfI Dv src s0 rd 1) (h : BfK Dv E src s0 s (3960 * rd + 198 * 20) flag) : BfI Dv src s (rd + 1) flag := by
  obtain ⟨h1, h2, h3, h4, h5⟩ := h
  obtain ⟨g1, g2, g3⟩ := h0
  have ds := Dv_src hD hsrc
  have keep : ∀ x, 0 ≤ x → x < 10 → s0 x = Dv x → s x = Dv x := by
    intro x x0 x1 hx
    have a := h2.2 x x0 x1
    by_cases z : Dv x = -1
    · omega
    · have b := h3 x x0 x1 (by omega)
      omega
  -- the nearest of those that are wrong becomes right
  have grow : (∀ x, 0 ≤ x → x < 10 → s0 x = Dv x) ∨ ∃ x, 0 ≤ x ∧ x < 10 ∧ s0 x ≠ Dv x ∧ s x = Dv x := by
    refine Classical.byContradiction fun hno => ?_
    have key : ∀ (n : Nat) (x : Int), 0 ≤ x → x < 10 → Dv x ≤ n → s0 x = Dv x := by
      intro n
      induction n using Nat.strongRecOn with
      | ind n ih =>
        intro x x0 x1 hn
        refine Classical.byContradiction fun hx => ?_
        have a := g1.2 x x0 x1
        have b := Dv_in hD x0 x1
        by_cases hs : x = src
        · subst hs
          have := g1.1
          omega
        · by_cases hd : Dv x = -1
          · omega
          · obtain ⟨y, w, e1, e2, e3⟩ := Dv_pred hp hE hD hsrc x0 x1 hd hs
            have hw := hE.1 y x w e1
            have c := Dv_in hD hw.1 (show y < 10 by omega)
            have d := ih (Dv y).toNat (by omega) y hw.1 (by omega) (by omega)
            have f := h4 y x w e1 (by omega)
            have g := h2.2 x x0 x1
            exact hno (Or.inr ⟨x, x0, x1, hx, by omega⟩)
    exact hno (Or.inl (fun x x0 x1 => key (Dv x).toNat x x0 x1 (by omega)))
  refine ⟨by rw [show 3960 * (rd + 1) = 3960 * rd + 198 * 20 by omega]; exact h2, fun _ => ?_, fun z => ?_⟩
  · rcases grow with q | ⟨x, x0, x1, x2, x3⟩
    · exact Or.inl (fun x x0 x1 => keep x x0 x1 (q x x0 x1))
    · rcases g2 rfl with q | q
      · exact absurd (q x x0 x1) x2
      · refine Or.inr ?_
        have := sm_lt (f := ind s0 Dv) (g := ind s Dv) (k := x) x0 (n := 10) (by omega) (by unfold ind; rw [if_neg x2, if_pos x3]; decide) (fun j j0 j1 => by
          unfold ind
          by_cases y : s0 j = Dv j
          · rw [if_pos y, if_pos (keep j j0 (by omega) y)]; decide
          · rw [if_neg y]; exact (ind_in s Dv j).1)
        omega
  · rcases grow with q | ⟨x, x0, x1, x2, x3⟩
    · exact fun x x0 x1 => keep x x0 x1 (q x x0 x1)
    · exact absurd ((h5 z x x0 x1).symm.trans x3) x2
theorem BfI_out {E : Int → Int → Int → Prop} {src dst : Int} {Dv s : Int → Int} {rd flag : Int} (hD : isDv E src Dv) (hdst : 0 ≤ dst ∧ dst < 10) (hf : flag = 0 ∨ flag = 1) (h : BfI Dv src s rd flag) (ho : flag = 0 ∨ 10 ≤ rd) : distP E src dst (s dst) := by
  have all : ∀ x, 0 ≤ x → x < 10 → s x = Dv x := by
    rcases hf with q | q
    · exact h.2.2 q
    · rcases h.2.1 q with z | z
      · exact z
      · have := sm_in (f := ind s Dv) (n := 10) (fun j _ _ => ind_in s Dv j)
        have : rd + 1 ≤ 10 := by omega
        omega
  rw [all dst hdst.1 hdst.2]
  exact hD dst hdst.1 hdst.2
/-! ===== groups of joined ports ===== -/
/-- the least of its group: 1, or 0 -/
def isMn (E : Int → Int → Int → Prop) (ports : Int) (mn : Int → Int) : Prop := ∀ p, 0 ≤ p → p < ports → (mn p = 1 ∧ ∀ q, 0 ≤ q → q < p → ¬ cn E q p) ∨ (mn p = 0 ∧ ∃ q, 0 ≤ q ∧ q < p ∧ cn E q p)
def grpP (E : Int → Int → Int → Prop) (ports z : Int) : Prop := ∃ mn, isMn E ports mn ∧ z = sm mn ports.toNat
theorem isMn_uniq {E : Int → Int → Int → Prop} {ports : Int} {mn mn' : Int → Int} (h : isMn E ports mn) (h' : isMn E ports mn') : ∀ p, 0 ≤ p → p < ports → mn p = mn' p := by
  intro p p0 p1
  rcases h p p0 p1 with ⟨a, b⟩ | ⟨a, q, q0, q1, q2⟩
  · rcases h' p p0 p1 with ⟨c, d⟩ | ⟨c, q, q0, q1, q2⟩
    · omega
    · exact absurd q2 (b q q0 q1)
  · rcases h' p p0 p1 with ⟨c, d⟩ | ⟨c, r, r0, r1, r2⟩
    · exact absurd q2 (d q q0 q1)
    · omega
theorem grpP_uniq {E : Int → Int → Int → Prop} {ports z z' : Int} (h : grpP E ports z) (h' : grpP E ports z') : z = z' := by
  obtain ⟨mn, h1, h2⟩ := h
  obtain ⟨mn', g1, g2⟩ := h'
  rw [h2, g2]
  exact sm_congr (fun j j0 j1 => isMn_uniq h1 g1 j j0 (by omega))
def mnL (g : Int → Int) (ports : Int) (mn : Int → Int) : Prop := ∀ p, 0 ≤ p → p < ports → (mn p = 1 ∧ ∀ q, 0 ≤ q → q < p → ¬ g q = g p) ∨ (mn p = 0 ∧ ∃ q, 0 ≤ q ∧ q < p ∧ g q = g p)
theorem least_of (P : Int → Prop) (a : Int) (a0 : 0 ≤ a) (ha : P a) : ∃ m, 0 ≤ m ∧ m ≤ a ∧ P m ∧ ∀ q, 0 ≤ q → q < m → ¬ P q := by
  refine Classical.byContradiction fun hno => ?_
  have key : ∀ (n : Nat) (x : Int), 0 ≤ x → x ≤ n → x ≤ a → ¬ P x := by
    intro n
    induction n using Nat.strongRecOn with
    | ind n ih =>
      intro x x0 hn hxa hx
      exact hno ⟨x, x0, hxa, hx, fun q q0 q1 => ih q.toNat (by omega) q q0 (by omega) (by omega)⟩
  exact key a.toNat a a0 (by omega) (Int.le_refl a) ha
theorem mnL_0 {g : Int → Int} {ports : Int} (hp : ports ≤ 10) (hg : ∀ x, 0 ≤ x → x < 10 → g x = x) : mnL g ports (fun _ => 1) := by
  intro p p0 p1
  refine Or.inl ⟨rfl, fun q q0 q1 h => ?_⟩
  rw [hg q q0 (by omega), hg p p0 (by omega)] at h
  omega
theorem mnL_join {g g' mn : Int → Int} {ports a b : Int} (hp : ports ≤ 10) (ha : 0 ≤ a ∧ a < ports) (hb : 0 ≤ b ∧ b < ports) (hne : ¬ g a = g b) (hg : ∀ j, 0 ≤ j → j < 10 → g' j = if g j = g b then g a else g j) (h : mnL g ports mn) : ∃ mn', mnL g' ports mn' ∧ sm mn' ports.toNat = sm mn ports.toNat - 1 := by
  obtain ⟨ma, ma0, ma1, ma2, ma3⟩ := least_of (fun x => g x = g a) a ha.1 rfl
  obtain ⟨mb, mb0, mb1, mb2, mb3⟩ := least_of (fun x => g x = g b) b hb.1 rfl
  have hab : ma ≠ mb := by
    intro e
    subst e
    exact hne (ma2.symm.trans mb2)
  have eqv : ∀ q p, 0 ≤ q → q < 10 → 0 ≤ p → p < 10 → (g' q = g' p ↔ (g q = g p ∨ (g q = g a ∧ g p = g b) ∨ (g q = g b ∧ g p = g a))) := by
    intro q p q0 q1 p0 p1
    rw [hg q q0 q1, hg p p0 p1]
    by_cases x : g q = g b
    · rw [if_pos x]
      by_cases y : g p = g b
      · rw [if_pos y, x, y]
        exact ⟨fun _ => Or.inl rfl, fun _ => rfl⟩
      · rw [if_neg y]
        constructor
        · intro z; exact Or.inr (Or.inr ⟨x, z.symm⟩)
        · rintro (z | ⟨z1, z2⟩ | ⟨z1, z2⟩)
          · exact absurd (z.symm.trans x) y
          · exact absurd z2 y
          · exact z2.symm
    · rw [if_neg x]
      by_cases y : g p = g b
      · rw [if_pos y]
        constructor
        · intro z; exact Or.inr (Or.inl ⟨z, y⟩)
        · rintro (z | ⟨z1, z2⟩ | ⟨z1, z2⟩)
          · exact absurd (z.trans y) x
          · exact z1
          · exact absurd z1 x
      · rw [if_neg y]
        constructor
        · intro z; exact Or.inl z
        · rintro (z | ⟨z1, z2⟩ | ⟨z1, z2⟩)
          · exact z
          · exact absurd z2 y
          · exact absurd z1 x
  refine ⟨zU mn (max ma mb) 0, ?_, ?_⟩
  · intro p p0 p1
    by_cases hpm : p = max ma mb
    · refine Or.inr ⟨by rw [hpm, zU_same], min ma mb, by omega, by omega, (eqv _ _ (by omega) (by omega) p0 (by omega)).mpr ?_⟩
      by_cases z : ma < mb
      · rw [show min ma mb = ma by omega, show p = mb by omega]
        exact Or.inr (Or.inl ⟨ma2, mb2⟩)
      · rw [show min ma mb = mb by omega, show p = ma by omega]
        exact Or.inr (Or.inr ⟨mb2, ma2⟩)
    · rw [zU_ne hpm]
      rcases h p p0 p1 with ⟨x, y⟩ | ⟨x, q, q0, q1, q2⟩
      · refine Or.inl ⟨x, fun q q0 q1 hq => ?_⟩
        rcases (eqv q p q0 (by omega) p0 (by omega)).mp hq with z | ⟨z1, z2⟩ | ⟨z1, z2⟩
        · exact y q q0 q1 z
        · -- p is the least of b's group
          have e1 : p = mb := by
            rcases Int.lt_trichotomy p mb with w | w | w
            · exact absurd z2 (mb3 p p0 w)
            · exact w
            · exact absurd (mb2.trans z2.symm) (y mb mb0 w)
          have e2 : ma ≤ q := Int.not_lt.mp fun w => ma3 q q0 w z1
          omega
        · have e1 : p = ma := by
            rcases Int.lt_trichotomy p ma with w | w | w
            · exact absurd z2 (ma3 p p0 w)
            · exact w
            · exact absurd (ma2.trans z2.symm) (y ma ma0 w)
          have e2 : mb ≤ q := Int.not_lt.mp fun w => mb3 q q0 w z1
          omega
      · exact Or.inr ⟨x, q, q0, q1, (eqv q p q0 (by omega) p0 (by omega)).mpr (Or.inl q2)⟩
  · have hm : mn (max ma mb) = 1 := by
      rcases h (max ma mb) (by omega) (by omega) with ⟨x, -⟩ | ⟨-, q, q0, q1, q2⟩
      · exact x
      · by_cases z : ma < mb
        · rw [show max ma mb = mb by omega] at q1 q2
          exact absurd (q2.trans mb2) (mb3 q q0 q1)
        · rw [show max ma mb = ma by omega] at q1 q2
          exact absurd (q2.trans ma2) (ma3 q q0 q1)
    rw [sm_up (by omega) (by omega), hm]
    omega
theorem mnL_same {g g' mn : Int → Int} {ports a b : Int} (hp : ports ≤ 10) (hab : g a = g b) (hg : ∀ j, 0 ≤ j → j < 10 → g' j = if g j = g b then g a else g j) (h : mnL g ports mn) : mnL g' ports mn := by
  have e : ∀ j, 0 ≤ j → j < 10 → g' j = g j := by
    intro j j0 j1
    rw [hg j j0 j1]
    by_cases z : g j = g b
    · rw [if_pos z, hab, z]
    · rw [if_neg z]
  intro p p0 p1
  rcases h p p0 p1 with ⟨x, y⟩ | ⟨x, q, q0, q1, q2⟩
  · refine Or.inl ⟨x, fun q q0 q1 hq => y q q0 q1 ?_⟩
    rw [← e q q0 (by omega), ← e p p0 (by omega)]
    exact hq
  · exact Or.inr ⟨x, q, q0, q1, by rw [e q q0 (by omega), e p p0 (by omega)]; exact q2⟩
theorem grp_end {g : Int → Int} {E : Int → Int → Int → Prop} {ports : Int} {mn : Int → Int} (hp : ports ≤ 10) (hg : eqL g E) (h : mnL g ports mn) : grpP E ports (sm mn ports.toNat) := by
  refine ⟨mn, fun p p0 p1 => ?_, rfl⟩
  rcases h p p0 p1 with ⟨x, y⟩ | ⟨x, q, q0, q1, q2⟩
  · exact Or.inl ⟨x, fun q q0 q1 hq => y q q0 q1 ((hg q p q0 (by omega) p0 (by omega)).mpr hq)⟩
  · exact Or.inr ⟨x, q, q0, q1, (hg q p q0 (by omega) p0 (by omega)).mp q2⟩
theorem sm_one : ∀ n : Nat, sm (fun _ => 1) n = n
  | 0 => rfl
  | n + 1 => by
    show sm (fun _ => 1) n + 1 = ((n + 1 : Nat) : Int)
    rw [sm_one n]
    omega
/-- the legs of a chart: in the order, between ports, their numbers in range -/
def ChV (ports legs : Int) (lower upper leng reach : Int → Int) : Prop := 0 ≤ ports ∧ ports ≤ 10 ∧ 0 ≤ legs ∧ legs ≤ 20 ∧ (∀ k, 0 ≤ k → k < legs → 0 ≤ lower k ∧ lower k < upper k ∧ upper k < ports ∧ 1 ≤ leng k ∧ leng k ≤ 99 ∧ 1 ≤ reach k ∧ reach k ≤ 20) ∧ ∀ a b, 0 ≤ a → a < b → b < legs → legLt (reach a) (leng a) (lower a) (upper a) (reach b) (leng b) (lower b) (upper b)
theorem ChV.egOk {ports legs : Int} {lower upper leng reach : Int → Int} (h : ChV ports legs lower upper leng reach) (r : Int) : egOk (eg legs lower upper leng reach r) ports := by
  obtain ⟨h1, h2, h3, h4, h5, h6⟩ := h
  refine ⟨?_, ?_⟩
  · rintro a b w ⟨k, k0, k1, k2, k3, k4⟩
    have := h5 k k0 k1
    omega
  · rintro a b w ⟨k, k0, k1, k2, k3, k4⟩
    exact ⟨k, k0, k1, k2, k3, k4.symm⟩
theorem ChV.srt {ports legs : Int} {lower upper leng reach : Int → Int} (h : ChV ports legs lower upper leng reach) : ∀ a b, 0 ≤ a → a ≤ b → b < legs → reach a ≤ reach b := by
  intro a b a0 ab b1
  by_cases e : a = b
  · subst e; exact Int.le_refl _
  · have := h.2.2.2.2.2 a b a0 (by omega) b1
    unfold legLt at this
    omega
theorem ChV.sub {ports legs : Int} {lower upper leng reach : Int → Int} (h : ChV ports legs lower upper leng reach) {k r r' : Int} (hk : k ≤ legs) (hr : r ≤ r' ∨ 20 ≤ r') : ∀ a b w, eg k lower upper leng reach r a b w → eg legs lower upper leng reach r' a b w := by
  rintro a b w ⟨j, j0, j1, j2, j3, j4⟩
  have := h.2.2.2.2.1 j j0 (by omega)
  exact ⟨j, j0, by omega, by omega, j3, j4⟩
