/-! ===== joining leg by leg: labels ===== -/
/-- joined by the legs ahead of place k, of reach at most r -/
def eqL (g : Int → Int) (E : Int → Int → Int → Prop) : Prop := ∀ x y, 0 ≤ x → x < 10 → 0 ≤ y → y < 10 → (g x = g y ↔ cn E x y)
theorem eg_succ {k : Int} {lower upper leng reach : Int → Int} {r : Int} (h0 : 0 ≤ k) (hr : reach k ≤ r) (a b w : Int) : eg (k + 1) lower upper leng reach r a b w ↔ (eg k lower upper leng reach r a b w ∨ (leng k = w ∧ ((lower k = a ∧ upper k = b) ∨ (lower k = b ∧ upper k = a)))) := by
  constructor
  · rintro ⟨j, j0, j1, j2, j3, j4⟩
    by_cases hj : j = k
    · subst hj
      exact Or.inr ⟨j3, j4⟩
    · exact Or.inl ⟨j, j0, by omega, j2, j3, j4⟩
  · rintro (⟨j, j0, j1, j2, j3, j4⟩ | ⟨j3, j4⟩)
    · exact ⟨j, j0, by omega, j2, j3, j4⟩
    · exact ⟨k, h0, by omega, hr, j3, j4⟩
theorem eg_skip {k : Int} {lower upper leng reach : Int → Int} {r : Int} (hr : ¬ reach k ≤ r) (a b w : Int) : eg (k + 1) lower upper leng reach r a b w ↔ eg k lower upper leng reach r a b w := by
  constructor
  · rintro ⟨j, j0, j1, j2, j3, j4⟩
    by_cases hj : j = k
    · subst hj
      exact absurd j2 hr
    · exact ⟨j, j0, by omega, j2, j3, j4⟩
  · rintro ⟨j, j0, j1, j2, j3, j4⟩
    exact ⟨j, j0, by omega, j2, j3, j4⟩
theorem eg_0 {lower upper leng reach : Int → Int} {r : Int} (a b w : Int) : ¬ eg 0 lower upper leng reach r a b w := by
  rintro ⟨j, j0, j1, -⟩
  omega
theorem cn_congr {E E' : Int → Int → Int → Prop} (h : ∀ a b w, E a b w ↔ E' a b w) (i j : Int) : cn E i j ↔ cn E' i j :=
  ⟨fun g => cn_mono (fun a b w z => (h a b w).mp z) g, fun g => cn_mono (fun a b w z => (h a b w).mpr z) g⟩
theorem eqL_0 {g : Int → Int} {lower upper leng reach : Int → Int} {r : Int} (hg : ∀ x, 0 ≤ x → x < 10 → g x = x) : eqL g (eg 0 lower upper leng reach r) := by
  intro x y x0 x1 y0 y1
  rw [hg x x0 x1, hg y y0 y1]
  constructor
  · intro h
    subst h
    exact cn_refl _ _
  · intro h
    exact h (fun z => z) (fun a b w z => absurd z (eg_0 a b w))
theorem eqL_skip {g : Int → Int} {k : Int} {lower upper leng reach : Int → Int} {r : Int} (hr : ¬ reach k ≤ r) (h : eqL g (eg k lower upper leng reach r)) : eqL g (eg (k + 1) lower upper leng reach r) := by
  intro x y x0 x1 y0 y1
  rw [h x y x0 x1 y0 y1, cn_congr (eg_skip hr)]
theorem eqL_step {g g' : Int → Int} {k : Int} {lower upper leng reach : Int → Int} {r : Int} (h0 : 0 ≤ k) (hr : reach k ≤ r) (hlo : 0 ≤ lower k ∧ lower k < 10) (hup : 0 ≤ upper k ∧ upper k < 10) (h : eqL g (eg k lower upper leng reach r)) (hV : ∀ j, 0 ≤ j → j < k → reach j ≤ r → 0 ≤ lower j ∧ lower j < 10 ∧ 0 ≤ upper j ∧ upper j < 10)
    (hg : ∀ j, 0 ≤ j → j < 10 → g' j = if g j = g (upper k) then g (lower k) else g j) : eqL g' (eg (k + 1) lower upper leng reach r) := by
  intro x y x0 x1 y0 y1
  have sub : ∀ i j, cn (eg k lower upper leng reach r) i j → cn (eg (k + 1) lower upper leng reach r) i j := fun i j => cn_mono (fun a b w z => (eg_succ h0 hr a b w).mpr (Or.inl z))
  have new : cn (eg (k + 1) lower upper leng reach r) (lower k) (upper k) := cn_edge ((eg_succ h0 hr (lower k) (upper k) (leng k)).mpr (Or.inr ⟨rfl, Or.inl ⟨rfl, rfl⟩⟩))
  -- a port with the given label is joined to the leg's upper port
  have up : ∀ x, 0 ≤ x → x < 10 → g x = g (upper k) → cn (eg (k + 1) lower upper leng reach r) x (lower k) := fun x x0 x1 hx => cn_trans (sub _ _ ((h x (upper k) x0 x1 hup.1 hup.2).mp hx)) (cn_symm new)
  have lo : ∀ x, 0 ≤ x → x < 10 → g x = g (lower k) → cn (eg (k + 1) lower upper leng reach r) x (lower k) := fun x x0 x1 hx => sub _ _ ((h x (lower k) x0 x1 hlo.1 hlo.2).mp hx)
  constructor
  · intro hxy
    rw [hg x x0 x1, hg y y0 y1] at hxy
    by_cases hx : g x = g (upper k)
    · rw [if_pos hx] at hxy
      by_cases hy : g y = g (upper k)
      · exact cn_trans (up x x0 x1 hx) (cn_symm (up y y0 y1 hy))
      · rw [if_neg hy] at hxy
        exact cn_trans (up x x0 x1 hx) (cn_symm (lo y y0 y1 hxy.symm))
    · rw [if_neg hx] at hxy
      by_cases hy : g y = g (upper k)
      · rw [if_pos hy] at hxy
        exact cn_trans (lo x x0 x1 hxy) (cn_symm (up y y0 y1 hy))
      · rw [if_neg hy] at hxy
        exact sub _ _ ((h x y x0 x1 y0 y1).mp hxy)
  · intro hc
    -- labels are one on legs
    have hf := hc (fun z => if 0 ≤ z ∧ z < 10 then g' z else 0) (fun a b w hab => by
      have hab2 := (eg_succ h0 hr a b w).mp hab
      have key : ∀ a b : Int, 0 ≤ a ∧ a < 10 → 0 ≤ b ∧ b < 10 → g' a = g' b → (if 0 ≤ a ∧ a < 10 then g' a else 0) = (if 0 ≤ b ∧ b < 10 then g' b else 0) := fun a b ha hb e => by rw [if_pos ha, if_pos hb, e]
      have same : ∀ a b : Int, 0 ≤ a ∧ a < 10 → 0 ≤ b ∧ b < 10 → g a = g b → g' a = g' b := fun a b ha hb e => by rw [hg a ha.1 ha.2, hg b hb.1 hb.2, e]
      have ends : g' (lower k) = g' (upper k) := by
        rw [hg _ hlo.1 hlo.2, hg _ hup.1 hup.2, if_pos rfl]
        by_cases z : g (lower k) = g (upper k)
        · rw [if_pos z]
        · rw [if_neg z]
      rcases hab2 with z | ⟨-, ⟨z1, z2⟩ | ⟨z1, z2⟩⟩
      · obtain ⟨j, j0, j1, j2, j3, j4⟩ := id z
        have hj := hV j j0 j1 j2
        have ha : 0 ≤ a ∧ a < 10 := by omega
        have hb : 0 ≤ b ∧ b < 10 := by omega
        exact key a b ha hb (same a b ha hb ((h a b ha.1 ha.2 hb.1 hb.2).mpr (cn_edge z)))
      · rw [← z1, ← z2]
        exact key _ _ hlo hup ends
      · rw [← z1, ← z2]
        exact key _ _ hup hlo ends.symm)
    have hf2 : (if 0 ≤ x ∧ x < 10 then g' x else 0) = (if 0 ≤ y ∧ y < 10 then g' y else 0) := hf
    rw [if_pos ⟨x0, x1⟩, if_pos ⟨y0, y1⟩] at hf2
    exact hf2
/-- the legs in the order of their reaches -/
theorem need_found {legs k : Int} {lower upper leng reach : Int → Int} {i j : Int} (hs : ∀ a b, 0 ≤ a → a ≤ b → b < legs → reach a ≤ reach b) (h0 : 0 ≤ k) (hk : k < legs) (hr : 0 ≤ reach k ∧ reach k ≤ 20) (hno : ¬ cn (eg k lower upper leng reach 20) i j) (hyes : cn (eg (k + 1) lower upper leng reach 20) i j) : needP (eg legs lower upper leng reach) i j (reach k) := by
  refine Or.inr ⟨hr.1, hr.2, cn_mono ?_ hyes, ?_⟩
  · rintro a b w ⟨q, q0, q1, q2, q3, q4⟩
    exact ⟨q, q0, by omega, hs q k q0 (by omega) hk, q3, q4⟩
  · intro q hq hc
    refine hno (cn_mono ?_ hc)
    rintro a b w ⟨z, z0, z1, z2, z3, z4⟩
    have : z < k := by
      rcases Int.lt_or_le z k with y | y
      · exact y
      · have := hs k z h0 y z1
        omega
    exact ⟨z, z0, this, by omega, z3, z4⟩
theorem need_none {legs : Int} {lower upper leng reach : Int → Int} {i j : Int} (hno : ¬ cn (eg legs lower upper leng reach 20) i j) : needP (eg legs lower upper leng reach) i j (-1) := by
  refine Or.inl ⟨rfl, fun r hr hc => hno (cn_mono ?_ hc)⟩
  rintro a b w ⟨z, z0, z1, z2, z3, z4⟩
  exact ⟨z, z0, z1, by omega, z3, z4⟩
/-! ===== spreading over legs, in rounds ===== -/
def SpI (E : Int → Int → Int → Prop) (src : Int) (n : Int → Int) (rd flag : Int) : Prop :=
  n src = 1 ∧ (∀ x, 0 ≤ x → x < 10 → n x = 0 ∨ n x = 1) ∧ (∀ x, 0 ≤ x → x < 10 → n x = 1 → cn E src x) ∧ (flag = 1 → rd + 1 ≤ sm n 10) ∧ (flag = 0 → ∀ a b w, E a b w → n a = n b)
/-- within a round: the legs ahead of k are done -/
def SpK (E : Int → Int → Int → Prop) (Ek : Int → Int → Int → Prop) (src : Int) (n0 n : Int → Int) (flag : Int) : Prop :=
  (flag = 0 ∨ flag = 1) ∧ n src = 1 ∧ (∀ x, 0 ≤ x → x < 10 → n x = 0 ∨ n x = 1) ∧ (∀ x, 0 ≤ x → x < 10 → n x = 1 → cn E src x) ∧ (∀ x, 0 ≤ x → x < 10 → n0 x ≤ n x) ∧ (flag = 1 → sm n0 10 + 1 ≤ sm n 10) ∧ (flag = 0 → (∀ x, 0 ≤ x → x < 10 → n x = n0 x) ∧ ∀ a b w, Ek a b w → n a = n b)
theorem SpI_init {E : Int → Int → Int → Prop} {src : Int} {n : Int → Int} (hsrc : 0 ≤ src ∧ src < 10) (hn : ∀ x, 0 ≤ x → x < 10 → n x = if x = src then 1 else 0) : SpI E src n 0 1 := by
  have n01 : ∀ x, 0 ≤ x → x < 10 → n x = 0 ∨ n x = 1 := by
    intro x h0 h1
    rw [hn x h0 h1]
    by_cases z : x = src
    · rw [if_pos z]; exact Or.inr rfl
    · rw [if_neg z]; exact Or.inl rfl
  have nsrc : n src = 1 := by rw [hn src hsrc.1 hsrc.2, if_pos rfl]
  refine ⟨nsrc, n01, ?_, ?_, fun h => absurd h (by decide)⟩
  · intro x h0 h1 h2
    rw [hn x h0 h1] at h2
    by_cases z : x = src
    · subst z; exact cn_refl _ _
    · rw [if_neg z] at h2; exact absurd h2 (by decide)
  · intro _
    have h := sm_lt (f := fun _ => 0) (g := n) (k := src) hsrc.1 (n := 10) (by omega) (by rw [nsrc]; decide) (fun j j0 j1 => by have := n01 j j0 (by omega); show (0 : Int) ≤ n j; omega)
    have h2 : sm (fun _ => 0) 10 = 0 := rfl
    omega
theorem SpK_init {E : Int → Int → Int → Prop} {src : Int} {n : Int → Int} {rd flag : Int} {lower upper leng reach : Int → Int} {r : Int} (h : SpI E src n rd flag) : SpK E (eg 0 lower upper leng reach r) src n n 0 :=
  ⟨Or.inl rfl, h.1, h.2.1, h.2.2.1, fun _ _ _ => Int.le_refl _, fun z => absurd z (by decide), fun _ => ⟨fun _ _ _ => rfl, fun a b w z => absurd z (eg_0 a b w)⟩⟩
theorem SpK_skip {E : Int → Int → Int → Prop} {src k : Int} {n0 n : Int → Int} {flag : Int} {lower upper leng reach : Int → Int} {r : Int} (hr : ¬ reach k ≤ r) (h : SpK E (eg k lower upper leng reach r) src n0 n flag) : SpK E (eg (k + 1) lower upper leng reach r) src n0 n flag :=
  ⟨h.1, h.2.1, h.2.2.1, h.2.2.2.1, h.2.2.2.2.1, h.2.2.2.2.2.1, fun z => ⟨(h.2.2.2.2.2.2 z).1, fun a b w y => (h.2.2.2.2.2.2 z).2 a b w ((eg_skip hr a b w).mp y)⟩⟩
theorem SpK_same {E : Int → Int → Int → Prop} {src k : Int} {n0 n : Int → Int} {flag : Int} {lower upper leng reach : Int → Int} {r : Int} (h0 : 0 ≤ k) (hr : reach k ≤ r) (he : n (lower k) = n (upper k)) (h : SpK E (eg k lower upper leng reach r) src n0 n flag) : SpK E (eg (k + 1) lower upper leng reach r) src n0 n flag :=
  ⟨h.1, h.2.1, h.2.2.1, h.2.2.2.1, h.2.2.2.2.1, h.2.2.2.2.2.1, fun z => ⟨(h.2.2.2.2.2.2 z).1, fun a b w y => by
    rcases (eg_succ h0 hr a b w).mp y with y | ⟨-, ⟨y1, y2⟩ | ⟨y1, y2⟩⟩
    · exact (h.2.2.2.2.2.2 z).2 a b w y
    · rw [← y1, ← y2]; exact he
    · rw [← y1, ← y2]; exact he.symm⟩⟩
theorem SpK_add {E : Int → Int → Int → Prop} {src k : Int} {n0 n : Int → Int} {flag : Int} {lower upper leng reach : Int → Int} {r : Int} {Ek' : Int → Int → Int → Prop} (hlo : 0 ≤ lower k ∧ lower k < 10) (hup : 0 ≤ upper k ∧ upper k < 10) (hE : E (lower k) (upper k) (leng k)) (he : ¬ n (lower k) = n (upper k)) (h : SpK E (eg k lower upper leng reach r) src n0 n flag) : SpK E Ek' src n0 (zU (zU n (lower k) 1) (upper k) 1) 1 := by
  obtain ⟨h1, h2, h3, h4, h5, h6, h7⟩ := h
  have a1 := h3 _ hlo.1 hlo.2
  have a2 := h3 _ hup.1 hup.2
  have both : cn E src (lower k) ∧ cn E src (upper k) := by
    rcases a1 with q | q
    · have q2 : n (upper k) = 1 := by omega
      have c := h4 _ hup.1 hup.2 q2
      exact ⟨cn_trans c (cn_symm (cn_edge hE)), c⟩
    · have c := h4 _ hlo.1 hlo.2 q
      exact ⟨c, cn_trans c (cn_edge hE)⟩
  have val : ∀ x, zU (zU n (lower k) 1) (upper k) 1 x = if x = upper k ∨ x = lower k then 1 else n x := by
    intro x
    unfold zU
    by_cases z : x = upper k
    · rw [if_pos z, if_pos (Or.inl z)]
    · by_cases y : x = lower k
      · rw [if_neg z, if_pos y, if_pos (Or.inr y)]
      · rw [if_neg z, if_neg y, if_neg (by omega)]
  have ge : ∀ x, 0 ≤ x → x < 10 → n x ≤ zU (zU n (lower k) 1) (upper k) 1 x := by
    intro x x0 x1
    have := h3 x x0 x1
    rw [val]
    by_cases z : x = upper k ∨ x = lower k
    · rw [if_pos z]; omega
    · rw [if_neg z]; exact Int.le_refl _
  have grow : sm n 10 + 1 ≤ sm (zU (zU n (lower k) 1) (upper k) 1) 10 := by
    rcases a1 with q | q
    · exact sm_lt (k := lower k) hlo.1 (by omega) (by rw [val, if_pos (Or.inr rfl)]; omega) (fun j j0 j1 => ge j j0 (by omega))
    · exact sm_lt (k := upper k) hup.1 (by omega) (by rw [val, if_pos (Or.inl rfl)]; omega) (fun j j0 j1 => ge j j0 (by omega))
  refine ⟨Or.inr rfl, ?_, ?_, ?_, ?_, ?_, fun z => absurd z (by decide)⟩
  · rw [val]
    by_cases z : src = upper k ∨ src = lower k
    · rw [if_pos z]
    · rw [if_neg z]; exact h2
  · intro x x0 x1
    rw [val]
    by_cases z : x = upper k ∨ x = lower k
    · rw [if_pos z]; exact Or.inr rfl
    · rw [if_neg z]; exact h3 x x0 x1
  · intro x x0 x1 hx
    rw [val] at hx
    by_cases z : x = upper k ∨ x = lower k
    · rcases z with z | z
      · rw [z]; exact both.2
      · rw [z]; exact both.1
    · rw [if_neg z] at hx
      exact h4 x x0 x1 hx
  · intro x x0 x1
    exact Int.le_trans (h5 x x0 x1) (ge x x0 x1)
  · intro _
    rcases h1 with q | q
    · have e := sm_congr (f := n) (g := n0) (n := 10) (fun j j0 j1 => (h7 q).1 j j0 (by omega))
      omega
    · have := h6 q
      omega
theorem SpK_done {E : Int → Int → Int → Prop} {src : Int} {n0 n : Int → Int} {rd flag : Int} (h0 : SpI E src n0 rd 1) (h : SpK E E src n0 n flag) : SpI E src n (rd + 1) flag := by
  obtain ⟨h1, h2, h3, h4, h5, h6, h7⟩ := h
  refine ⟨h2, h3, h4, fun z => ?_, fun z => (h7 z).2⟩
  have := h6 z
  have := h0.2.2.2.1 rfl
  omega
theorem SpI_closed {E : Int → Int → Int → Prop} {src dst : Int} {n : Int → Int} (hs : n src = 1) (hd : ¬ n dst = 1) (hcl : ∀ a b w, E a b w → n a = n b) : ¬ cn E src dst := fun h => hd ((h n hcl).symm.trans hs)
theorem SpI_room {E : Int → Int → Int → Prop} {src : Int} {n : Int → Int} {rd : Int} (h : SpI E src n rd 1) : rd < 10 := by
  have := sm_in (f := n) (n := 10) (fun j j0 j1 => by have := h.2.1 j j0 (by omega); omega)
  have := h.2.2.2.1 rfl
  omega
