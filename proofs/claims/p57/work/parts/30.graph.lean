/-! ===== legs as edges; distances by potentials, being joined by labels ===== -/
def eg (legs : Int) (lower upper leng reach : Int → Int) (r : Int) : Int → Int → Int → Prop := fun a b w => ∃ k, 0 ≤ k ∧ k < legs ∧ reach k ≤ r ∧ leng k = w ∧ ((lower k = a ∧ upper k = b) ∨ (lower k = b ∧ upper k = a))
def feas (E : Int → Int → Int → Prop) (φ : Int → Int) : Prop := ∀ a b w, E a b w → φ b ≤ φ a + w
def isD (E : Int → Int → Int → Prop) (i j d : Int) : Prop := (∀ φ, feas E φ → φ j ≤ φ i + d) ∧ ∃ φ, feas E φ ∧ φ j = φ i + d
def cn (E : Int → Int → Int → Prop) (i j : Int) : Prop := ∀ f : Int → Int, (∀ a b w, E a b w → f a = f b) → f i = f j
def distP (E : Int → Int → Int → Prop) (i j z : Int) : Prop := (z = -1 ∧ ¬ cn E i j) ∨ (0 ≤ z ∧ cn E i j ∧ isD E i j z)
def needP (E : Int → Int → Int → Int → Prop) (i j z : Int) : Prop := (z = -1 ∧ ∀ r, r ≤ 20 → ¬ cn (E r) i j) ∨ (0 ≤ z ∧ z ≤ 20 ∧ cn (E z) i j ∧ ∀ q, q < z → ¬ cn (E q) i j)
/-- edges between ports, both ways, of lengths 1 to 99 -/
def egOk (E : Int → Int → Int → Prop) (ports : Int) : Prop := (∀ a b w, E a b w → 0 ≤ a ∧ a < ports ∧ 0 ≤ b ∧ b < ports ∧ 1 ≤ w ∧ w ≤ 99 ∧ a ≠ b) ∧ ∀ a b w, E a b w → E b a w
theorem isD_uniq {E : Int → Int → Int → Prop} {i j d d' : Int} (h : isD E i j d) (h' : isD E i j d') : d = d' := by
  obtain ⟨h1, φ, h2, h3⟩ := h
  obtain ⟨g1, ψ, g2, g3⟩ := h'
  have a := h1 ψ g2
  have b := g1 φ h2
  omega
theorem distP_uniq {E : Int → Int → Int → Prop} {i j z z' : Int} (h : distP E i j z) (h' : distP E i j z') : z = z' := by
  rcases h with ⟨h1, h2⟩ | ⟨h1, h2, h3⟩
  · rcases h' with ⟨g1, g2⟩ | ⟨g1, g2, g3⟩
    · omega
    · exact absurd g2 h2
  · rcases h' with ⟨g1, g2⟩ | ⟨g1, g2, g3⟩
    · exact absurd h2 g2
    · exact isD_uniq h3 g3
theorem needP_uniq {E : Int → Int → Int → Int → Prop} {i j z z' : Int} (h : needP E i j z) (h' : needP E i j z') : z = z' := by
  rcases h with ⟨h1, h2⟩ | ⟨h1, h2, h3, h4⟩
  · rcases h' with ⟨g1, g2⟩ | ⟨g1, g2, g3, g4⟩
    · omega
    · exact absurd g3 (h2 _ g2)
  · rcases h' with ⟨g1, g2⟩ | ⟨g1, g2, g3, g4⟩
    · exact absurd h3 (g2 _ h2)
    · rcases Int.lt_trichotomy z z' with q | q | q
      · exact absurd h3 (g4 _ q)
      · exact q
      · exact absurd g3 (h4 _ q)
theorem cn_refl (E : Int → Int → Int → Prop) (i : Int) : cn E i i := fun _ _ => rfl
theorem cn_symm {E : Int → Int → Int → Prop} {i j : Int} (h : cn E i j) : cn E j i := fun f hf => (h f hf).symm
theorem cn_trans {E : Int → Int → Int → Prop} {i j k : Int} (h : cn E i j) (g : cn E j k) : cn E i k := fun f hf => (h f hf).trans (g f hf)
theorem cn_edge {E : Int → Int → Int → Prop} {a b w : Int} (h : E a b w) : cn E a b := fun _ hf => hf a b w h
theorem cn_mono {E E' : Int → Int → Int → Prop} (h : ∀ a b w, E a b w → E' a b w) {i j : Int} (g : cn E i j) : cn E' i j := fun f hf => g f (fun a b w z => hf a b w (h a b w z))
/-! counting places of 0s and 1s -/
def sm (f : Int → Int) : Nat → Int
  | 0 => 0
  | n + 1 => sm f n + f (n : Int)
theorem sm_congr {f g : Int → Int} : ∀ {n : Nat}, (∀ j : Int, 0 ≤ j → j < n → f j = g j) → sm f n = sm g n
  | 0, _ => rfl
  | n + 1, h => by
    show sm f n + f n = sm g n + g n
    rw [sm_congr (n := n) (fun j h0 h1 => h j h0 (by omega)), h n (by omega) (by omega)]
theorem sm_in {f : Int → Int} : ∀ {n : Nat}, (∀ j : Int, 0 ≤ j → j < n → 0 ≤ f j ∧ f j ≤ 1) → 0 ≤ sm f n ∧ sm f n ≤ n
  | 0, _ => ⟨Int.le_refl 0, Int.le_refl 0⟩
  | n + 1, h => by
    have h1 := sm_in (n := n) (fun j h0 h1 => h j h0 (by omega))
    have h2 := h n (by omega) (by omega)
    show 0 ≤ sm f n + f n ∧ sm f n + f n ≤ (n + 1 : Nat)
    omega
theorem sm_all {f : Int → Int} : ∀ {n : Nat}, (∀ j : Int, 0 ≤ j → j < n → 0 ≤ f j ∧ f j ≤ 1) → sm f n = n → ∀ j : Int, 0 ≤ j → j < n → f j = 1
  | 0, _, _, j, h0, h1 => absurd h1 (by omega)
  | n + 1, h, hs, j, h0, h1 => by
    have h2 := sm_in (n := n) (fun j h0 h1 => h j h0 (by omega))
    have h3 := h n (by omega) (by omega)
    have h4 : sm f n + f n = (n + 1 : Nat) := hs
    by_cases hj : j = n
    · subst hj
      omega
    · exact sm_all (n := n) (fun j h0 h1 => h j h0 (by omega)) (by omega) j h0 (by omega)
theorem sm_mono {f g : Int → Int} : ∀ {n : Nat}, (∀ j : Int, 0 ≤ j → j < n → f j ≤ g j) → sm f n ≤ sm g n
  | 0, _ => Int.le_refl 0
  | n + 1, h => by
    have h1 := sm_mono (n := n) (fun j h0 h1 => h j h0 (by omega))
    have h2 := h n (by omega) (by omega)
    show sm f n + f n ≤ sm g n + g n
    omega
theorem sm_lt {f g : Int → Int} {k : Int} (hk : 0 ≤ k) : ∀ {n : Nat}, k < n → f k + 1 ≤ g k → (∀ j : Int, 0 ≤ j → j < n → f j ≤ g j) → sm f n + 1 ≤ sm g n
  | 0, h, _, _ => absurd h (by omega)
  | n + 1, hn, h1, h => by
    show sm f n + f n + 1 ≤ sm g n + g n
    by_cases hj : k = n
    · have h2 := sm_mono (n := n) (f := f) (g := g) (fun j h0 h1 => h j h0 (by omega))
      rw [hj] at h1
      omega
    · have h2 := sm_lt hk (n := n) (by omega) h1 (fun j h0 h1 => h j h0 (by omega))
      have h3 := h n (by omega) (by omega)
      omega
theorem sm_up {f : Int → Int} {k v : Int} (hk : 0 ≤ k) : ∀ {n : Nat}, k < n → sm (zU f k v) n = sm f n + (v - f k)
  | 0, h => absurd h (by omega)
  | n + 1, hn => by
    show sm (zU f k v) n + zU f k v n = sm f n + f n + (v - f k)
    by_cases hj : k = n
    · rw [sm_congr (n := n) (f := zU f k v) (g := f) (fun j h0 h1 => zU_ne (by omega)), ← hj, zU_same]
      omega
    · rw [sm_up hk (n := n) (by omega), zU_ne (by omega)]
      omega
/-! going on from the nearest port -/
def DjI (E : Int → Int → Int → Prop) (src ports : Int) (s n : Int → Int) (rd : Int) : Prop :=
  s src = 0 ∧ (∀ x, 0 ≤ x → x < 10 → s x = -1 ∨ (0 ≤ s x ∧ s x ≤ 99 * rd ∧ x < ports)) ∧ (∀ x, 0 ≤ x → x < 10 → n x = 0 ∨ n x = 1) ∧ sm n ports.toNat = rd ∧ (∀ x, 0 ≤ x → x < 10 → n x = 1 → s x ≠ -1) ∧
  (∀ a b w, E a b w → n a = 1 → s b ≠ -1 ∧ s b ≤ s a + w) ∧ (∀ a b, 0 ≤ a → a < 10 → 0 ≤ b → b < 10 → n a = 1 → n b = 0 → s b ≠ -1 → s a ≤ s b) ∧
  (∀ φ, feas E φ → ∀ x, 0 ≤ x → x < 10 → s x ≠ -1 → φ x ≤ φ src + s x) ∧ (∀ x, 0 ≤ x → x < 10 → s x ≠ -1 → cn E src x)
theorem DjI_init {E : Int → Int → Int → Prop} {src ports : Int} {s n : Int → Int} (hp : ports ≤ 10) (hsrc : 0 ≤ src ∧ src < ports) (hE : egOk E ports) (hs : ∀ x, 0 ≤ x → x < 10 → s x = if x = src then 0 else -1) (hn : ∀ x, 0 ≤ x → x < 10 → n x = 0) : DjI E src ports s n 0 := by
  have lab : ∀ x, 0 ≤ x → x < 10 → s x ≠ -1 → x = src := by
    intro x h0 h1 h2
    rw [hs x h0 h1] at h2
    by_cases hx : x = src
    · exact hx
    · rw [if_neg hx] at h2
      exact absurd rfl h2
  have h00 : s src = 0 := by rw [hs src hsrc.1 (by omega), if_pos rfl]
  refine ⟨h00, ?_, fun x h0 h1 => Or.inl (hn x h0 h1), ?_, ?_, ?_, ?_, ?_, ?_⟩
  · intro x h0 h1
    by_cases hx : s x = -1
    · exact Or.inl hx
    · have h := lab x h0 h1 hx
      subst h
      exact Or.inr ⟨by omega, by omega, hsrc.2⟩
  · have h := sm_congr (f := n) (g := fun _ => 0) (n := ports.toNat) (fun j h0 h1 => hn j h0 (by omega))
    rw [h]
    clear h
    induction ports.toNat with
    | zero => rfl
    | succ k ih =>
      show sm (fun _ => 0) k + 0 = 0
      rw [ih]
      rfl
  · intro x h0 h1 h2
    have := hn x h0 h1
    omega
  · intro a b w hab h2
    have h3 := hE.1 a b w hab
    have := hn a h3.1 (by omega)
    omega
  · intro a b h0 h1 _ _ h2
    have := hn a h0 h1
    omega
  · intro φ hφ x h0 h1 h2
    have h := lab x h0 h1 h2
    subst h
    omega
  · intro x h0 h1 h2
    have h := lab x h0 h1 h2
    subst h
    exact cn_refl _ _
theorem DjI_step {E : Int → Int → Int → Prop} {src ports : Int} {s n s' : Int → Int} {rd v : Int} (hp : ports ≤ 10) (hsrc : 0 ≤ src ∧ src < ports) (hE : egOk E ports) (h : DjI E src ports s n rd) (hv : 0 ≤ v ∧ v < ports) (hn0 : n v = 0) (hlab : s v ≠ -1)
    (hnear : ∀ x, 0 ≤ x → x < ports → n x = 0 → s x ≠ -1 → s v ≤ s x) (q1 : ∀ x, 0 ≤ x → x < 10 → s' x = s x ∨ (∃ w, E v x w ∧ s' x = s v + w ∧ (s x = -1 ∨ s v + w < s x))) (q2 : ∀ x w, E v x w → s' x ≠ -1 ∧ s' x ≤ s v + w) : DjI E src ports s' (zU n v 1) (rd + 1) := by
  obtain ⟨h1, h2, h3, h4, h5, h6, h7, h8, h9⟩ := h
  have sv := h2 v hv.1 (by omega)
  -- what is seen keeps its length
  have keep : ∀ x, 0 ≤ x → x < 10 → n x = 1 → s' x = s x := by
    intro x h0 h10 hx
    rcases q1 x h0 h10 with q | ⟨w, e1, e2, e3⟩
    · exact q
    · have hw := hE.1 v x w e1
      have a1 := h7 x v h0 h10 hv.1 (by omega) hx hn0 hlab
      have a2 := h5 x h0 h10 hx
      omega
  have kv : s' v = s v := by
    rcases q1 v hv.1 (by omega) with q | ⟨w, e1, e2, e3⟩
    · exact q
    · have hw := hE.1 v v w e1
      omega
  have le : ∀ x, 0 ≤ x → x < 10 → s x ≠ -1 → s' x ≠ -1 ∧ s' x ≤ s x := by
    intro x h0 h10 hx
    have hx2 := h2 x h0 h10
    rcases q1 x h0 h10 with q | ⟨w, e1, e2, e3⟩
    · rw [q]; exact ⟨hx, Int.le_refl _⟩
    · have hw := hE.1 v x w e1
      omega
  have seen' : ∀ x, zU n v 1 x = 1 → x = v ∨ n x = 1 := by
    intro x hx
    by_cases e : x = v
    · exact Or.inl e
    · rw [zU_ne e] at hx
      exact Or.inr hx
  refine ⟨?_, ?_, ?_, ?_, ?_, ?_, ?_, ?_, ?_⟩
  · rcases q1 src hsrc.1 (by omega) with q | ⟨w, e1, e2, e3⟩
    · rw [q, h1]
    · have hw := hE.1 v src w e1
      omega
  · intro x h0 h10
    have hx2 := h2 x h0 h10
    rcases q1 x h0 h10 with q | ⟨w, e1, e2, e3⟩
    · rw [q]
      omega
    · have hw := hE.1 v x w e1
      omega
  · intro x h0 h10
    by_cases e : x = v
    · subst e
      rw [zU_same]
      exact Or.inr rfl
    · rw [zU_ne e]
      exact h3 x h0 h10
  · rw [sm_up hv.1 (by omega), h4, hn0]
    omega
  · intro x h0 h10 hx
    rcases seen' x hx with e | e
    · rw [e, kv]; exact hlab
    · exact (le x h0 h10 (h5 x h0 h10 e)).1
  · intro a b w hab ha
    have hw := hE.1 a b w hab
    rcases seen' a ha with e | e
    · subst e
      rw [kv]
      exact q2 b w hab
    · have a1 := h6 a b w hab e
      have a2 := le b hw.2.2.1 (by omega) a1.1
      rw [keep a hw.1 (by omega) e]
      omega
  · intro a b ha0 ha10 hb0 hb10 ha hb hsb
    have hbv : b ≠ v := by
      intro e
      subst e
      rw [zU_same] at hb
      omega
    rw [zU_ne hbv] at hb
    have hb2 := h2 b hb0 hb10
    rcases seen' a ha with e | e
    · subst e
      rw [kv]
      rcases q1 b hb0 hb10 with q | ⟨w, e1, e2, e3⟩
      · rw [q] at hsb ⊢
        exact hnear b hb0 (by omega) hb hsb
      · have hw := hE.1 a b w e1
        omega
    · rw [keep a ha0 ha10 e]
      have a1 := h7 a v ha0 ha10 hv.1 (by omega) e hn0 hlab
      rcases q1 b hb0 hb10 with q | ⟨w, e1, e2, e3⟩
      · rw [q] at hsb ⊢
        exact h7 a b ha0 ha10 hb0 hb10 e hb hsb
      · have hw := hE.1 v b w e1
        omega
  · intro φ hφ x h0 h10 hx
    rcases q1 x h0 h10 with q | ⟨w, e1, e2, e3⟩
    · rw [q] at hx ⊢
      exact h8 φ hφ x h0 h10 hx
    · have a1 := hφ v x w e1
      have a2 := h8 φ hφ v hv.1 (by omega) hlab
      omega
  · intro x h0 h10 hx
    rcases q1 x h0 h10 with q | ⟨w, e1, e2, e3⟩
    · rw [q] at hx
      exact h9 x h0 h10 hx
    · exact cn_trans (h9 v hv.1 (by omega) hlab) (cn_edge e1)
theorem DjI_all {E : Int → Int → Int → Prop} {src ports dst : Int} {s n : Int → Int} {rd : Int} (hp : ports ≤ 10) (hsrc : 0 ≤ src ∧ src < ports) (hdst : 0 ≤ dst ∧ dst < ports) (hE : egOk E ports) (h : DjI E src ports s n rd) (hall : ∀ x, 0 ≤ x → x < ports → s x ≠ -1 → n x = 1) : distP E src dst (s dst) := by
  obtain ⟨h1, h2, h3, h4, h5, h6, h7, h8, h9⟩ := h
  have nb : ∀ a b w, E a b w → s a ≠ -1 → s b ≠ -1 ∧ s b ≤ s a + w := by
    intro a b w hab ha
    have hw := hE.1 a b w hab
    exact h6 a b w hab (hall a hw.1 hw.2.1 ha)
  have nb' : ∀ a b w, E a b w → (s a = -1 ↔ s b = -1) := by
    intro a b w hab
    constructor
    · intro ha
      by_cases hb : s b = -1
      · exact hb
      · exact absurd ha (nb b a w (hE.2 a b w hab) hb).1
    · intro hb
      by_cases ha : s a = -1
      · exact ha
      · exact absurd hb (nb a b w hab ha).1
  by_cases hd : s dst = -1
  · refine Or.inl ⟨hd, fun hc => ?_⟩
    have hf := hc (fun x => if s x = -1 then 0 else 1) (fun a b w hab => by
      have := nb' a b w hab
      by_cases ha : s a = -1
      · show (if s a = -1 then (0 : Int) else 1) = if s b = -1 then 0 else 1
        rw [if_pos ha, if_pos (this.mp ha)]
      · show (if s a = -1 then (0 : Int) else 1) = if s b = -1 then 0 else 1
        rw [if_neg ha, if_neg (fun z => ha (this.mpr z))])
    have hf2 : (if s src = -1 then (0 : Int) else 1) = if s dst = -1 then 0 else 1 := hf
    rw [if_neg (by omega), if_pos hd] at hf2
    omega
  · have h0 := h2 dst hdst.1 (by omega)
    refine Or.inr ⟨by omega, h9 dst hdst.1 (by omega) hd, fun φ hφ => h8 φ hφ dst hdst.1 (by omega) hd, fun x => if s x = -1 then 0 else s x, ?_, ?_⟩
    · intro a b w hab
      have hw := hE.1 a b w hab
      show (if s b = -1 then 0 else s b) ≤ (if s a = -1 then 0 else s a) + w
      by_cases ha : s a = -1
      · rw [if_pos ha, if_pos ((nb' a b w hab).mp ha)]
        omega
      · rw [if_neg ha, if_neg (nb a b w hab ha).1]
        exact (nb a b w hab ha).2
    · show (if s dst = -1 then 0 else s dst) = (if s src = -1 then 0 else s src) + s dst
      rw [if_neg hd, if_neg (by omega)]
      omega
theorem DjI_none {E : Int → Int → Int → Prop} {src ports dst : Int} {s n : Int → Int} {rd : Int} (hp : ports ≤ 10) (hsrc : 0 ≤ src ∧ src < ports) (hdst : 0 ≤ dst ∧ dst < ports) (hE : egOk E ports) (h : DjI E src ports s n rd) (hno : ∀ x, 0 ≤ x → x < ports → ¬ (n x = 0 ∧ s x ≠ -1)) : distP E src dst (s dst) :=
  DjI_all hp hsrc hdst hE h (fun x h0 h1 hx => by
    rcases h.2.2.1 x h0 (by omega) with q | q
    · exact absurd ⟨q, hx⟩ (hno x h0 h1)
    · exact q)
theorem DjI_full {E : Int → Int → Int → Prop} {src ports dst : Int} {s n : Int → Int} {rd : Int} (hp : ports ≤ 10) (hsrc : 0 ≤ src ∧ src < ports) (hdst : 0 ≤ dst ∧ dst < ports) (hE : egOk E ports) (h : DjI E src ports s n rd) (hrd : rd = ports) : distP E src dst (s dst) :=
  DjI_all hp hsrc hdst hE h (fun x h0 h1 hx => sm_all (n := ports.toNat) (fun j j0 j1 => by
    have := h.2.2.1 j j0 (by omega)
    omega) (by have := h.2.2.2.1; omega) x h0 (by omega))
theorem DjI_at {E : Int → Int → Int → Prop} {src ports dst : Int} {s n : Int → Int} {rd : Int} (hp : ports ≤ 10) (hsrc : 0 ≤ src ∧ src < ports) (hdst : 0 ≤ dst ∧ dst < ports) (hE : egOk E ports) (h : DjI E src ports s n rd) (hn0 : n dst = 0) (hlab : s dst ≠ -1) (hnear : ∀ x, 0 ≤ x → x < ports → n x = 0 → s x ≠ -1 → s dst ≤ s x) : distP E src dst (s dst) := by
  obtain ⟨h1, h2, h3, h4, h5, h6, h7, h8, h9⟩ := h
  have h0 := h2 dst hdst.1 (by omega)
  refine Or.inr ⟨by omega, h9 dst hdst.1 (by omega) hlab, fun φ hφ => h8 φ hφ dst hdst.1 (by omega) hlab, fun x => if s x ≠ -1 ∧ s x ≤ s dst then s x else s dst, ?_, ?_⟩
  · intro a b w hab
    have hw := hE.1 a b w hab
    show (if s b ≠ -1 ∧ s b ≤ s dst then s b else s dst) ≤ (if s a ≠ -1 ∧ s a ≤ s dst then s a else s dst) + w
    have hb : (if s b ≠ -1 ∧ s b ≤ s dst then s b else s dst) ≤ s dst := by
      by_cases z : s b ≠ -1 ∧ s b ≤ s dst
      · rw [if_pos z]; exact z.2
      · rw [if_neg z]; exact Int.le_refl _
    by_cases ha : s a ≠ -1 ∧ s a ≤ s dst
    · rw [if_pos ha]
      rcases h3 a hw.1 (by omega) with q | q
      · have := hnear a hw.1 hw.2.1 q ha.1
        omega
      · have a1 := h6 a b w hab q
        by_cases z : s b ≠ -1 ∧ s b ≤ s dst
        · rw [if_pos z]; exact a1.2
        · rw [if_neg z]; omega
    · rw [if_neg ha]
      omega
  · show (if s dst ≠ -1 ∧ s dst ≤ s dst then s dst else s dst) = (if s src ≠ -1 ∧ s src ≤ s dst then s src else s dst) + s dst
    rw [if_pos (show s src ≠ -1 ∧ s src ≤ s dst by omega), if_pos ⟨hlab, Int.le_refl _⟩]
    omega
