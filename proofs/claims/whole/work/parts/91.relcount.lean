/-! ===== counting: as many legs as pairs, places in order, places by dark nights ===== -/
theorem sm_upd1 {f g : Int → Int} {k : Int} (k0 : 0 ≤ k) {n : Nat} (hk : k < n) (h1 : f k = g k + 1) (h : ∀ j : Int, 0 ≤ j → j < n → j ≠ k → f j = g j) : sm f n = sm g n + 1 := by
  have e : sm f n = sm (zU g k (g k + 1)) n := sm_upto (fun j j0 j1 => by
    by_cases q : j = k
    · rw [q, zU_same]; exact h1
    · rw [zU_ne q]; exact h j j0 j1 q)
  rw [e, sm_zU k0 hk]
  omega
theorem sm_zero {f : Int → Int} : ∀ {n : Nat}, (∀ j : Int, 0 ≤ j → j < n → f j = 0) → sm f n = 0
  | 0, _ => rfl
  | n + 1, h => by
    show sm f n + f n = 0
    rw [sm_zero (fun j j0 j1 => h j j0 (by omega)), h n (by omega) (by omega)]
    rfl
theorem inZ_iff {P Q : Prop} (h : P ↔ Q) : inZ P = inZ Q := by rw [propext h]
theorem inZ_01 (P : Prop) : 0 ≤ inZ P ∧ inZ P ≤ 1 := by
  by_cases h : P
  · rw [inZ_1 h]; decide
  · rw [inZ_0 h]; decide
/-- as many places are met as a one-to-one map has arguments -/
theorem cnt_img {f : Int → Int} {M : Nat} : ∀ {n : Nat}, (∀ i j : Int, 0 ≤ i → i < n → 0 ≤ j → j < n → f i = f j → i = j) → (∀ i : Int, 0 ≤ i → i < n → 0 ≤ f i ∧ f i < M) → sm (fun c => inZ (∃ i : Int, 0 ≤ i ∧ i < n ∧ f i = c)) M = n
  | 0, _, _ => sm_zero (fun j _ _ => inZ_0 (fun ⟨i, i0, i1, _⟩ => by omega))
  | n + 1, hi, hr => by
    have ih := cnt_img (f := f) (M := M) (n := n) (fun i j i0 i1 j0 j1 e => hi i j i0 (by omega) j0 (by omega) e) (fun i i0 i1 => hr i i0 (by omega))
    have q := hr n (by omega) (by omega)
    rw [sm_upd1 (g := fun c => inZ (∃ i : Int, 0 ≤ i ∧ i < n ∧ f i = c)) (k := f n) q.1 q.2 ?_ ?_, ih]
    · rfl
    · show inZ (∃ i : Int, 0 ≤ i ∧ i < ((n + 1 : Nat) : Int) ∧ f i = f n) = inZ (∃ i : Int, 0 ≤ i ∧ i < n ∧ f i = f n) + 1
      rw [inZ_1 ⟨(n : Int), by omega, by omega, rfl⟩, inZ_0 (fun ⟨i, i0, i1, e⟩ => by
        have := hi i n i0 (by omega) (by omega) (by omega) e
        omega)]
      rfl
    · intro c c0 c1 hc
      refine inZ_iff ⟨fun ⟨i, i0, i1, e⟩ => ⟨i, i0, ?_, e⟩, fun ⟨i, i0, i1, e⟩ => ⟨i, i0, by omega, e⟩⟩
      by_cases z : i = n
      · subst z; exact absurd e.symm hc
      · omega
theorem sm_full {f : Int → Int} : ∀ {n : Nat}, (∀ j : Int, 0 ≤ j → j < n → f j ≤ 1) → sm f n = n → ∀ j : Int, 0 ≤ j → j < n → f j = 1
  | 0, _, _, j, j0, j1 => absurd j1 (by omega)
  | n + 1, h, e, j, j0, j1 => by
    have e : sm f n + f n = ((n + 1 : Nat) : Int) := e
    have le : ∀ {n : Nat}, (∀ j : Int, 0 ≤ j → j < n → f j ≤ 1) → sm f n ≤ n := by
      intro n
      induction n with
      | zero => intro _; exact Int.le_refl _
      | succ n ih =>
        intro h
        show sm f n + f n ≤ ((n + 1 : Nat) : Int)
        have := ih (fun j j0 j1 => h j j0 (by omega))
        have := h n (by omega) (by omega)
        omega
    have l1 := le (n := n) (fun j j0 j1 => h j j0 (by omega))
    have l2 := h n (by omega) (by omega)
    by_cases q : j = n
    · subst q; omega
    · exact sm_full (n := n) (fun j j0 j1 => h j j0 (by omega)) (by omega) j j0 (by omega)
/-- a one-to-one map of a finite row into itself meets every place -/
theorem onto_of {f : Int → Int} {n : Nat} (hi : ∀ i j : Int, 0 ≤ i → i < n → 0 ≤ j → j < n → f i = f j → i = j) (hr : ∀ i : Int, 0 ≤ i → i < n → 0 ≤ f i ∧ f i < n) {c : Int} (c0 : 0 ≤ c) (c1 : c < n) : ∃ i : Int, 0 ≤ i ∧ i < n ∧ f i = c := by
  have h := sm_full (f := fun c => inZ (∃ i : Int, 0 ≤ i ∧ i < n ∧ f i = c)) (fun j _ _ => (inZ_01 _).2) (cnt_img hi hr) c c0 c1
  refine Classical.byContradiction fun g => ?_
  have h : inZ (∃ i : Int, 0 ≤ i ∧ i < n ∧ f i = c) = 1 := h
  rw [inZ_0 g] at h
  exact absurd h (by decide)
section
variable {N : Int} {s : Nat → Int → Int} {ms : Int → Int}
theorem lgs_n (hc : ChS s) (hu : ChW s) : ∀ {n : Nat}, (n : Int) ≤ s 1 0 → sm (fun a => sm (fun b => inZ (∃ j : Int, 0 ≤ j ∧ j < n ∧ s 3 j = a ∧ s 2 j = b)) a.toNat) 10 = n
  | 0, _ => sm_zero (fun j _ _ => sm_zero (fun i _ _ => inZ_0 (fun ⟨i, i0, i1, _⟩ => by omega)))
  | n + 1, hn => by
    have ih := lgs_n hc hu (n := n) (by omega)
    have q := ch_in hc (j := n) (by omega) (by omega)
    rw [sm_upd1 (g := fun a => sm (fun b => inZ (∃ j : Int, 0 ≤ j ∧ j < n ∧ s 3 j = a ∧ s 2 j = b)) a.toNat) (k := s 3 n) (by omega) (by omega) ?_ ?_, ih]
    · rfl
    · show sm (fun b => inZ (∃ j : Int, 0 ≤ j ∧ j < ((n + 1 : Nat) : Int) ∧ s 3 j = s 3 n ∧ s 2 j = b)) (s 3 n).toNat = sm (fun b => inZ (∃ j : Int, 0 ≤ j ∧ j < n ∧ s 3 j = s 3 n ∧ s 2 j = b)) (s 3 n).toNat + 1
      refine sm_upd1 (k := s 2 n) (by omega) (by omega) ?_ ?_
      · show inZ (∃ j : Int, 0 ≤ j ∧ j < ((n + 1 : Nat) : Int) ∧ s 3 j = s 3 n ∧ s 2 j = s 2 n) = inZ (∃ j : Int, 0 ≤ j ∧ j < n ∧ s 3 j = s 3 n ∧ s 2 j = s 2 n) + 1
        rw [inZ_1 ⟨(n : Int), by omega, by omega, rfl, rfl⟩, inZ_0 (fun ⟨j, j0, j1, e1, e2⟩ => by
          have := hu j n j0 (by omega) (by omega) (by omega) e2 e1
          omega)]
        rfl
      · intro b b0 b1 hb
        refine inZ_iff ⟨fun ⟨j, j0, j1, e1, e2⟩ => ⟨j, j0, ?_, e1, e2⟩, fun ⟨j, j0, j1, e1, e2⟩ => ⟨j, j0, by omega, e1, e2⟩⟩
        by_cases z : j = n
        · subst z; exact absurd e2.symm hb
        · omega
    · intro a a0 a1 ha
      refine sm_upto (fun b b0 b1 => inZ_iff ⟨fun ⟨j, j0, j1, e1, e2⟩ => ⟨j, j0, ?_, e1, e2⟩, fun ⟨j, j0, j1, e1, e2⟩ => ⟨j, j0, by omega, e1, e2⟩⟩)
      by_cases z : j = n
      · subst z; exact absurd e1.symm ha
      · omega
theorem rel_lgs (hc : ChS s) (hu : ChW s) (h : RelS N s ms) : lgsM ms = s 1 0 := by
  have e := lgs_n hc hu (n := (s 1 0).toNat) (by have := hc.2.2.1; omega)
  have el : lgsM ms = sm (fun a => sm (fun b => inZ (∃ j : Int, 0 ≤ j ∧ j < ((s 1 0).toNat : Nat) ∧ s 3 j = a ∧ s 2 j = b)) a.toNat) 10 := by
    unfold lgsM
    refine sm_upto (fun a a0 a1 => sm_upto (fun b b0 b1 => ?_))
    show (if 0 < lgM ms a b 0 then (1 : Int) else 0) = inZ (∃ j : Int, 0 ≤ j ∧ j < ((s 1 0).toNat : Nat) ∧ s 3 j = a ∧ s 2 j = b)
    by_cases g : 0 < lgM ms a b 0
    · rw [if_pos g]
      obtain ⟨j, j0, j1, j2⟩ := h.2.2.2.1 a b a0 (by omega) b0 (by omega) g
      have q := ch_in hc j0 j1
      rw [inZ_1 ⟨j, j0, by omega, by rcases j2 with ⟨x, y⟩ | ⟨x, y⟩ <;> omega, by rcases j2 with ⟨x, y⟩ | ⟨x, y⟩ <;> omega⟩]
    · rw [if_neg g, inZ_0]
      rintro ⟨j, j0, j1, e1, e2⟩
      have q := ch_in hc j0 (show j < s 1 0 by omega)
      have t := h.2.2.1 j j0 (by omega)
      have sy := (h.2.2.2.2 a b a0 (by omega) b0 (by omega)).1 0 (by decide) (by decide)
      rw [e1, e2] at t
      omega
  rw [el, e]
  have := hc.2.2.1
  omega
/-- a leg's place on the reference's board -/
def cdL (s : Nat → Int → Int) (j : Int) : Int := 10 * s 2 j + s 3 j
theorem cd_lg (hc : ChS s) (h : RelS N s ms) {j : Int} (j0 : 0 ≤ j) (j1 : j < s 1 0) : (0 ≤ cdL s j ∧ cdL s j < 100) ∧ cdL s j / 10 = s 2 j ∧ cdL s j % 10 = s 3 j ∧ isLg ms (cdL s j) := by
  have q := ch_in hc j0 j1
  have t := h.2.2.1 j j0 j1
  have e1 : cdL s j / 10 = s 2 j := by unfold cdL; omega
  have e2 : cdL s j % 10 = s 3 j := by unfold cdL; omega
  refine ⟨by unfold cdL; omega, e1, e2, ?_⟩
  unfold isLg
  rw [e1, e2]
  omega
theorem lg_cd (hc : ChS s) (h : RelS N s ms) {c : Int} (c0 : 0 ≤ c) (c1 : c < 100) (hl : isLg ms c) : ∃ j, 0 ≤ j ∧ j < s 1 0 ∧ cdL s j = c := by
  obtain ⟨hlt, hp⟩ := hl
  obtain ⟨j, j0, j1, j2⟩ := h.2.2.2.1 (c / 10) (c % 10) (by omega) (by omega) (by omega) (by omega) hp
  have q := ch_in hc j0 j1
  refine ⟨j, j0, j1, ?_⟩
  unfold cdL
  rcases j2 with ⟨x, y⟩ | ⟨x, y⟩ <;> omega
theorem cd_inj (hc : ChS s) (hu : ChW s) (h : RelS N s ms) {i j : Int} (i0 : 0 ≤ i) (i1 : i < s 1 0) (j0 : 0 ≤ j) (j1 : j < s 1 0) (e : cdL s i = cdL s j) : i = j := by
  have a := cd_lg hc h i0 i1
  have b := cd_lg hc h j0 j1
  exact hu i j i0 i1 j0 j1 (by rw [← a.2.1, ← b.2.1, e]) (by rw [← a.2.2.1, ← b.2.2.1, e])
theorem cd_ahead (hc : ChS s) (h : RelS N s ms) {i j : Int} (i0 : 0 ≤ i) (i1 : i < s 1 0) (j0 : 0 ≤ j) (j1 : j < s 1 0) : ahM ms (cdL s i) (cdL s j) ↔ i < j := by
  have a := cd_lg hc h i0 i1
  have b := cd_lg hc h j0 j1
  have qa := ch_in hc i0 i1
  have qb := ch_in hc j0 j1
  have ta := h.2.2.1 i i0 i1
  have tb := h.2.2.1 j j0 j1
  have sorted := hc.2.2.2.2.2
  have e : ahM ms (cdL s i) (cdL s j) ↔ legLt (s 5 i) (s 4 i) (s 2 i) (s 3 i) (s 5 j) (s 4 j) (s 2 j) (s 3 j) := by
    unfold ahM legLt
    rw [a.2.1, a.2.2.1, b.2.1, b.2.2.1, ta.1, ta.2.1, tb.1, tb.2.1]
    unfold cdL
    omega
  rw [e]
  constructor
  · intro g
    rcases Int.lt_trichotomy i j with z | z | z
    · exact z
    · subst z
      exact absurd g (by unfold legLt; omega)
    · exact absurd g (legLt_asym (sorted j i j0 z i1))
  · intro g
    exact sorted i j i0 g j1
theorem ahN_cd (hc : ChS s) (hu : ChW s) (h : RelS N s ms) {j : Int} (j0 : 0 ≤ j) (j1 : j < s 1 0) : ahN ms (cdL s j) 100 = j := by
  have e := cnt_img (f := cdL s) (M := 100) (n := j.toNat) (fun i k i0 i1 k0 k1 z => cd_inj hc hu h i0 (by omega) k0 (by omega) z) (fun i i0 i1 => (cd_lg hc h i0 (by omega)).1)
  have el : ahN ms (cdL s j) 100 = sm (fun c => inZ (∃ i : Int, 0 ≤ i ∧ i < (j.toNat : Nat) ∧ cdL s i = c)) 100 := by
    unfold ahN
    show sm _ 100 = _
    refine sm_upto (fun c c0 c1 => inZ_iff ⟨fun g => ?_, fun g => ?_⟩)
    · obtain ⟨i, i0, i1, rfl⟩ := lg_cd hc h c0 (by omega) g.1
      have := (cd_ahead hc h i0 i1 j0 j1).mp g.2
      exact ⟨i, i0, by omega, rfl⟩
    · obtain ⟨i, i0, i1, rfl⟩ := g
      exact ⟨(cd_lg hc h i0 (by omega)).2.2.2, (cd_ahead hc h i0 (by omega) j0 j1).mpr (by omega)⟩
  rw [el, e]
  omega
/-- the leg at a place, both ways -/
theorem rel_latK (hc : ChS s) (hu : ChW s) (h : RelS N s ms) {pos c : Int} (hl : LatK ms pos 100 c) : (c = -1 ∧ ¬ (0 ≤ pos ∧ pos < s 1 0)) ∨ ((0 ≤ pos ∧ pos < s 1 0) ∧ c = cdL s pos ∧ 0 ≤ c ∧ c < 100 ∧ c / 10 = s 2 pos ∧ c % 10 = s 3 pos) := by
  rcases hl with ⟨a, b⟩ | ⟨a1, a2, a3, a4, -⟩
  · refine Or.inl ⟨a, fun g => ?_⟩
    have q := cd_lg hc h g.1 g.2
    exact b (cdL s pos) q.1.1 q.1.2 ⟨q.2.2.2, ahN_cd hc hu h g.1 g.2⟩
  · obtain ⟨j, j0, j1, e⟩ := lg_cd hc h a1 a2 a3
    have t := ahN_cd hc hu h j0 j1
    rw [e, a4] at t
    subst t
    have q := cd_lg hc h j0 j1
    rw [e] at q
    exact Or.inr ⟨⟨j0, j1⟩, e.symm, a1, a2, q.2.1, q.2.2.1⟩
/-! who stood in the dark most -/
theorem dkR_cg {cnt : Int} {f g : Int → Int} (hfg : ∀ j, 0 ≤ j → j < cnt → f j = g j) {j : Int} (j0 : 0 ≤ j) (j1 : j < cnt) : dkR cnt f j = dkR cnt g j := by
  unfold dkR
  refine sm_upto (fun o o0 o1 => ?_)
  show (if f j < f o ∨ (f o = f j ∧ o < j) then (1 : Int) else 0) = if g j < g o ∨ (g o = g j ∧ o < j) then 1 else 0
  rw [hfg j j0 j1, hfg o o0 (by omega)]
theorem dkR_rng {cnt : Int} {f : Int → Int} {j : Int} (j0 : 0 ≤ j) (j1 : j < cnt) : 0 ≤ dkR cnt f j ∧ dkR cnt f j < cnt := by
  have a := sm_in (f := fun o => if f j < f o ∨ (f o = f j ∧ o < j) then (1 : Int) else 0) (n := cnt.toNat) (fun _ _ _ => b01 _)
  have b := sm_lt (f := fun o => if f j < f o ∨ (f o = f j ∧ o < j) then (1 : Int) else 0) (g := fun _ => 1) (k := j) j0 (n := cnt.toNat) (by omega) (by show (if f j < f j ∨ (f j = f j ∧ j < j) then (1 : Int) else 0) + 1 ≤ 1; rw [if_neg (by omega)]; decide) (fun o _ _ => (b01 _).2)
  have c : sm (fun _ => (1 : Int)) cnt.toNat = (cnt.toNat : Int) := by
    have : ∀ n : Nat, sm (fun _ => (1 : Int)) n = n := by
      intro n
      induction n with
      | zero => rfl
      | succ n ih => show sm (fun _ => (1 : Int)) n + 1 = ((n + 1 : Nat) : Int); omega
    exact this _
  unfold dkR
  omega
theorem dkR_lt {cnt : Int} {f : Int → Int} {i j : Int} (i0 : 0 ≤ i) (i1 : i < cnt) (h : f j < f i ∨ (f i = f j ∧ i < j)) : dkR cnt f i < dkR cnt f j := by
  have b := sm_lt (f := fun o => if f i < f o ∨ (f o = f i ∧ o < i) then (1 : Int) else 0) (g := fun o => if f j < f o ∨ (f o = f j ∧ o < j) then (1 : Int) else 0) (k := i) i0 (n := cnt.toNat) (by omega)
    (by show (if f i < f i ∨ (f i = f i ∧ i < i) then (1 : Int) else 0) + 1 ≤ (if f j < f i ∨ (f i = f j ∧ i < j) then (1 : Int) else 0); rw [if_neg (by omega), if_pos h]; decide)
    (fun o o0 o1 => by
      show (if f i < f o ∨ (f o = f i ∧ o < i) then (1 : Int) else 0) ≤ (if f j < f o ∨ (f o = f j ∧ o < j) then (1 : Int) else 0)
      by_cases g : f i < f o ∨ (f o = f i ∧ o < i)
      · rw [if_pos g, if_pos (by omega)]; exact Int.le_refl _
      · rw [if_neg g]; exact (b01 _).1)
  unfold dkR
  omega
theorem dkR_inj {cnt : Int} {f : Int → Int} {i j : Int} (i0 : 0 ≤ i) (i1 : i < cnt) (j0 : 0 ≤ j) (j1 : j < cnt) (e : dkR cnt f i = dkR cnt f j) : i = j := by
  rcases Int.lt_trichotomy i j with z | z | z
  · by_cases g : f j < f i ∨ (f i = f j ∧ i < j)
    · have := dkR_lt i0 i1 g; omega
    · have := dkR_lt (f := f) (cnt := cnt) (i := j) (j := i) j0 j1 (by omega); omega
  · exact z
  · by_cases g : f j < f i ∨ (f i = f j ∧ i < j)
    · have := dkR_lt i0 i1 g; omega
    · have := dkR_lt (f := f) (cnt := cnt) (i := j) (j := i) j0 j1 (by omega); omega
theorem rel_dark (h : RelS N s ms) (hc : 0 ≤ s 7 0) {rank z z' : Int} (h1 : dkP (s 7 0) (s 12) rank z) : (z = -1 → ¬ (0 ≤ rank ∧ rank < ms 1)) ∧ (z ≠ -1 → (0 ≤ rank ∧ rank < ms 1)) ∧ (z ≠ -1 → FdK (ms 1) (fun j => suM ms j 4) rank (ms 1) z' → z' = z) := by
  have e1 : ms 1 = s 7 0 := h.1.2.1
  rw [e1]
  have ecg : ∀ j, 0 ≤ j → j < s 7 0 → dkR (s 7 0) (fun j => suM ms j 4) j = dkR (s 7 0) (s 12) j := fun j j0 j1 => dkR_cg (fun k k0 k1 => (h.2.1 k k0 k1).2.2.2.2) j0 j1
  refine ⟨fun hz g => ?_, fun hz => ?_, fun hz hf => ?_⟩
  · obtain ⟨i, i0, i1, ie⟩ := onto_of (f := dkR (s 7 0) (s 12)) (n := (s 7 0).toNat) (fun i j i0 i1 j0 j1 e => dkR_inj i0 (by omega) j0 (by omega) e) (fun i i0 i1 => by have := dkR_rng (f := s 12) (cnt := s 7 0) i0 (by omega); omega) (c := rank) g.1 (by omega)
    rcases h1 with ⟨a, b⟩ | ⟨a, -⟩
    · exact b i i0 (by omega) ie
    · omega
  · rcases h1 with ⟨a, -⟩ | ⟨a, b, c, -⟩
    · exact absurd a hz
    · have := dkR_rng (f := s 12) (cnt := s 7 0) a b
      omega
  · rcases h1 with ⟨a, -⟩ | ⟨a, b, c, -⟩
    · exact absurd a hz
    · rcases hf with ⟨d, e⟩ | ⟨d0, d1, d2, -⟩
      · exact absurd ((ecg z a b).trans c) (e z a b)
      · exact dkR_inj (f := s 12) d0 d1 a b (by rw [← ecg z' d0 d1, d2, c])
end
