/-! ===== p57: legs as the law counts them ===== -/
theorem sm_s {f : Int → Int} {j : Int} (h : 0 ≤ j) : sm f (j + 1).toNat = sm f j.toNat + f j := by
  rw [show (j + 1).toNat = j.toNat + 1 by omega]
  show sm f j.toNat + f ((j.toNat : Nat) : Int) = sm f j.toNat + f j
  rw [show ((j.toNat : Nat) : Int) = j by omega]
theorem sm_z (f : Int → Int) : sm f (0 : Int).toNat = 0 := rfl
/-- what stands in row f of the leg between a and b -/
def lgv (f : Nat) (v : Nat → Int → Int) (a b : Int) : Int := sm (fun k => if v 2 k = min a b ∧ v 3 k = max a b then v f k else 0) (v 1 0).toNat
theorem lgv_at {f : Nat} {v : Nat → Int → Int} {a b k : Int} (hu : ChU (v 1 0) (v 2) (v 3)) (k0 : 0 ≤ k) (k1 : k < v 1 0) (k2 : v 2 k = min a b) (k3 : v 3 k = max a b) : lgv f v a b = v f k := by
  unfold lgv
  rw [sm_congr (g := fun j => if j = k then v f k else 0) (fun j j0 j1 => ?_), sm_at k0, if_pos (by omega)]
  show (if v 2 j = min a b ∧ v 3 j = max a b then v f j else 0) = if j = k then v f k else 0
  by_cases e : j = k
  · rw [e, if_pos ⟨k2, k3⟩, if_pos rfl]
  · rw [if_neg e, if_neg (fun z => e (hu j k j0 (by omega) k0 k1 (by omega) (by omega)))]
theorem lgv_sym {f : Nat} {v : Nat → Int → Int} {a b : Int} : lgv f v a b = lgv f v b a := by
  unfold lgv
  rw [show min a b = min b a by omega, show max a b = max b a by omega]
noncomputable def hsN (v : Nat → Int → Int) (a b : Int) : Int := inZ (hasL (v 1 0) (v 2) (v 3) a b)
theorem hasL_sym {legs : Int} {lo up : Int → Int} {a b : Int} (h : hasL legs lo up a b) : hasL legs lo up b a := by
  obtain ⟨k, k0, k1, k2, k3⟩ := h
  exact ⟨k, k0, k1, by omega, by omega⟩
theorem hsN_1 {v : Nat → Int → Int} {a b : Int} (h : hasL (v 1 0) (v 2) (v 3) a b) : hsN v a b = 1 := inZ_1 h
theorem hsN_0 {v : Nat → Int → Int} {a b : Int} (h : ¬ hasL (v 1 0) (v 2) (v 3) a b) : hsN v a b = 0 := inZ_0 h
theorem hsN_sym {v : Nat → Int → Int} {a b : Int} : hsN v a b = hsN v b a := by
  by_cases h : hasL (v 1 0) (v 2) (v 3) a b
  · rw [hsN_1 h, hsN_1 (hasL_sym h)]
  · rw [hsN_0 h, hsN_0 (fun z => h (hasL_sym z))]
noncomputable def lgZ (f : Nat) (v : Nat → Int → Int) (a b : Int) : Int := if hsN v a b = 1 then lgv f v a b else -13
noncomputable def ltZ (v : Nat → Int → Int) (a b : Int) : Int := if hsN v a b = 1 then (if lgv 5 v a b ≤ v 13 0 then 1 else 0) else -13
theorem lgZ_sym {f : Nat} {v : Nat → Int → Int} {a b : Int} : lgZ f v a b = lgZ f v b a := by
  unfold lgZ
  rw [hsN_sym, lgv_sym]
theorem wHas_v {v : Nat → Int → Int} {a b z : Int} (h : wHas v a b z) (hi : inP (v 0 0) a b) : z = hsN v a b := by
  rcases h with h | ⟨-, h | h⟩
  · exact absurd hi h.1
  · rw [h.1, hsN_1 h.2]
  · rw [h.1, hsN_0 h.2]
theorem wLeg_v {f : Nat} {v : Nat → Int → Int} {a b z : Int} (hu : ChU (v 1 0) (v 2) (v 3)) (h : wLeg f v a b z) (hi : inP (v 0 0) a b) : z = lgZ f v a b := by
  unfold lgZ
  rcases h with h | ⟨-, h | ⟨p, p0, p1, p2, p3, p4⟩⟩
  · exact absurd hi h.1
  · rw [h.1, hsN_0 h.2, if_neg (by decide)]
  · rw [hsN_1 ⟨p, p0, p1, p2, p3⟩, if_pos rfl, lgv_at hu p0 p1 p2 p3, p4]
theorem wLit_v {v : Nat → Int → Int} {a b z : Int} (hu : ChU (v 1 0) (v 2) (v 3)) (h : wLit v a b z) (hi : inP (v 0 0) a b) : z = ltZ v a b := by
  unfold ltZ
  rcases h with h | ⟨-, h | ⟨p, p0, p1, p2, p3, p4⟩⟩
  · exact absurd hi h.1
  · rw [h.1, hsN_0 h.2, if_neg (by decide)]
  · rw [hsN_1 ⟨p, p0, p1, p2, p3⟩, if_pos rfl, lgv_at hu p0 p1 p2 p3]
    rcases p4 with q | q
    · rw [if_pos q.2, q.1]
    · rw [if_neg q.2, q.1]
theorem wHas_o {v : Nat → Int → Int} {a b z : Int} (h : wHas v a b z) (hi : ¬ inP (v 0 0) a b) : z = -11 := by
  rcases h with h | h
  · exact h.2
  · exact absurd h.1 hi
theorem wLeg_o {f : Nat} {v : Nat → Int → Int} {a b z : Int} (h : wLeg f v a b z) (hi : ¬ inP (v 0 0) a b) : z = -11 := by
  rcases h with h | h
  · exact h.2
  · exact absurd h.1 hi
theorem wLit_o {v : Nat → Int → Int} {a b z : Int} (h : wLit v a b z) (hi : ¬ inP (v 0 0) a b) : z = -11 := by
  rcases h with h | h
  · exact h.2
  · exact absurd h.1 hi
theorem wPos_o {f : Nat} {v : Nat → Int → Int} {k z : Int} (h : wPos f v k z) (hi : ¬ (0 ≤ k ∧ k < v 1 0)) : z = -11 := by
  rcases h with h | h
  · exact h.2
  · exact absurd h.1 hi
theorem wPos_v {f : Nat} {v : Nat → Int → Int} {k z : Int} (h : wPos f v k z) (hi : 0 ≤ k ∧ k < v 1 0) : z = v f k := by
  rcases h with h | h
  · exact absurd hi h.1
  · exact h.2
/-- what is known of each pair of ports -/
theorem lg_f {B N : Int} {v : Nat → Int → Int} (hok : OKs B N v) (a b : Int) : (hsN v a b = 0 ∧ lgZ 4 v a b = -13 ∧ lgZ 5 v a b = -13 ∧ lgZ 6 v a b = -13 ∧ ltZ v a b = -13) ∨ (hsN v a b = 1 ∧ a ≠ b ∧ (1 ≤ lgZ 4 v a b ∧ lgZ 4 v a b ≤ 99) ∧ (1 ≤ lgZ 5 v a b ∧ lgZ 5 v a b ≤ 20) ∧ (0 ≤ lgZ 6 v a b ∧ lgZ 6 v a b ≤ v 14 0) ∧ ((ltZ v a b = 1 ∧ lgZ 5 v a b ≤ v 13 0) ∨ (ltZ v a b = 0 ∧ v 13 0 < lgZ 5 v a b))) := by
  obtain ⟨⟨hch, hu, hmt, -⟩, hnv, -⟩ := hok
  by_cases h : hasL (v 1 0) (v 2) (v 3) a b
  · right
    have e := hsN_1 h
    obtain ⟨k, k0, k1, k2, k3⟩ := h
    have c := hch.2.2.2.2.1 k k0 k1
    have m := hmt k k0 k1
    have m2 := hnv k k0 k1
    unfold lgZ ltZ
    rw [e, if_pos rfl, if_pos rfl, if_pos rfl, if_pos rfl, lgv_at hu k0 k1 k2 k3, lgv_at hu k0 k1 k2 k3, lgv_at hu k0 k1 k2 k3]
    refine ⟨rfl, by omega, by omega, by omega, by omega, ?_⟩
    by_cases q : v 5 k ≤ v 13 0
    · exact Or.inl ⟨if_pos q, q⟩
    · exact Or.inr ⟨if_neg q, by omega⟩
  · left
    have e := hsN_0 h
    unfold lgZ ltZ
    rw [e]
    exact ⟨rfl, if_neg (by decide), if_neg (by decide), if_neg (by decide), if_neg (by decide)⟩
/-- a leg by its place -/
theorem lg_k {B N : Int} {v : Nat → Int → Int} (hok : OKs B N v) {k : Int} (k0 : 0 ≤ k) (k1 : k < v 1 0) : hsN v (v 2 k) (v 3 k) = 1 ∧ lgZ 4 v (v 2 k) (v 3 k) = v 4 k ∧ lgZ 5 v (v 2 k) (v 3 k) = v 5 k ∧ (0 ≤ v 2 k ∧ v 2 k < v 3 k ∧ v 3 k < v 0 0) ∧ (1 ≤ v 4 k ∧ v 4 k ≤ 99) ∧ (1 ≤ v 5 k ∧ v 5 k ≤ 20) := by
  obtain ⟨⟨hch, hu, -⟩, -⟩ := hok
  have c := hch.2.2.2.2.1 k k0 k1
  have e2 : v 2 k = min (v 2 k) (v 3 k) := by omega
  have e3 : v 3 k = max (v 2 k) (v 3 k) := by omega
  have e : hsN v (v 2 k) (v 3 k) = 1 := hsN_1 ⟨k, k0, k1, e2, e3⟩
  unfold lgZ
  rw [e, if_pos rfl, if_pos rfl, lgv_at hu k0 k1 e2 e3, lgv_at hu k0 k1 e2 e3]
  exact ⟨rfl, rfl, rfl, by omega, by omega, by omega⟩
def legD (v : Nat → Int → Int) (i j : Int) : Int := sm (fun b => lgN (v 1 0) (v 2) (v 3) i b) j.toNat
def legC (v : Nat → Int → Int) (n i : Int) : Int := sm (fun a => legD v a n) i.toNat
theorem legC_s {v : Nat → Int → Int} {n i : Int} (h : 0 ≤ i) : legC v n (i + 1) = legC v n i + legD v i n := sm_s (f := fun a => legD v a n) h
theorem legD_s {B N : Int} {v : Nat → Int → Int} (hok : OKs B N v) {i j : Int} (h : 0 ≤ j) : legD v i (j + 1) = legD v i j + if i < j then hsN v i j else 0 := by
  have e := sm_s (f := fun b => lgN (v 1 0) (v 2) (v 3) i b) h
  have e2 : lgN (v 1 0) (v 2) (v 3) i j = if i < j then hsN v i j else 0 := by
    by_cases q : i < j
    · rw [if_pos q]
      by_cases g : hasL (v 1 0) (v 2) (v 3) i j
      · rw [hsN_1 g]; exact lgN_1 hok.1.2.1 q g
      · rw [hsN_0 g]; exact lgN_0 q g
    · rw [if_neg q]
      exact lgN_ge hok.1.1 (by omega)
  rw [← e2]
  exact e
theorem legC_all {B N : Int} {v : Nat → Int → Int} (hok : OKs B N v) : legC v (v 0 0) (v 0 0) = v 1 0 := lgN_all hok.1.1
/-- of two legs in a row the second comes behind -/
theorem leg_next {B N : Int} {v : Nat → Int → Int} (hok : OKs B N v) {k : Int} (k0 : 0 < k) (k1 : k < v 1 0) : (v 5 (k - 1) < v 5 k) ∨ (v 5 (k - 1) = v 5 k ∧ v 4 (k - 1) < v 4 k) ∨ (v 5 (k - 1) = v 5 k ∧ v 4 (k - 1) = v 4 k ∧ 10 * v 2 (k - 1) + v 3 (k - 1) < 10 * v 2 k + v 3 k) := by
  have h := hok.1.1.2.2.2.2.2 (k - 1) k (by omega) (by omega) k1
  have c1 := hok.1.1.2.2.2.2.1 k (by omega) k1
  have c2 := hok.1.1.2.2.2.2.1 (k - 1) (by omega) (by omega)
  have p := hok.1.1.2.1
  unfold legLt at h
  omega
