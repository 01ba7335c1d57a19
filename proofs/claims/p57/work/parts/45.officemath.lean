/-! ===== what the office answers and does, over whole numbers ===== -/
def inP (ports a b : Int) : Prop := 0 ≤ a ∧ a < ports ∧ 0 ≤ b ∧ b < ports
def hasL (legs : Int) (lower upper : Int → Int) (a b : Int) : Prop := ∃ k, 0 ≤ k ∧ k < legs ∧ lower k = min a b ∧ upper k = max a b
theorem hasL_no {legs : Int} {lower upper : Int → Int} {a b : Int} (h : ∀ j, 0 ≤ j → j < legs → ¬ (lower j = min a b ∧ upper j = max a b)) : ¬ hasL legs lower upper a b := fun ⟨k, k0, k1, k2, k3⟩ => h k k0 k1 ⟨k2, k3⟩
def legF (ports legs : Int) (lower upper : Int → Int) (a b w r z : Int) : Prop := (z = 1 ∧ ¬ inP ports a b) ∨ (inP ports a b ∧ ((z = 2 ∧ (a = b ∨ ¬ (1 ≤ w ∧ w ≤ 99 ∧ 1 ≤ r ∧ r ≤ 20))) ∨ ((a ≠ b ∧ 1 ≤ w ∧ w ≤ 99 ∧ 1 ≤ r ∧ r ≤ 20) ∧ ((z = 3 ∧ (20 ≤ legs ∨ hasL legs lower upper a b)) ∨ (z = 0 ∧ legs < 20 ∧ ¬ hasL legs lower upper a b)))))
def cutF (ports legs : Int) (lower upper : Int → Int) (a b z : Int) : Prop := (z = 1 ∧ ¬ inP ports a b) ∨ (inP ports a b ∧ ((z = 4 ∧ ¬ hasL legs lower upper a b) ∨ (z = 0 ∧ hasL legs lower upper a b)))
def shipF (ports cnt : Int) (E : Int → Int → Int → Int → Prop) (a b mny z : Int) : Prop := (z = 1 ∧ ¬ inP ports a b) ∨ (inP ports a b ∧ ((z = 2 ∧ (a = b ∨ mny < 0 ∨ 9999 < mny)) ∨ ((a ≠ b ∧ 0 ≤ mny ∧ mny ≤ 9999) ∧ ((z = 3 ∧ 6 ≤ cnt) ∨ (cnt < 6 ∧ ((z = 5 ∧ needP E a b (-1)) ∨ (z = 0 ∧ ∃ nz, nz ≠ -1 ∧ needP E a b nz)))))))
def payF (cnt i w z : Int) : Prop := (z = 1 ∧ ¬ (0 ≤ i ∧ i < cnt)) ∨ ((0 ≤ i ∧ i < cnt) ∧ ((z = 2 ∧ ¬ (1 ≤ w ∧ w ≤ 9999)) ∨ (z = 0 ∧ 1 ≤ w ∧ w ≤ 9999)))
theorem needP_in {E : Int → Int → Int → Int → Prop} {i j z : Int} (h : needP E i j z) : -1 ≤ z ∧ z ≤ 20 := by
  rcases h with q | q <;> omega
/-! rows filled up to a place -/
def updTo (i : Int) (f g : Int → Int) : Int → Int := fun j => if 0 ≤ j ∧ j < i then g j else f j
theorem updTo_0 (f g : Int → Int) : updTo 0 f g = f := by
  funext j
  unfold updTo
  rw [if_neg (by omega)]
theorem updTo_at (i : Int) (f g : Int → Int) : updTo i f g i = f i := by
  unfold updTo
  rw [if_neg (by omega)]
theorem updTo_s {i v : Int} {f g : Int → Int} (i0 : 0 ≤ i) (hv : v = g i) : zU (updTo i f g) i v = updTo (i + 1) f g := by
  funext j
  unfold zU updTo
  by_cases e : j = i
  · subst e
    rw [if_pos rfl, if_pos (by omega), hv]
  · rw [if_neg e]
    by_cases c : 0 ≤ j ∧ j < i
    · rw [if_pos c, if_pos (by omega)]
    · rw [if_neg c, if_neg (by omega)]
theorem updTo_keep {i : Int} {f g : Int → Int} (i0 : 0 ≤ i) (hv : f i = g i) : updTo i f g = updTo (i + 1) f g := by
  funext j
  unfold updTo
  by_cases c : 0 ≤ j ∧ j < i
  · rw [if_pos c, if_pos (by omega)]
  · rw [if_neg c]
    by_cases e : j = i
    · rw [e, if_pos (by omega), hv]
    · rw [if_neg (by omega)]
theorem zU_zU (f : Int → Int) (k v w : Int) : zU (zU f k v) k w = zU f k w := by
  funext j
  unfold zU
  by_cases e : j = k
  · rw [if_pos e, if_pos e]
  · rw [if_neg e, if_neg e, if_neg e]
/-! all take part that have a route -/
def isGat (E : Int → Int → Int → Int → Prop) (cnt : Int) (strt goal tp nd : Int → Int) : Prop := (∀ j, 0 ≤ j → j < cnt → j < 6 → needP E (strt j) (goal j) (nd j) ∧ tp j = if nd j = -1 then 0 else 1) ∧ ∀ j, cnt ≤ j → j < 6 → 0 ≤ j → tp j = 0
theorem isGat_V {E : Int → Int → Int → Int → Prop} {cnt : Int} {strt goal tp nd : Int → Int} (h : isGat E cnt strt goal tp nd) : TpV tp nd := by
  refine ⟨fun j j0 j1 => ?_, fun j j0 j1 hj => ?_⟩
  · by_cases c : j < cnt
    · rw [(h.1 j j0 c j1).2]
      split
      · exact Or.inl rfl
      · exact Or.inr rfl
    · exact Or.inl (h.2 j (by omega) j1 j0)
  · by_cases c : j < cnt
    · have a := h.1 j j0 c j1
      have b := needP_in a.1
      by_cases e : nd j = -1
      · rw [a.2, if_pos e] at hj
        exact absurd hj (by decide)
      · omega
    · rw [h.2 j (by omega) j1 j0] at hj
      exact absurd hj (by decide)
theorem isGat_0 {E : Int → Int → Int → Int → Prop} {strt goal tp nd : Int → Int} (h : ∀ j, 0 ≤ j → j < 6 → tp j = 0) : isGat E 0 strt goal tp nd := ⟨fun j j0 j1 => absurd j1 (by omega), fun j _ j1 j0 => h j j0 j1⟩
theorem isGat_s {E : Int → Int → Int → Int → Prop} {i nz : Int} {strt goal tp nd : Int → Int} (i0 : 0 ≤ i) (h : isGat E i strt goal tp nd) (hn : needP E (strt i) (goal i) nz) : isGat E (i + 1) strt goal (zU tp i (if nz = -1 then 0 else 1)) (zU nd i nz) := by
  refine ⟨fun j j0 j1 j2 => ?_, fun j j0 j1 j2 => ?_⟩
  · by_cases e : j = i
    · subst e
      rw [zU_same, zU_same]
      exact ⟨hn, rfl⟩
    · rw [zU_ne e, zU_ne e]
      exact h.1 j j0 (by omega) j2
  · rw [zU_ne (by omega)]
    exact h.2 j (by omega) j1 j2
/-- who takes part in the next night, with their shares -/
def isPlan (E : Int → Int → Int → Int → Prop) (cnt : Int) (strt goal money tp nd shr : Int → Int) : Prop := (∃ tp0 k, isGat E cnt strt goal tp0 nd ∧ isLeft nd money cnt k tp0 tp) ∧ isSh tp nd shr ∧ TpV tp nd
theorem isLeft_end {nd mo : Int → Int} {cnt : Int} : ∀ {k : Nat} {t t' : Int → Int}, cnt ≤ 6 → isLeft nd mo cnt k t t' → (∀ j, 0 ≤ j → j < cnt → t' j = 1 → shR t' nd (nd j).toNat ≤ mo j) ∧ ∀ j, 0 ≤ j → j < 6 → t' j = 1 → t j = 1
  | 0, t, t', hc, h => by
    have e : ∀ j, 0 ≤ j → j < 6 → t' j = t j := h.2
    refine ⟨fun j j0 j1 hj => ?_, fun j j0 j1 hj => by rw [← e j j0 j1]; exact hj⟩
    have es : shR t' nd = shR t nd := by
      funext n
      induction n with
      | zero => rfl
      | succ n ih =>
        show shR t' nd n + dC ((n : Int) + 1) / cntN t' nd ((n : Int) + 1) = shR t nd n + dC ((n : Int) + 1) / cntN t nd ((n : Int) + 1)
        rw [ih]
        congr 2
        refine sm_congr (fun j j0 j1 => ?_)
        show (if t' j = 1 ∧ (n : Int) + 1 ≤ nd j then (1 : Int) else 0) = if t j = 1 ∧ (n : Int) + 1 ≤ nd j then 1 else 0
        rw [e j j0 (by omega)]
    rw [es]
    rcases h.1 with q | q
    · have := q.2 j j0 j1
      rw [e j j0 (by omega)] at hj
      exact Int.not_lt.mp fun z => this ⟨hj, z⟩
    · omega
  | k + 1, t, t', hc, h => by
    obtain ⟨z, z0, z1, z2⟩ := h
    have r := isLeft_end hc z2
    refine ⟨r.1, fun j j0 j1 hj => ?_⟩
    have a := r.2 j j0 j1 hj
    by_cases e : j = z
    · rw [e, zU_same] at a
      exact absurd a (by decide)
    · rw [zU_ne e] at a
      exact a
/-- nobody takes part who cannot pay -/
theorem isPlan_pays {E : Int → Int → Int → Int → Prop} {cnt : Int} {strt goal money tp nd shr : Int → Int} (hc : cnt ≤ 6) (h : isPlan E cnt strt goal money tp nd shr) {j : Int} (j0 : 0 ≤ j) (j1 : j < cnt) (hj : tp j = 1) : 0 ≤ shr j ∧ shr j ≤ money j := by
  obtain ⟨⟨tp0, k, -, hl⟩, hs, hv⟩ := h
  have a := (isLeft_end hc hl).1 j j0 j1 hj
  have b := hv.2 j j0 (by omega) hj
  have c := shR_in tp nd (nd j).toNat (by omega)
  rw [hs j j0 (by omega), if_pos hj]
  omega
/-! a night -/
def nSh (tp shr : Int → Int) : Int → Int := fun j => if tp j = 1 then shr j else 0
def nBk (fog : Int) (tp shr : Int → Int) : Int → Int := fun j => if 0 < fog then nSh tp shr j / 2 else 0
theorem nSh_1 {tp shr : Int → Int} {j : Int} (h : tp j = 1) : nSh tp shr j = shr j := by unfold nSh; rw [if_pos h]
theorem nSh_0 {tp shr : Int → Int} {j : Int} (h : tp j = 0) : nSh tp shr j = 0 := by unfold nSh; rw [if_neg (by omega)]
theorem nBk_0 {fog : Int} {tp shr : Int → Int} {j : Int} (h : tp j = 0) : nBk fog tp shr j = 0 := by
  unfold nBk
  rw [nSh_0 h]
  split <;> rfl
theorem nBk_1 {fog : Int} {tp shr : Int → Int} {j : Int} (h : tp j = 1) : nBk fog tp shr j = if 0 < fog then shr j / 2 else 0 := by
  unfold nBk
  rw [nSh_1 h]
/-! the distances that there are -/
theorem Dv_ex {E : Int → Int → Int → Prop} {ports : Int} (hp : ports ≤ 10) (hE : egOk E ports) (hu : ∀ a b x y, E a b x → E a b y → x = y) : ∀ src, 0 ≤ src → src < 10 → ∃ Dv, isDv E src Dv := by
  have hi : ∃ w, FlI E w := by
    have hx : ∀ a b, ∃ v, E a b v ∨ (v = 100000 ∧ ∀ x, ¬ E a b x) := by
      intro a b
      by_cases h : ∃ x, E a b x
      · obtain ⟨x, hx⟩ := h
        exact ⟨x, Or.inl hx⟩
      · exact ⟨100000, Or.inr ⟨rfl, fun x hx => h ⟨x, hx⟩⟩⟩
    refine ⟨fun p => if p / 10 = p % 10 then 0 else (hx (p / 10) (p % 10)).choose, fun a b a0 a1 b0 b1 => ?_⟩
    have ea : (10 * a + b) / 10 = a := by omega
    have eb : (10 * a + b) % 10 = b := by omega
    have ev : (fun p => if p / 10 = p % 10 then (0 : Int) else (hx (p / 10) (p % 10)).choose) (10 * a + b) = if a = b then 0 else (hx a b).choose := by
      show (if (10 * a + b) / 10 = (10 * a + b) % 10 then (0 : Int) else (hx ((10 * a + b) / 10) ((10 * a + b) % 10)).choose) = _
      rw [ea, eb]
    rw [ev]
    by_cases e : a = b
    · exact Or.inl ⟨e, by rw [if_pos e]⟩
    · rw [if_neg e]
      rcases (hx a b).choose_spec with q | q
      · exact Or.inr (Or.inl ⟨e, q⟩)
      · exact Or.inr (Or.inr ⟨e, q.1, q.2⟩)
  obtain ⟨i0, hi0⟩ := hi
  have hk : ∀ k : Nat, k ≤ 10 → ∃ w, FlT iadd (PW E) i0 k w := by
    intro k
    induction k with
    | zero => exact fun _ => ⟨i0, FlI_T hE hi0⟩
    | succ k ih =>
      intro hk
      obtain ⟨w, hw⟩ := ih (by omega)
      exact ⟨fun p => min (w p) (iadd (w (10 * (p / 10) + k)) (w (10 * k + p % 10))), FlT_step OpOk_add (PW_op E) (by omega) hw (fun a b a0 a1 b0 b1 => by
        rw [if_pos (by omega)]
        show min (w (10 * a + b)) (iadd (w (10 * ((10 * a + b) / 10) + k)) (w (10 * k + (10 * a + b) % 10))) = _
        rw [show (10 * a + b) / 10 = a by omega, show (10 * a + b) % 10 = b by omega])⟩
  obtain ⟨w, hw⟩ := hk 10 (Nat.le_refl _)
  exact fun src s0 s1 => ⟨fun x => if w (10 * src + x) < 100000 then w (10 * src + x) else -1, fun x x0 x1 => wayP_dist (FlT_end hp hE hu hi0 hw ⟨s0, s1⟩ ⟨x0, x1⟩)⟩
/-- no two legs join the same ports -/
def ChU (legs : Int) (lower upper : Int → Int) : Prop := ∀ a b, 0 ≤ a → a < legs → 0 ≤ b → b < legs → lower a = lower b → upper a = upper b → a = b
theorem ChU.eq {ports legs : Int} {lower upper leng reach : Int → Int} (h : ChU legs lower upper) (hv : ChV ports legs lower upper leng reach) (r : Int) : ∀ a b x y, eg legs lower upper leng reach r a b x → eg legs lower upper leng reach r a b y → x = y := by
  intro a b x y ⟨k, k0, k1, k2, k3, k4⟩ ⟨j, j0, j1, j2, j3, j4⟩
  have vk := hv.2.2.2.2.1 k k0 k1
  have vj := hv.2.2.2.2.1 j j0 j1
  have e : k = j := h k j k0 k1 j0 j1 (by omega) (by omega)
  subst e
  omega
theorem sm_le {f : Int → Int} {b : Int} : ∀ {n : Nat}, (∀ j : Int, 0 ≤ j → j < n → 0 ≤ f j ∧ f j ≤ b) → 0 ≤ sm f n ∧ sm f n ≤ b * n
  | 0, _ => ⟨Int.le_refl 0, by show (0 : Int) ≤ b * ((0 : Nat) : Int); rw [Int.natCast_zero, Int.mul_zero]; exact Int.le_refl 0⟩
  | n + 1, h => by
    have ih := sm_le (n := n) (fun j j0 j1 => h j j0 (by omega))
    have q := h n (by omega) (by omega)
    show 0 ≤ sm f n + f n ∧ sm f n + f n ≤ b * ((n + 1 : Nat) : Int)
    rw [show ((n + 1 : Nat) : Int) = (n : Int) + 1 by omega, Int.mul_add, Int.mul_one]
    omega
theorem distP_in {E : Int → Int → Int → Prop} {ports i j z : Int} (hE : egOk E ports) (hp : ports ≤ 10) (hi : 0 ≤ i ∧ i < 10) (h : distP E i j z) : -1 ≤ z ∧ z ≤ 990 := by
  rcases h with q | q
  · omega
  · have := isD_bound hp hE hi q.2.1 q.2.2
    omega
