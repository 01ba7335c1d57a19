/-! ===== the reference's numbers: legs, subscribers, what it keeps ===== -/
def lgM (ms : Int → Int) (a b w : Int) : Int := ms (7 + 3 * (10 * a + b) + w)
def setL (ms : Int → Int) (a b w v : Int) : Int → Int := zU (zU ms (7 + 3 * (10 * a + b) + w) v) (7 + 3 * (10 * b + a) + w) v
def suM (ms : Int → Int) (k w : Int) : Int := ms (307 + 5 * k + w)
def addM (ms : Int → Int) (k w v : Int) : Int → Int := zU ms (307 + 5 * k + w) (ms (307 + 5 * k + w) + v)
def pastP (bef : Int → Int) (pm : Int) (past : Int → Int) : Int → Int := if pm = 8 then zCpy bef (zCpy past past 337 0 2359) 0 (337 * (8 - 1)) 337 else zCpy bef past 0 (337 * pm) 337
def lgsM (ms : Int → Int) : Int := sm (fun a => sm (fun b => if 0 < lgM ms a b 0 then 1 else 0) a.toNat) 10
def MLr (ms : Int → Int) : Prop := ∀ a b w, 0 ≤ a → a < 10 → 0 ≤ b → b < 10 → 0 ≤ w → w ≤ 1 → -1000000000 ≤ lgM ms a b w ∧ lgM ms a b w ≤ 1000000000
def MH (ms : Int → Int) : Prop := 0 ≤ ms 0 ∧ ms 0 ≤ 10 ∧ 0 ≤ ms 1 ∧ ms 1 ≤ 6 ∧ 0 ≤ ms 2 ∧ ms 2 ≤ 9 ∧ 0 ≤ ms 3 ∧ ms 3 ≤ 20
def MLg (ms : Int → Int) : Prop := ∀ a b, 0 ≤ a → a < 10 → 0 ≤ b → b < 10 → (0 ≤ lgM ms a b 0 ∧ lgM ms a b 0 ≤ 99) ∧ (0 < lgM ms a b 0 → a ≠ b ∧ a < ms 0 ∧ b < ms 0 ∧ 1 ≤ lgM ms a b 1 ∧ lgM ms a b 1 ≤ 20) ∧ ∀ w, 0 ≤ w → w ≤ 2 → lgM ms a b w = lgM ms b a w
def MSu (ms : Int → Int) : Prop := ∀ k, 0 ≤ k → k < ms 1 → 0 ≤ suM ms k 0 ∧ suM ms k 0 < 10 ∧ 0 ≤ suM ms k 1 ∧ suM ms k 1 < 10 ∧ suM ms k 0 ≠ suM ms k 1 ∧ 0 ≤ suM ms k 2 ∧ suM ms k 2 ≤ 1000000000
def MV (ms : Int → Int) : Prop := MH ms ∧ MLr ms ∧ MLg ms ∧ MSu ms
theorem lgM_set {ms : Int → Int} {a b w v c d x : Int} (ha : 0 ≤ a ∧ a < 10) (hb : 0 ≤ b ∧ b < 10) (hc : 0 ≤ c ∧ c < 10) (hd : 0 ≤ d ∧ d < 10) (hw : 0 ≤ w ∧ w ≤ 2) (hx : 0 ≤ x ∧ x ≤ 2) : lgM (setL ms a b w v) c d x = if x = w ∧ ((c = a ∧ d = b) ∨ (c = b ∧ d = a)) then v else lgM ms c d x := by
  unfold lgM setL zU
  by_cases h : x = w ∧ ((c = a ∧ d = b) ∨ (c = b ∧ d = a))
  · rw [if_pos h]
    rcases h with ⟨rfl, ⟨rfl, rfl⟩ | ⟨rfl, rfl⟩⟩
    · by_cases e : 7 + 3 * (10 * c + d) + x = 7 + 3 * (10 * d + c) + x
      · rw [if_pos e]
      · rw [if_neg e, if_pos rfl]
    · rw [if_pos rfl]
  · rw [if_neg h, if_neg (by omega), if_neg (by omega)]
theorem setL_lo {ms : Int → Int} {a b w v j : Int} (ha : 0 ≤ a ∧ a < 10) (hb : 0 ≤ b ∧ b < 10) (hw : 0 ≤ w ∧ w ≤ 2) (hj : j < 7 ∨ 307 ≤ j) : setL ms a b w v j = ms j := by
  unfold setL
  rw [zU_ne (by omega), zU_ne (by omega)]
theorem suM_set {ms : Int → Int} {a b w v k x : Int} (ha : 0 ≤ a ∧ a < 10) (hb : 0 ≤ b ∧ b < 10) (hw : 0 ≤ w ∧ w ≤ 2) (hk : 0 ≤ k) (hx : 0 ≤ x) : suM (setL ms a b w v) k x = suM ms k x := setL_lo ha hb hw (Or.inr (by omega))
theorem lgM_lo {ms : Int → Int} {i v a b w : Int} (ha : 0 ≤ a ∧ a < 10) (hb : 0 ≤ b ∧ b < 10) (hw : 0 ≤ w ∧ w ≤ 2) (hi : i < 7 ∨ 307 ≤ i) : lgM (zU ms i v) a b w = lgM ms a b w := by
  unfold lgM
  rw [zU_ne (by omega)]
theorem MLr_set {ms : Int → Int} {a b w v : Int} (h : MLr ms) (ha : 0 ≤ a ∧ a < 10) (hb : 0 ≤ b ∧ b < 10) (hw : 0 ≤ w ∧ w ≤ 2) (hv : -1000000000 ≤ v ∧ v ≤ 1000000000) : MLr (setL ms a b w v) := by
  intro c d x c0 c1 d0 d1 x0 x1
  rw [lgM_set ha hb ⟨c0, c1⟩ ⟨d0, d1⟩ hw ⟨x0, by omega⟩]
  by_cases e : x = w ∧ ((c = a ∧ d = b) ∨ (c = b ∧ d = a))
  · rw [if_pos e]; exact hv
  · rw [if_neg e]; exact h c d x c0 c1 d0 d1 x0 x1
theorem egM_iff {ms : Int → Int} {r a b w : Int} : egM ms r a b w ↔ (0 ≤ a ∧ a < 10 ∧ 0 ≤ b ∧ b < 10 ∧ 0 < lgM ms a b 0 ∧ w = lgM ms a b 0 ∧ lgM ms a b 1 ≤ r) := by
  unfold egM lgM
  rw [show 7 + 3 * (10 * a + b) + 0 = 7 + 3 * (10 * a + b) by omega, show 7 + 3 * (10 * a + b) + 1 = 8 + 3 * (10 * a + b) by omega]
theorem egM_ok {ms : Int → Int} (h : MLg ms) (r : Int) : egOk (egM ms r) 10 := by
  refine ⟨fun a b w he => ?_, fun a b w he => ?_⟩
  · obtain ⟨a0, a1, b0, b1, h0, hw, hr⟩ := egM_iff.mp he
    have q := h a b a0 a1 b0 b1
    have q2 := q.2.1 h0
    exact ⟨a0, a1, b0, b1, by omega, by omega, q2.1⟩
  · obtain ⟨a0, a1, b0, b1, h0, hw, hr⟩ := egM_iff.mp he
    have q := (h a b a0 a1 b0 b1).2.2
    have q0 := q 0 (by omega) (by omega)
    have q1 := q 1 (by omega) (by omega)
    exact egM_iff.mpr ⟨b0, b1, a0, a1, by omega, by omega, by omega⟩
theorem egM_uq {ms : Int → Int} (r : Int) : ∀ a b x y, egM ms r a b x → egM ms r a b y → x = y := fun a b x y h1 h2 => by
  have e1 := h1.2.2.2.2.2.1
  have e2 := h2.2.2.2.2.2.1
  omega
/-! the first matrices, place by place -/
def FlIp (E : Int → Int → Int → Prop) (p x : Int) : Prop := (p / 10 = p % 10 ∧ x = 0) ∨ (p / 10 ≠ p % 10 ∧ E (p / 10) (p % 10) x) ∨ (p / 10 ≠ p % 10 ∧ x = 100000 ∧ ∀ y, ¬ E (p / 10) (p % 10) y)
theorem FlI_of {E : Int → Int → Int → Prop} {w : Int → Int} (h : ∀ p, 0 ≤ p → p < 100 → FlIp E p (w p)) : FlI E w := by
  intro a b a0 a1 b0 b1
  have q := h (10 * a + b) (by omega) (by omega)
  have e1 : (10 * a + b) / 10 = a := by omega
  have e2 : (10 * a + b) % 10 = b := by omega
  unfold FlIp at q
  rw [e1, e2] at q
  exact q
def FrIp (E : Int → Int → Int → Int → Prop) (p x : Int) : Prop := (p / 10 = p % 10 ∧ x = 0) ∨ (p / 10 ≠ p % 10 ∧ 1 ≤ x ∧ x ≤ 20 ∧ (∃ y, E x (p / 10) (p % 10) y) ∧ ∀ r y, E r (p / 10) (p % 10) y → x ≤ r) ∨ (p / 10 ≠ p % 10 ∧ x = 100000 ∧ ∀ r y, ¬ E r (p / 10) (p % 10) y)
theorem FrI_of {E : Int → Int → Int → Int → Prop} {w : Int → Int} (h : ∀ p, 0 ≤ p → p < 100 → FrIp E p (w p)) : FrI E w := by
  intro a b a0 a1 b0 b1
  have q := h (10 * a + b) (by omega) (by omega)
  have e1 : (10 * a + b) / 10 = a := by omega
  have e2 : (10 * a + b) % 10 = b := by omega
  unfold FrIp at q
  rw [e1, e2] at q
  exact q
/-- the range by which finds goes -/
def rgM (ms : Int → Int) (lit : Int) : Int := if lit = 1 then ms 3 else 20
theorem egM_no {ms : Int → Int} {r a b : Int} (h : ¬ (0 < lgM ms a b 0 ∧ lgM ms a b 1 ≤ r)) : ∀ y, ¬ egM ms r a b y := fun y hy => by
  have q := egM_iff.mp hy
  exact h ⟨q.2.2.2.2.1, q.2.2.2.2.2.2⟩
theorem egM_20 {ms : Int → Int} (h : MLg ms) {a b : Int} (ha : 0 ≤ a ∧ a < 10) (hb : 0 ≤ b ∧ b < 10) (h0 : 0 < lgM ms a b 0) : 1 ≤ lgM ms a b 1 ∧ lgM ms a b 1 ≤ 20 := by
  have q := (h a b ha.1 ha.2 hb.1 hb.2).2.1 h0
  omega
def isMnK (E : Int → Int → Int → Prop) (k g : Int) : Prop := ∃ mn, (∀ p, 0 ≤ p → p < k → (mn p = 1 ∧ ∀ q, 0 ≤ q → q < p → ¬ cn E q p) ∨ (mn p = 0 ∧ ∃ q, 0 ≤ q ∧ q < p ∧ cn E q p)) ∧ g = sm mn k.toNat
theorem sm_upto {f g : Int → Int} : ∀ {n : Nat}, (∀ j : Int, 0 ≤ j → j < n → f j = g j) → sm f n = sm g n
  | 0, _ => rfl
  | n + 1, h => by
    show sm f n + f n = sm g n + g n
    rw [sm_upto (fun j h0 h1 => h j h0 (by omega)), h n (by omega) (by omega)]
theorem isMnK_0 {E : Int → Int → Int → Prop} : isMnK E 0 0 := ⟨fun _ => 0, fun p p0 p1 => absurd p1 (by omega), rfl⟩
theorem isMnK_s {E : Int → Int → Int → Prop} {k g v : Int} (hk : 0 ≤ k) (h : isMnK E k g) (hv : (v = 1 ∧ ∀ q, 0 ≤ q → q < k → ¬ cn E q k) ∨ (v = 0 ∧ ∃ q, 0 ≤ q ∧ q < k ∧ cn E q k)) : isMnK E (k + 1) (g + v) := by
  obtain ⟨mn, h1, h2⟩ := h
  refine ⟨zU mn k v, fun p p0 p1 => ?_, ?_⟩
  · by_cases e : p = k
    · subst e
      rw [zU_same]
      exact hv
    · rw [zU_ne e]
      exact h1 p p0 (by omega)
  · rw [← sm_next hk, zU_same, h2]
    congr 1
    exact sm_upto (fun j j0 j1 => (zU_ne (by omega)).symm)
theorem isMnK_in {E : Int → Int → Int → Prop} {k g : Int} (hk : 0 ≤ k) (h : isMnK E k g) : 0 ≤ g ∧ g ≤ k := by
  obtain ⟨mn, h1, h2⟩ := h
  have q := sm_in (f := mn) (n := k.toNat) (fun j j0 j1 => by rcases h1 j j0 (by omega) with q | q <;> omega)
  omega
theorem cn_sym {E : Int → Int → Int → Prop} {a b : Int} (h : cn E a b) : cn E b a := fun f hf => (h f hf).symm
def askP (ip : Prop) (P : Int → Prop) (z t : Int) : Prop := (t = 1 ∧ ¬ ip) ∨ (ip ∧ ((t = 2 ∧ P (-1)) ∨ (t = 0 ∧ z ≠ -1 ∧ P z)))
theorem wayP_in {E : Int → Int → Int → Prop} {a b z : Int} (h : wayP E a b z) : 0 ≤ z ∧ z ≤ 100000 ∧ (z < 100000 → z ≤ 990 ∧ cn E a b ∧ distP E a b z) ∧ (100000 ≤ z → ¬ cn E a b ∧ distP E a b (-1)) := by
  rcases h with ⟨h0, h1, h2, h3⟩ | ⟨h0, h1⟩
  · exact ⟨h0, by omega, fun _ => ⟨h1, h2, Or.inr ⟨h0, h2, h3⟩⟩, fun g => absurd g (by omega)⟩
  · exact ⟨by omega, by omega, fun g => absurd g (by omega), fun _ => ⟨h1, Or.inl ⟨rfl, h1⟩⟩⟩
theorem rngP_in {E : Int → Int → Int → Int → Prop} {a b z : Int} (h : rngP E a b z) : 0 ≤ z ∧ z ≤ 100000 ∧ (z < 100000 → z ≤ 20 ∧ needP E a b z) ∧ (100000 ≤ z → z = 100000 ∧ needP E a b (-1)) := by
  rcases h with ⟨h0, h1, h2⟩ | ⟨h0, h1⟩
  · exact ⟨h0, by omega, fun _ => ⟨h1, h2⟩, fun g => absurd g (by omega)⟩
  · exact ⟨by omega, by omega, fun g => absurd g (by omega), fun _ => ⟨h0, h1⟩⟩
theorem egM_mon {ms : Int → Int} : ∀ r r' a b w, r ≤ r' → egM ms r a b w → egM ms r' a b w := fun r r' a b w hr h => ⟨h.1, h.2.1, h.2.2.1, h.2.2.2.1, h.2.2.2.2.1, h.2.2.2.2.2.1, Int.le_trans h.2.2.2.2.2.2 hr⟩
theorem egM_low {ms : Int → Int} (h : MLg ms) : ∀ r a b w, egM ms r a b w → 1 ≤ r := fun r a b w he => by
  obtain ⟨a0, a1, b0, b1, h0, hw, hr⟩ := egM_iff.mp he
  have q := egM_20 h ⟨a0, a1⟩ ⟨b0, b1⟩ h0
  omega
theorem isMnK_grp {E : Int → Int → Int → Prop} {ports z : Int} (h : isMnK E ports z) : grpP E ports z := h
def FsP (P : Int → Prop) (q f : Int) : Prop := (f = 1 ∧ ∀ x, 0 ≤ x → x < q → ¬ P x) ∨ (f = 0 ∧ ∃ x, 0 ≤ x ∧ x < q ∧ P x)
theorem FsP_0 {P : Int → Prop} : FsP P 0 1 := Or.inl ⟨rfl, fun x h0 h1 => absurd h1 (by omega)⟩
theorem FsP_01 {P : Int → Prop} {q f : Int} (h : FsP P q f) : f = 0 ∨ f = 1 := h.elim (fun g => Or.inr g.1) (fun g => Or.inl g.1)
theorem FsP_no {P : Int → Prop} {f q : Int} (h : FsP P q f) (hf : f ≠ 0) (hq : ¬ P q) : FsP P (q + 1) 1 := by
  refine Or.inl ⟨rfl, fun x x0 x1 => ?_⟩
  by_cases e : x = q
  · subst e; exact hq
  · exact (h.elim (fun g => g.2) (fun g => absurd g.1 hf)) x x0 (by clear h; omega)
theorem FsP_yes {P : Int → Prop} {q : Int} (q0 : 0 ≤ q) (hq : P q) : FsP P (q + 1) 0 := Or.inr ⟨rfl, q, q0, by omega, hq⟩
theorem FsP_was {P : Int → Prop} {f q : Int} (h : FsP P q f) (hf : f = 0) : FsP P (q + 1) 0 := by
  rcases h with g | ⟨_, x, x0, x1, x2⟩
  · exact absurd (g.1.symm.trans hf) (by decide)
  · exact Or.inr ⟨rfl, x, x0, by omega, x2⟩
theorem isMnK_f {E : Int → Int → Int → Prop} {k g v f q : Int} (hk : 0 ≤ k) (h : isMnK E k g) (hf : FsP (fun x => cn E x k) q f) (hq : q = k) (hv : v = f) : isMnK E (k + 1) (g + v) := by
  subst hq
  subst hv
  exact isMnK_s hk h hf
/-! a claim as 1 or 0; the order of legs, leg by leg -/
noncomputable def inZ (P : Prop) : Int := @ite Int P (Classical.propDecidable P) 1 0
theorem inZ_1 {P : Prop} (h : P) : inZ P = 1 := @if_pos P (Classical.propDecidable P) h Int 1 0
theorem inZ_0 {P : Prop} (h : ¬ P) : inZ P = 0 := @if_neg P (Classical.propDecidable P) h Int 1 0
def isLg (ms : Int → Int) (c : Int) : Prop := c / 10 < c % 10 ∧ 0 < lgM ms (c / 10) (c % 10) 0
def ahM (ms : Int → Int) (one oth : Int) : Prop := lgM ms (one / 10) (one % 10) 1 < lgM ms (oth / 10) (oth % 10) 1 ∨ (lgM ms (one / 10) (one % 10) 1 = lgM ms (oth / 10) (oth % 10) 1 ∧ (lgM ms (one / 10) (one % 10) 0 < lgM ms (oth / 10) (oth % 10) 0 ∨ (lgM ms (one / 10) (one % 10) 0 = lgM ms (oth / 10) (oth % 10) 0 ∧ one < oth)))
noncomputable def ahN (ms : Int → Int) (c d : Int) : Int := sm (fun o => inZ (isLg ms o ∧ ahM ms o c)) d.toNat
theorem ahN_s1 {ms : Int → Int} {c d : Int} (hd : 0 ≤ d) (h : isLg ms d ∧ ahM ms d c) : ahN ms c d + 1 = ahN ms c (d + 1) := sm_next1 (f := fun o => inZ (isLg ms o ∧ ahM ms o c)) hd (inZ_1 h)
theorem ahN_s0 {ms : Int → Int} {c d : Int} (hd : 0 ≤ d) (h : ¬ (isLg ms d ∧ ahM ms d c)) : ahN ms c d = ahN ms c (d + 1) := sm_next0 (f := fun o => inZ (isLg ms o ∧ ahM ms o c)) hd (inZ_0 h)
def LatK (ms : Int → Int) (pos c fd : Int) : Prop := (fd = -1 ∧ ∀ o, 0 ≤ o → o < c → ¬ (isLg ms o ∧ ahN ms o 100 = pos)) ∨ (0 ≤ fd ∧ fd < c ∧ isLg ms fd ∧ ahN ms fd 100 = pos ∧ ∀ o, fd < o → o < c → ¬ (isLg ms o ∧ ahN ms o 100 = pos))
theorem LatK_0 {ms : Int → Int} {pos : Int} : LatK ms pos 0 (-1) := Or.inl ⟨rfl, fun o h0 h1 => absurd h1 (by omega)⟩
theorem LatK_yes {ms : Int → Int} {pos c fd : Int} (hc : 0 ≤ c) (_h : LatK ms pos c fd) (h1 : isLg ms c) (h2 : ahN ms c 100 = pos) : LatK ms pos (c + 1) c := Or.inr ⟨hc, by omega, h1, h2, fun o h0 h1 => absurd h1 (by omega)⟩
theorem LatK_no {ms : Int → Int} {pos c fd : Int} (h : LatK ms pos c fd) (hn : ¬ (isLg ms c ∧ ahN ms c 100 = pos)) : LatK ms pos (c + 1) fd := by
  rcases h with ⟨a, b⟩ | ⟨a1, a2, a3, a4, a5⟩
  · refine Or.inl ⟨a, fun o h0 h1 => ?_⟩
    by_cases e : o = c
    · subst e; exact hn
    · exact b o h0 (by omega)
  · refine Or.inr ⟨a1, by omega, a3, a4, fun o h0 h1 => ?_⟩
    by_cases e : o = c
    · subst e; exact hn
    · exact a5 o h0 (by omega)
/-! what the modifications do to the reference's numbers; t: the place of the exception, 0 for none -/
def mAddPort (ms : Int → Int) (z t : Int) (ms' : Int → Int) : Prop := (t = 1 ∧ ms 0 = 10 ∧ ms' = ms) ∨ (t = 0 ∧ ms 0 < 10 ∧ z = ms 0 ∧ ms' = zU ms 0 (ms 0 + 1))
def mAddLeg (ms : Int → Int) (a b w r z t : Int) (ms' : Int → Int) : Prop := (t = 1 ∧ ¬ inP (ms 0) a b ∧ ms' = ms) ∨ (inP (ms 0) a b ∧ ((t = 2 ∧ (a = b ∨ ¬ (1 ≤ w ∧ w ≤ 99 ∧ 1 ≤ r ∧ r ≤ 20)) ∧ ms' = ms) ∨ ((a ≠ b ∧ 1 ≤ w ∧ w ≤ 99 ∧ 1 ≤ r ∧ r ≤ 20) ∧ ((t = 3 ∧ (lgsM ms = 20 ∨ 0 < lgM ms a b 0) ∧ ms' = ms) ∨ (t = 0 ∧ lgsM ms ≠ 20 ∧ lgM ms a b 0 ≤ 0 ∧ ms' = setL (setL (setL ms a b 0 w) a b 1 r) a b 2 0 ∧ z = lgsM ms')))))
def mRemoveLeg (ms : Int → Int) (a b z t : Int) (ms' : Int → Int) : Prop := (t = 1 ∧ ¬ inP (ms 0) a b ∧ ms' = ms) ∨ (inP (ms 0) a b ∧ ((t = 2 ∧ lgM ms a b 0 = 0 ∧ ms' = ms) ∨ (t = 0 ∧ lgM ms a b 0 ≠ 0 ∧ z = lgM ms a b 0 ∧ ms' = setL ms a b 0 0)))
def subX (ms : Int → Int) (n a b w : Int) : Int → Int := zU (zU (zU (zU (zU ms (307 + 5 * n) a) (307 + 5 * n + 1) b) (307 + 5 * n + 2) w) (307 + 5 * n + 3) 0) (307 + 5 * n + 4) 0
def mSubscribe (ms : Int → Int) (a b w z t : Int) (ms' : Int → Int) : Prop := (t = 1 ∧ ¬ inP (ms 0) a b ∧ ms' = ms) ∨ (inP (ms 0) a b ∧ ((t = 2 ∧ (a = b ∨ w < 0 ∨ 9999 < w) ∧ ms' = ms) ∨ ((a ≠ b ∧ 0 ≤ w ∧ w ≤ 9999) ∧ ((t = 3 ∧ ms 1 = 6 ∧ ms' = ms) ∨ (ms 1 < 6 ∧ ((t = 4 ∧ ¬ cn (egM ms 20) a b ∧ ms' = ms) ∨ (t = 0 ∧ cn (egM ms 20) a b ∧ z = ms 1 ∧ ms' = zU (subX ms (ms 1) a b w) 1 (subX ms (ms 1) a b w 1 + 1))))))))
def mLeave (ms : Int → Int) (k z t : Int) (ms' : Int → Int) : Prop := (t = 1 ∧ ¬ (0 ≤ k ∧ k < ms 1) ∧ ms' = ms) ∨ (t = 0 ∧ (0 ≤ k ∧ k < ms 1) ∧ z = suM ms k 2 ∧ ms' = zCpy (zU ms 1 (ms 1 - 1)) (zU ms 1 (ms 1 - 1)) (307 + 5 * k + 5) (307 + 5 * k) (5 * (ms 1 - 1 - k)))
def mDeposit (ms : Int → Int) (k w z t : Int) (ms' : Int → Int) : Prop := (t = 1 ∧ ¬ (0 ≤ k ∧ k < ms 1) ∧ ms' = ms) ∨ ((0 ≤ k ∧ k < ms 1) ∧ ((t = 2 ∧ ¬ (1 ≤ w ∧ w ≤ 9999) ∧ ms' = ms) ∨ (t = 0 ∧ (1 ≤ w ∧ w ≤ 9999) ∧ ms' = addM ms k 2 w ∧ z = suM ms' k 2)))
def mSetFog (ms : Int → Int) (n z t : Int) (ms' : Int → Int) : Prop := (t = 1 ∧ ¬ (0 ≤ n ∧ n ≤ 9) ∧ ms' = ms) ∨ (t = 0 ∧ (0 ≤ n ∧ n ≤ 9) ∧ z = ms 2 ∧ ms' = zU ms 2 n)
section ZR5
variable {p : Program} {l : Launch} {e : Env} {R : Room} {s : State} {m : MethodId} {args : Array Value} {below : List Frame} {meth : Method} {c : Code} {H : Heap} {locs : List Loc} {cells slots : Nat} {Q : State → Prop}
variable {cc : ByteArray} {pc : Nat} {ls : Array Slot} {rest : List Value}
theorem zz_ldc (hx : p.tables.exec = Jvm.exec) (hb : c.code = cc) {own : String} {index : Nat} {v : Int32} (hown : s.vm.findClass own = some m.cls) (hconst : (Jvm.Cond.constant own index v).before args s = true) {n : Int} (hv : v = iI n) (hd : decode cc pc = .ok (.ldc index, 2)) (k : W p l e R s m args below meth c H locs cells slots Q (F0 m (pc + 2) ls (.int (iI n) :: rest))) : W p l e R s m args below meth c H locs cells slots Q (F0 m pc ls rest) := by
  subst hv
  exact lv_ldc hx hb hown hconst hd k
end ZR5
