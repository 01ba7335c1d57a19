/-! ===== a state that is in order; what each command leaves in order ===== -/
def SVk (B N : Int) (s : Nat → Int → Int) : Prop :=
  ChV (s 0 0) (s 1 0) (s 2) (s 3) (s 4) (s 5) ∧ ChU (s 1 0) (s 2) (s 3) ∧ (∀ j, 0 ≤ j → j < s 1 0 → 0 ≤ s 6 j ∧ s 6 j ≤ N) ∧ (0 ≤ s 7 0 ∧ s 7 0 ≤ 6) ∧
  (∀ j, 0 ≤ j → j < s 7 0 → (0 ≤ s 8 j ∧ s 8 j < s 0 0 ∧ 0 ≤ s 9 j ∧ s 9 j < s 0 0 ∧ s 8 j ≠ s 9 j) ∧ 0 ≤ s 10 j ∧ (0 ≤ s 11 j ∧ s 11 j ≤ N) ∧ (0 ≤ s 12 j ∧ s 12 j ≤ N)) ∧
  ((0 ≤ s 13 0 ∧ s 13 0 ≤ 20) ∧ (0 ≤ s 14 0 ∧ s 14 0 ≤ N) ∧ (0 ≤ s 15 0 ∧ s 15 0 ≤ 9)) ∧ (0 ≤ s 17 0 ∧ s 17 0 ≤ s 16 0) ∧ sm (s 10) (s 7 0).toNat + s 16 0 = s 18 0 ∧ s 18 0 ≤ B
theorem SVk_mono {B N B' N' : Int} {s : Nat → Int → Int} (h : SVk B N s) (hB : B ≤ B') (hN : N ≤ N') : SVk B' N' s := by
  obtain ⟨h1, h2, h3, h4, h5, ⟨h6, h7, h8⟩, h9, h10, h11⟩ := h
  exact ⟨h1, h2, fun j j0 j1 => by have := h3 j j0 j1; omega, h4, fun j j0 j1 => by obtain ⟨a, b, c, d⟩ := h5 j j0 j1; exact ⟨a, b, by omega, by omega⟩, ⟨h6, by omega, h8⟩, h9, h10, by omega⟩
theorem legLt_trans {r1 l1 a1 b1 r2 l2 a2 b2 r3 l3 a3 b3 : Int} (h : legLt r1 l1 a1 b1 r2 l2 a2 b2) (g : legLt r2 l2 a2 b2 r3 l3 a3 b3) : legLt r1 l1 a1 b1 r3 l3 a3 b3 := by
  unfold legLt at *
  omega
theorem legLt_total {r1 l1 a1 b1 r2 l2 a2 b2 : Int} (h : ¬ legLt r1 l1 a1 b1 r2 l2 a2 b2) (hn : ¬ (a1 = a2 ∧ b1 = b2)) : legLt r2 l2 a2 b2 r1 l1 a1 b1 := by
  unfold legLt at *
  omega
theorem legLt_asym {r1 l1 a1 b1 r2 l2 a2 b2 : Int} (h : legLt r1 l1 a1 b1 r2 l2 a2 b2) : ¬ legLt r2 l2 a2 b2 r1 l1 a1 b1 := by
  unfold legLt at *
  omega
/-! a place put in, a place taken out -/
def insF (f : Int → Int) (p n v : Int) : Int → Int := zU (shf f p n) p v
theorem ins_lt {f : Int → Int} {p n v j : Int} (h : j < p) : insF f p n v j = f j := by
  unfold insF shf
  rw [zU_ne (by omega), if_neg (by omega)]
theorem ins_eq {f : Int → Int} {p n v : Int} : insF f p n v p = v := zU_same _ _ _
theorem ins_gt {f : Int → Int} {p n v j : Int} (h : p < j) (hn : j ≤ n) : insF f p n v j = f (j - 1) := by
  unfold insF shf
  rw [zU_ne (by omega), if_pos ⟨h, hn⟩]
theorem dl_lt {f : Int → Int} {p n j : Int} (h : j < p) : dlf f p n j = f j := by
  unfold dlf
  rw [if_neg (by omega)]
theorem dl_ge {f : Int → Int} {p n j : Int} (h : p ≤ j) (hn : j < n - 1) : dlf f p n j = f (j + 1) := by
  unfold dlf
  rw [if_pos ⟨h, hn⟩]
/-- what holds of all places holds with one put in -/
theorem ins_all {P : Int → Int → Int → Int → Int → Prop} {f1 f2 f3 f4 f5 : Int → Int} {p n v1 v2 v3 v4 v5 : Int} (hp : 0 ≤ p ∧ p ≤ n) (h : ∀ j, 0 ≤ j → j < n → P (f1 j) (f2 j) (f3 j) (f4 j) (f5 j)) (hv : P v1 v2 v3 v4 v5) : ∀ j, 0 ≤ j → j < n + 1 → P (insF f1 p n v1 j) (insF f2 p n v2 j) (insF f3 p n v3 j) (insF f4 p n v4 j) (insF f5 p n v5 j) := by
  intro j j0 j1
  rcases Int.lt_trichotomy j p with q | q | q
  · rw [ins_lt q, ins_lt q, ins_lt q, ins_lt q, ins_lt q]; exact h j j0 (by omega)
  · subst q; rw [ins_eq, ins_eq, ins_eq, ins_eq, ins_eq]; exact hv
  · rw [ins_gt q (by omega), ins_gt q (by omega), ins_gt q (by omega), ins_gt q (by omega), ins_gt q (by omega)]; exact h (j - 1) (by omega) (by omega)
theorem dl_all {P : Int → Int → Int → Int → Int → Prop} {f1 f2 f3 f4 f5 : Int → Int} {p n : Int} (hp : 0 ≤ p ∧ p < n) (h : ∀ j, 0 ≤ j → j < n → P (f1 j) (f2 j) (f3 j) (f4 j) (f5 j)) : ∀ j, 0 ≤ j → j < n - 1 → P (dlf f1 p n j) (dlf f2 p n j) (dlf f3 p n j) (dlf f4 p n j) (dlf f5 p n j) := by
  intro j j0 j1
  by_cases q : j < p
  · rw [dl_lt q, dl_lt q, dl_lt q, dl_lt q, dl_lt q]; exact h j j0 (by omega)
  · rw [dl_ge (by omega) j1, dl_ge (by omega) j1, dl_ge (by omega) j1, dl_ge (by omega) j1, dl_ge (by omega) j1]; exact h (j + 1) (by omega) (by omega)
theorem ChV_ins {ports legs : Int} {lower upper leng reach : Int → Int} {a b w r p : Int} (h : ChV ports legs lower upper leng reach) (hl : legs < 20) (hab : 0 ≤ a ∧ a < b ∧ b < ports) (hw : 1 ≤ w ∧ w ≤ 99) (hr : 1 ≤ r ∧ r ≤ 20) (hp : 0 ≤ p ∧ p ≤ legs)
    (h1 : ∀ j, 0 ≤ j → j < p → legLt (reach j) (leng j) (lower j) (upper j) r w a b) (h2 : p = legs ∨ ¬ legLt (reach p) (leng p) (lower p) (upper p) r w a b) (hn : ∀ j, 0 ≤ j → j < legs → ¬ (lower j = a ∧ upper j = b)) :
    ChV ports (legs + 1) (insF lower p legs a) (insF upper p legs b) (insF leng p legs w) (insF reach p legs r) := by
  obtain ⟨c1, c2, c3, c4, c5, c6⟩ := h
  have after : ∀ j, p ≤ j → j < legs → legLt r w a b (reach j) (leng j) (lower j) (upper j) := by
    intro j hj hj2
    have hlt : ¬ legLt (reach p) (leng p) (lower p) (upper p) r w a b := h2.elim (fun e => absurd hj2 (by omega)) id
    have hnew := legLt_total hlt (hn p (by omega) (by omega))
    by_cases e : j = p
    · subst e; exact hnew
    · exact legLt_trans hnew (c6 p j (by omega) (by omega) hj2)
  refine ⟨c1, c2, by omega, by omega, ?_, ?_⟩
  · exact ins_all (P := fun x y z u _ => 0 ≤ x ∧ x < y ∧ y < ports ∧ 1 ≤ z ∧ z ≤ 99 ∧ 1 ≤ u ∧ u ≤ 20) (f5 := lower) (v5 := 0) hp c5 ⟨hab.1, hab.2.1, hab.2.2, hw.1, hw.2, hr.1, hr.2⟩
  · intro i j i0 ij jl
    rcases Int.lt_trichotomy i p with q | q | q
    · rw [ins_lt q, ins_lt q, ins_lt q, ins_lt q]
      rcases Int.lt_trichotomy j p with t | t | t
      · rw [ins_lt t, ins_lt t, ins_lt t, ins_lt t]; exact c6 i j i0 ij (by omega)
      · subst t; rw [ins_eq, ins_eq, ins_eq, ins_eq]; exact h1 i i0 q
      · rw [ins_gt t (by omega), ins_gt t (by omega), ins_gt t (by omega), ins_gt t (by omega)]; exact c6 i (j - 1) i0 (by omega) (by omega)
    · subst q
      rw [ins_eq, ins_eq, ins_eq, ins_eq, ins_gt ij (by omega), ins_gt ij (by omega), ins_gt ij (by omega), ins_gt ij (by omega)]
      exact after (j - 1) (by omega) (by omega)
    · rw [ins_gt q (by omega), ins_gt q (by omega), ins_gt q (by omega), ins_gt q (by omega), ins_gt (by omega) (by omega), ins_gt (by omega) (by omega), ins_gt (by omega) (by omega), ins_gt (by omega) (by omega)]
      exact c6 (i - 1) (j - 1) (by omega) (by omega) (by omega)
theorem ChU_ins {legs : Int} {lower upper : Int → Int} {a b p : Int} (h : ChU legs lower upper) (hp : 0 ≤ p ∧ p ≤ legs) (hn : ∀ j, 0 ≤ j → j < legs → ¬ (lower j = a ∧ upper j = b)) : ChU (legs + 1) (insF lower p legs a) (insF upper p legs b) := by
  intro i j i0 i1 j0 j1 e1 e2
  rcases Int.lt_trichotomy i p with q | q | q
  · rw [ins_lt q] at e1 e2
    rcases Int.lt_trichotomy j p with t | t | t
    · rw [ins_lt t] at e1 e2; exact h i j i0 (by omega) j0 (by omega) e1 e2
    · subst t; rw [ins_eq] at e1 e2; exact absurd ⟨e1, e2⟩ (hn i i0 (by omega))
    · rw [ins_gt t (by omega)] at e1 e2; have := h i (j - 1) i0 (by omega) (by omega) (by omega) e1 e2; omega
  · subst q
    rw [ins_eq] at e1 e2
    rcases Int.lt_trichotomy j i with t | t | t
    · rw [ins_lt t] at e1 e2; exact absurd ⟨e1.symm, e2.symm⟩ (hn j j0 (by omega))
    · exact t.symm
    · rw [ins_gt t (by omega)] at e1 e2; exact absurd ⟨e1.symm, e2.symm⟩ (hn (j - 1) (by omega) (by omega))
  · rw [ins_gt q (by omega)] at e1 e2
    rcases Int.lt_trichotomy j p with t | t | t
    · rw [ins_lt t] at e1 e2; have := h (i - 1) j (by omega) (by omega) j0 (by omega) e1 e2; omega
    · subst t; rw [ins_eq] at e1 e2; exact absurd ⟨e1, e2⟩ (hn (i - 1) (by omega) (by omega))
    · rw [ins_gt t (by omega)] at e1 e2; have := h (i - 1) (j - 1) (by omega) (by omega) (by omega) (by omega) e1 e2; omega
theorem ChV_del {ports legs : Int} {lower upper leng reach : Int → Int} {p : Int} (h : ChV ports legs lower upper leng reach) (hp : 0 ≤ p ∧ p < legs) : ChV ports (legs - 1) (dlf lower p legs) (dlf upper p legs) (dlf leng p legs) (dlf reach p legs) := by
  obtain ⟨c1, c2, c3, c4, c5, c6⟩ := h
  refine ⟨c1, c2, by omega, by omega, ?_, ?_⟩
  · exact dl_all (P := fun x y z u _ => 0 ≤ x ∧ x < y ∧ y < ports ∧ 1 ≤ z ∧ z ≤ 99 ∧ 1 ≤ u ∧ u ≤ 20) (f5 := lower) hp c5
  · intro i j i0 ij jl
    by_cases q : i < p
    · rw [dl_lt q, dl_lt q, dl_lt q, dl_lt q]
      by_cases t : j < p
      · rw [dl_lt t, dl_lt t, dl_lt t, dl_lt t]; exact c6 i j i0 ij (by omega)
      · rw [dl_ge (by omega) (by omega), dl_ge (by omega) (by omega), dl_ge (by omega) (by omega), dl_ge (by omega) (by omega)]; exact c6 i (j + 1) i0 (by omega) (by omega)
    · rw [dl_ge (by omega) (by omega), dl_ge (by omega) (by omega), dl_ge (by omega) (by omega), dl_ge (by omega) (by omega), dl_ge (by omega) (by omega), dl_ge (by omega) (by omega), dl_ge (by omega) (by omega), dl_ge (by omega) (by omega)]
      exact c6 (i + 1) (j + 1) (by omega) (by omega) (by omega)
theorem ChU_del {legs : Int} {lower upper : Int → Int} {p : Int} (h : ChU legs lower upper) (hp : 0 ≤ p ∧ p < legs) : ChU (legs - 1) (dlf lower p legs) (dlf upper p legs) := by
  intro i j i0 i1 j0 j1 e1 e2
  by_cases q : i < p
  · rw [dl_lt q] at e1 e2
    by_cases t : j < p
    · rw [dl_lt t] at e1 e2; exact h i j i0 (by omega) j0 (by omega) e1 e2
    · rw [dl_ge (by omega) (by omega)] at e1 e2; have := h i (j + 1) i0 (by omega) (by omega) (by omega) e1 e2; omega
  · rw [dl_ge (by omega) (by omega)] at e1 e2
    by_cases t : j < p
    · rw [dl_lt t] at e1 e2; have := h (i + 1) j (by omega) (by omega) j0 (by omega) e1 e2; omega
    · rw [dl_ge (by omega) (by omega)] at e1 e2; have := h (i + 1) (j + 1) (by omega) (by omega) (by omega) (by omega) e1 e2; omega
/-! sums -/
theorem sm_add (f g : Int → Int) : ∀ n : Nat, sm (fun j => f j + g j) n = sm f n + sm g n
  | 0 => rfl
  | n + 1 => by
    show sm (fun j => f j + g j) n + (f n + g n) = sm f n + f n + (sm g n + g n)
    rw [sm_add f g n]
    omega
theorem sm_neg (f : Int → Int) : ∀ n : Nat, sm (fun j => -f j) n = -sm f n
  | 0 => rfl
  | n + 1 => by
    show sm (fun j => -f j) n + -f n = -(sm f n + f n)
    rw [sm_neg f n]
    omega
theorem sm_pos {f : Int → Int} : ∀ {n : Nat}, (∀ j : Int, 0 ≤ j → j < n → 0 ≤ f j) → 0 ≤ sm f n
  | 0, _ => Int.le_refl _
  | n + 1, h => by
    show 0 ≤ sm f n + f n
    have := sm_pos (f := f) (n := n) (fun j j0 j1 => h j j0 (by omega))
    have := h n (by omega) (by omega)
    omega
theorem sm_zU {f : Int → Int} {k v : Int} (k0 : 0 ≤ k) : ∀ {n : Nat}, k < n → sm (zU f k v) n = sm f n + (v - f k)
  | 0, h => absurd h (by omega)
  | n + 1, h => by
    show sm (zU f k v) n + zU f k v n = sm f n + f n + (v - f k)
    by_cases e : k = n
    · subst e
      rw [zU_same, sm_upto (f := zU f (n : Int) v) (g := f) (fun j j0 j1 => zU_ne (by omega))]
      omega
    · rw [zU_ne (by omega), sm_zU k0 (n := n) (by omega)]
      omega
theorem sm_del {f : Int → Int} {p n : Int} (hp : 0 ≤ p ∧ p < n) : sm (dlf f p n) (n - 1).toNat = sm f n.toNat - f p := by
  have key : ∀ k : Nat, (k : Int) ≤ n - 1 → sm (dlf f p n) k = if (k : Int) ≤ p then sm f k else sm f (k + 1) - f p := by
    intro k
    induction k with
    | zero => intro h; rw [if_pos (by omega)]; rfl
    | succ k ih =>
      intro h
      have e := ih (by omega)
      show sm (dlf f p n) k + dlf f p n k = _
      rw [e]
      by_cases q : ((k + 1 : Nat) : Int) ≤ p
      · rw [if_pos (by omega), if_pos q, dl_lt (by omega)]
        rfl
      · rw [if_neg q]
        show _ = sm f (k + 1) + f ((k + 1 : Nat) : Int) - f p
        by_cases t : (k : Int) ≤ p
        · have t2 : (k : Int) = p := by omega
          rw [if_pos t, dl_ge (by omega) (by omega), show (k : Int) + 1 = ((k + 1 : Nat) : Int) by omega]
          show _ = sm f k + f k + _ - _
          rw [t2]
          omega
        · rw [if_neg t, dl_ge (by omega) (by omega), show (k : Int) + 1 = ((k + 1 : Nat) : Int) by omega]
          omega
  have h := key (n - 1).toNat (by omega)
  rw [h]
  by_cases q : (((n - 1).toNat : Nat) : Int) ≤ p
  · rw [if_pos q, show n.toNat = (n - 1).toNat + 1 by omega]
    show _ = sm f (n - 1).toNat + f ((n - 1).toNat : Int) - f p
    rw [show (((n - 1).toNat : Nat) : Int) = p by omega]
    omega
  · rw [if_neg q, show (n - 1).toNat + 1 = n.toNat by omega]
/-! each command leaves the state in order -/
theorem SVk_port {B N : Int} {s : Nat → Int → Int} (h : SVk B N s) (hp : s 0 0 < 10) : SVk B N (sPort s) := by
  obtain ⟨⟨c1, c2, c3, c4, c5, c6⟩, h2, h3, h4, h5, h6, h9, h10, h11⟩ := h
  refine ⟨⟨?_, ?_, c3, c4, fun k k0 k1 => ?_, c6⟩, h2, h3, h4, fun j j0 j1 => ?_, h6, h9, h10, h11⟩
  · show 0 ≤ s 0 0 + 1
    omega
  · show s 0 0 + 1 ≤ 10
    omega
  · have := c5 k k0 k1
    show 0 ≤ s 2 k ∧ s 2 k < s 3 k ∧ s 3 k < s 0 0 + 1 ∧ 1 ≤ s 4 k ∧ s 4 k ≤ 99 ∧ 1 ≤ s 5 k ∧ s 5 k ≤ 20
    omega
  · obtain ⟨a, b, c, d⟩ := h5 j j0 j1
    refine ⟨?_, b, c, d⟩
    show 0 ≤ s 8 j ∧ s 8 j < s 0 0 + 1 ∧ 0 ≤ s 9 j ∧ s 9 j < s 0 0 + 1 ∧ s 8 j ≠ s 9 j
    omega
theorem minmax_ab {a b ports : Int} (h : inP ports a b) (hn : a ≠ b) : 0 ≤ min a b ∧ min a b < max a b ∧ max a b < ports := by
  obtain ⟨h0, h1, h2, h3⟩ := h
  omega
theorem hasL_not {legs : Int} {lower upper : Int → Int} {a b : Int} (h : ¬ hasL legs lower upper a b) : ∀ j, 0 ≤ j → j < legs → ¬ (lower j = min a b ∧ upper j = max a b) := fun j j0 j1 g => h ⟨j, j0, j1, g.1, g.2⟩
theorem SVk_leg {B N : Int} {s : Nat → Int → Int} {a b w r p : Int} (h : SVk B N s) (hN : 0 ≤ N) (hf : legF (s 0 0) (s 1 0) (s 2) (s 3) a b w r 0) (hp : 0 ≤ p ∧ p ≤ s 1 0)
    (h1 : ∀ j, 0 ≤ j → j < p → legLt (s 5 j) (s 4 j) (s 2 j) (s 3 j) r w (min a b) (max a b)) (h2 : p = s 1 0 ∨ ¬ legLt (s 5 p) (s 4 p) (s 2 p) (s 3 p) r w (min a b) (max a b)) : SVk B N (sLeg s a b w r p) := by
  obtain ⟨-, ⟨hin, hne, hw0, hw1, hr0, hr1⟩, hl, hnl⟩ := legF_0 hf (by decide)
  have hmm := minmax_ab hin hne
  have hnn := hasL_not hnl
  obtain ⟨hc, hu, h3, h4, h5, h6, h9, h10, h11⟩ := h
  refine ⟨?_, ?_, ?_, h4, h5, h6, h9, h10, h11⟩
  · exact ChV_ins hc hl hmm ⟨hw0, hw1⟩ ⟨hr0, hr1⟩ hp h1 h2 hnn
  · exact ChU_ins hu hp hnn
  · exact ins_all (P := fun x _ _ _ _ => 0 ≤ x ∧ x ≤ N) (f2 := s 2) (f3 := s 2) (f4 := s 2) (f5 := s 2) (v2 := 0) (v3 := 0) (v4 := 0) (v5 := 0) hp h3 ⟨Int.le_refl _, hN⟩
theorem SVk_cut {B N : Int} {s : Nat → Int → Int} {p : Int} (h : SVk B N s) (hp : 0 ≤ p ∧ p < s 1 0) : SVk B N (sCut s p) := by
  obtain ⟨hc, hu, h3, h4, h5, h6, h9, h10, h11⟩ := h
  exact ⟨ChV_del hc hp, ChU_del hu hp, dl_all (P := fun x _ _ _ _ => 0 ≤ x ∧ x ≤ N) (f2 := s 2) (f3 := s 2) (f4 := s 2) (f5 := s 2) hp h3, h4, h5, h6, h9, h10, h11⟩
theorem SVk_ship {B N : Int} {s : Nat → Int → Int} {a b w : Int} {E : Int → Int → Int → Int → Prop} (h : SVk B N s) (hN : 0 ≤ N) (hf : shipF (s 0 0) (s 7 0) E a b w 0) : SVk (B + 9999) N (sShip s a b w) := by
  obtain ⟨-, ⟨p0, p1, p2, p3⟩, ⟨hne, w0, w1⟩, hc6⟩ := shipF_0 hf (by decide)
  obtain ⟨hc, hu, h3, h4, h5, h6, h9, h10, h11⟩ := h
  refine ⟨hc, hu, h3, ?_, fun j j0 j1 => ?_, h6, h9, ?_, ?_⟩
  · show 0 ≤ s 7 0 + 1 ∧ s 7 0 + 1 ≤ 6
    omega
  · have j1' : j < s 7 0 + 1 := j1
    show (0 ≤ zU (s 8) (s 7 0) a j ∧ zU (s 8) (s 7 0) a j < s 0 0 ∧ 0 ≤ zU (s 9) (s 7 0) b j ∧ zU (s 9) (s 7 0) b j < s 0 0 ∧ zU (s 8) (s 7 0) a j ≠ zU (s 9) (s 7 0) b j) ∧ 0 ≤ zU (s 10) (s 7 0) w j ∧ (0 ≤ zU (s 11) (s 7 0) 0 j ∧ zU (s 11) (s 7 0) 0 j ≤ N) ∧ (0 ≤ zU (s 12) (s 7 0) 0 j ∧ zU (s 12) (s 7 0) 0 j ≤ N)
    by_cases e : j = s 7 0
    · rw [e, zU_same, zU_same, zU_same, zU_same, zU_same]
      omega
    · rw [zU_ne e, zU_ne e, zU_ne e, zU_ne e, zU_ne e]
      exact h5 j j0 (by omega)
  · show sm (zU (s 10) (s 7 0) w) (s 7 0 + 1).toNat + s 16 0 = s 18 0 + w
    rw [show (s 7 0 + 1).toNat = (s 7 0).toNat + 1 by omega]
    show sm (zU (s 10) (s 7 0) w) (s 7 0).toNat + zU (s 10) (s 7 0) w ((s 7 0).toNat : Int) + s 16 0 = _
    rw [show (((s 7 0).toNat : Nat) : Int) = s 7 0 by omega, zU_same, sm_upto (f := zU (s 10) (s 7 0) w) (g := s 10) (fun j j0 j1 => zU_ne (by omega))]
    omega
  · show s 18 0 + w ≤ B + 9999
    omega
theorem SVk_pay {B N : Int} {s : Nat → Int → Int} {i w : Int} (h : SVk B N s) (hf : payF (s 7 0) i w 0) : SVk (B + 9999) N (sPay s i w) := by
  obtain ⟨-, hi, hw⟩ := payF_0 hf (by decide)
  obtain ⟨hc, hu, h3, h4, h5, h6, h9, h10, h11⟩ := h
  refine ⟨hc, hu, h3, h4, fun j j0 j1 => ?_, h6, h9, ?_, ?_⟩
  · obtain ⟨a, b, c, d⟩ := h5 j j0 j1
    refine ⟨a, ?_, c, d⟩
    show 0 ≤ zU (s 10) i (s 10 i + w) j
    by_cases e : j = i
    · rw [e, zU_same]
      have := (h5 i hi.1 hi.2).2.1
      omega
    · rw [zU_ne e]; exact b
  · show sm (zU (s 10) i (s 10 i + w)) (s 7 0).toNat + s 16 0 = s 18 0 + w
    rw [sm_zU hi.1 (by omega)]
    omega
  · show s 18 0 + w ≤ B + 9999
    omega
theorem SVk_leav {B N : Int} {s : Nat → Int → Int} {i : Int} (h : SVk B N s) (hi : 0 ≤ i ∧ i < s 7 0) : SVk B N (sLeav s i) := by
  obtain ⟨hc, hu, h3, h4, h5, h6, h9, h10, h11⟩ := h
  refine ⟨hc, hu, h3, ?_, ?_, h6, h9, ?_, ?_⟩
  · show 0 ≤ s 7 0 - 1 ∧ s 7 0 - 1 ≤ 6
    omega
  · exact dl_all (P := fun x1 x2 x3 x4 x5 => (0 ≤ x1 ∧ x1 < s 0 0 ∧ 0 ≤ x2 ∧ x2 < s 0 0 ∧ x1 ≠ x2) ∧ 0 ≤ x3 ∧ (0 ≤ x4 ∧ x4 ≤ N) ∧ (0 ≤ x5 ∧ x5 ≤ N)) hi h5
  · show sm (dlf (s 10) i (s 7 0)) (s 7 0 - 1).toNat + s 16 0 = s 18 0 - s 10 i
    rw [sm_del hi]
    omega
  · show s 18 0 - s 10 i ≤ B
    have := (h5 i hi.1 hi.2).2.1
    omega
theorem SVk_fog {B N : Int} {s : Nat → Int → Int} {n : Int} (h : SVk B N s) (hn : 0 ≤ n ∧ n ≤ 9) : SVk B N (sFog s n) := by
  obtain ⟨hc, hu, h3, h4, h5, ⟨h6, h7, h8⟩, h9, h10, h11⟩ := h
  exact ⟨hc, hu, h3, h4, h5, ⟨h6, h7, hn⟩, h9, h10, h11⟩
theorem updTo_in {i j : Int} {f g : Int → Int} (h : 0 ≤ j ∧ j < i) : updTo i f g j = g j := if_pos h
theorem SVk_nig {B N : Int} {s : Nat → Int → Int} {tp nd sh : Int → Int} {g : Int} (h : SVk B N s) (hpl : isPlan (sE s) (s 7 0) (s 8) (s 9) (s 10) tp nd sh) (hg : isGr tp nd g) : SVk B (N + 1) (sNig s tp sh g) := by
  obtain ⟨hc, hu, h3, h4, h5, ⟨h6, h7, h8⟩, h9, h10, h11⟩ := h
  have ht := hpl.2.2
  have pays : ∀ j, 0 ≤ j → j < s 7 0 → 0 ≤ nSh tp sh j ∧ nSh tp sh j ≤ s 10 j ∧ 0 ≤ nBk (s 15 0) tp sh j ∧ 2 * nBk (s 15 0) tp sh j ≤ nSh tp sh j := by
    intro j j0 j1
    have h0 := (h5 j j0 j1).2.1
    have e : 0 ≤ nSh tp sh j ∧ nSh tp sh j ≤ s 10 j := by
      unfold nSh
      by_cases q : tp j = 1
      · rw [if_pos q]; exact isPlan_pays h4.2 hpl j0 j1 q
      · rw [if_neg q]; omega
    refine ⟨e.1, e.2, ?_⟩
    unfold nBk
    by_cases q : 0 < s 15 0
    · rw [if_pos q]; omega
    · rw [if_neg q]; omega
  refine ⟨hc, hu, fun j j0 j1 => ?_, h4, fun j j0 j1 => ?_, ⟨⟨hg.1, hg.2.1⟩, ?_, ?_⟩, ?_, ?_, h11⟩
  · show 0 ≤ mtUp (s 1 0) (s 5) g (s 6) j ∧ mtUp (s 1 0) (s 5) g (s 6) j ≤ N + 1
    have := h3 j j0 j1
    unfold mtUp
    split <;> omega
  · obtain ⟨a, b, c, d⟩ := h5 j j0 j1
    have q := pays j j0 j1
    have t := ht.1 j j0 (by have : j < s 7 0 := j1; omega)
    have j1 : j < s 7 0 := j1
    refine ⟨a, ?_, ?_, ?_⟩
    · show 0 ≤ updTo (s 7 0) (s 10) (fun j => s 10 j - nSh tp sh j + nBk (s 15 0) tp sh j) j
      rw [updTo_in ⟨j0, j1⟩]
      omega
    · show 0 ≤ updTo (s 7 0) (s 11) (fun j => s 11 j + tp j) j ∧ updTo (s 7 0) (s 11) (fun j => s 11 j + tp j) j ≤ N + 1
      rw [updTo_in ⟨j0, j1⟩]
      omega
    · show 0 ≤ updTo (s 7 0) (s 12) (fun j => s 12 j + (1 - tp j)) j ∧ updTo (s 7 0) (s 12) (fun j => s 12 j + (1 - tp j)) j ≤ N + 1
      rw [updTo_in ⟨j0, j1⟩]
      omega
  · show 0 ≤ s 14 0 + 1 ∧ s 14 0 + 1 ≤ N + 1
    omega
  · show 0 ≤ (if 0 < s 15 0 then s 15 0 - 1 else s 15 0) ∧ (if 0 < s 15 0 then s 15 0 - 1 else s 15 0) ≤ 9
    split <;> omega
  · have e : sm (nBk (s 15 0) tp sh) (s 7 0).toNat ≤ sm (fun j => nSh tp sh j - nBk (s 15 0) tp sh j) (s 7 0).toNat := by
      have p := sm_pos (f := fun j => (nSh tp sh j - nBk (s 15 0) tp sh j) + -nBk (s 15 0) tp sh j) (n := (s 7 0).toNat) (fun j j0 j1 => by have := pays j j0 (by omega); show 0 ≤ (nSh tp sh j - nBk (s 15 0) tp sh j) + -nBk (s 15 0) tp sh j; omega)
      rw [sm_add (fun j => nSh tp sh j - nBk (s 15 0) tp sh j) (fun j => -nBk (s 15 0) tp sh j), sm_neg] at p
      omega
    have e2 := sm_pos (f := nBk (s 15 0) tp sh) (n := (s 7 0).toNat) (fun j j0 j1 => (pays j j0 (by omega)).2.2.1)
    show 0 ≤ s 17 0 + sm (nBk (s 15 0) tp sh) (s 7 0).toNat ∧ s 17 0 + sm (nBk (s 15 0) tp sh) (s 7 0).toNat ≤ s 16 0 + sm (fun j => nSh tp sh j - nBk (s 15 0) tp sh j) (s 7 0).toNat
    omega
  · show sm (updTo (s 7 0) (s 10) (fun j => s 10 j - nSh tp sh j + nBk (s 15 0) tp sh j)) (s 7 0).toNat + (s 16 0 + sm (fun j => nSh tp sh j - nBk (s 15 0) tp sh j) (s 7 0).toNat) = s 18 0
    rw [sm_upto (f := updTo (s 7 0) (s 10) (fun j => s 10 j - nSh tp sh j + nBk (s 15 0) tp sh j)) (g := fun j => s 10 j + -(nSh tp sh j - nBk (s 15 0) tp sh j)) (fun j j0 j1 => by rw [updTo_in ⟨j0, by omega⟩]; omega), sm_add (s 10) (fun j => -(nSh tp sh j - nBk (s 15 0) tp sh j)), sm_neg (fun j => nSh tp sh j - nBk (s 15 0) tp sh j)]
    omega
/-- one command, refused or not, by its numbers -/
theorem SVk_eff {B N : Int} {c : Nat} {a b x y : Int} {s s' : Nat → Int → Int} (h : SVk B N s) (hN : 0 ≤ N) (hB : 0 ≤ B) (hf : fltC (s 0 0) (s 1 0) (s 2) (s 3) (s 7 0) (sE s) c a b x y 0) (he : effC c a b x y s s') : SVk (B + 9999) (N + 1) s' := by
  rcases he with ⟨hc, rfl⟩ | ⟨hc, p, h0, h1, h2, rfl⟩ | ⟨hc, p, h0, rfl⟩ | ⟨hc, rfl⟩ | ⟨hc, rfl⟩ | ⟨hc, rfl⟩ | ⟨hc, rfl⟩ | ⟨hc, tp, nd, sh, g, h1, h2, rfl⟩
  · have f := fltC_z0 hc hf
    exact SVk_mono (SVk_port h (by rcases f with f | f <;> omega)) (by omega) (by omega)
  · exact SVk_mono (SVk_leg h hN (fltC_z1 hc hf) h0 h1 h2) (by omega) (by omega)
  · exact SVk_mono (SVk_cut h ⟨h0.1, h0.2.1⟩) (by omega) (by omega)
  · exact SVk_mono (SVk_ship h hN (fltC_z3 hc hf)) (by omega) (by omega)
  · exact SVk_mono (SVk_pay h (fltC_z4 hc hf)) (by omega) (by omega)
  · have f := fltC_z5 hc hf
    exact SVk_mono (SVk_leav h (by rcases f with f | f <;> omega)) (by omega) (by omega)
  · have f := fltC_z6 hc hf
    exact SVk_mono (SVk_fog h (by rcases f with f | f <;> omega)) (by omega) (by omega)
  · exact SVk_mono (SVk_nig h h1 h2) (by omega) (by omega)
