/-! ===== a command done on both sides keeps the relation ===== -/
section
variable {B N : Int} {s : Nat → Int → Int} {ms ms' : Int → Int} {a b w r p : Int}
theorem RelS_mono {N' : Int} (h : RelS N s ms) (hN : N ≤ N') : RelS N' s ms := by
  obtain ⟨h1, h2, h3, h4, h5⟩ := h
  exact ⟨h1, h2, h3, h4, fun a b a0 a1 b0 b1 => by have q := h5 a b a0 a1 b0 b1; exact ⟨q.1, q.2.1, q.2.2.1, by omega⟩⟩
/-- the same legs, when only the head and the subscribers change -/
theorem legs_same {s' : Nat → Int → Int} (h : RelS N s ms) (hl : ∀ j, 7 ≤ j → j < 307 → ms' j = ms j) (e1 : s' 1 0 = s 1 0) (e2 : s' 2 = s 2) (e3 : s' 3 = s 3) (e4 : s' 4 = s 4) (e5 : s' 5 = s 5) (e6 : s' 6 = s 6) (hin : ∀ j, 0 ≤ j → j < s 1 0 → 0 ≤ s 2 j ∧ s 2 j < 10 ∧ 0 ≤ s 3 j ∧ s 3 j < 10) : RelA s' ms' ∧ RelB s' ms' ∧ RelC N ms' := by
  have lg : ∀ a b w, 0 ≤ a → a < 10 → 0 ≤ b → b < 10 → 0 ≤ w → w ≤ 2 → lgM ms' a b w = lgM ms a b w := fun a b w a0 a1 b0 b1 w0 w1 => hl _ (by omega) (by omega)
  obtain ⟨-, -, hA, hB, hC⟩ := h
  refine ⟨fun j j0 j1 => ?_, fun a b a0 a1 b0 b1 g => ?_, fun a b a0 a1 b0 b1 => ?_⟩
  · rw [e1] at j1
    have q := hin j j0 j1
    rw [e2, e3, e4, e5, e6, lg _ _ _ q.1 q.2.1 q.2.2.1 q.2.2.2 (by decide) (by decide), lg _ _ _ q.1 q.2.1 q.2.2.1 q.2.2.2 (by decide) (by decide), lg _ _ _ q.1 q.2.1 q.2.2.1 q.2.2.2 (by decide) (by decide)]
    exact hA j j0 j1
  · rw [lg a b 0 a0 a1 b0 b1 (by decide) (by decide)] at g
    rw [e1, e2, e3]
    exact hB a b a0 a1 b0 b1 g
  · rw [lg a b 0 a0 a1 b0 b1 (by decide) (by decide), lg a b 1 a0 a1 b0 b1 (by decide) (by decide), lg a b 2 a0 a1 b0 b1 (by decide) (by decide)]
    have q := hC a b a0 a1 b0 b1
    exact ⟨fun w w0 w1 => by rw [lg a b w a0 a1 b0 b1 w0 w1, lg b a w b0 b1 a0 a1 w0 w1]; exact q.1 w w0 w1, q.2⟩
theorem hin_of (hc : ChS s) : ∀ j, 0 ≤ j → j < s 1 0 → 0 ≤ s 2 j ∧ s 2 j < 10 ∧ 0 ≤ s 3 j ∧ s 3 j < 10 := fun j j0 j1 => by
  have q := ch_in hc j0 j1
  omega
theorem rel_port (hc : ChS s) (h : RelS N s ms) : RelS N (sPort s) (zU ms 0 (ms 0 + 1)) := by
  have l := legs_same (s' := sPort s) (ms' := zU ms 0 (ms 0 + 1)) h (fun j j0 j1 => zU_ne (by omega)) rfl rfl rfl rfl rfl rfl (hin_of hc)
  obtain ⟨⟨h0, h1, h2, h3, h4, h5, h6⟩, hU, -⟩ := h
  refine ⟨⟨?_, ?_, ?_, ?_, ?_, ?_, ?_⟩, fun k k0 k1 => ?_, l.1, l.2.1, l.2.2⟩
  · rw [zU_same, h0]; rfl
  · rw [zU_ne (by decide)]; exact h1
  · rw [zU_ne (by decide)]; exact h2
  · rw [zU_ne (by decide)]; exact h3
  · rw [zU_ne (by decide)]; exact h4
  · rw [zU_ne (by decide)]; exact h5
  · rw [zU_ne (by decide)]; exact h6
  · unfold suM
    rw [zU_ne (by omega), zU_ne (by omega), zU_ne (by omega), zU_ne (by omega), zU_ne (by omega)]
    exact hU k k0 k1
theorem rel_fog (hc : ChS s) (h : RelS N s ms) {n : Int} : RelS N (sFog s n) (zU ms 2 n) := by
  have l := legs_same (s' := sFog s n) (ms' := zU ms 2 n) h (fun j j0 j1 => zU_ne (by omega)) rfl rfl rfl rfl rfl rfl (hin_of hc)
  obtain ⟨⟨h0, h1, h2, h3, h4, h5, h6⟩, hU, -⟩ := h
  refine ⟨⟨?_, ?_, ?_, ?_, ?_, ?_, ?_⟩, fun k k0 k1 => ?_, l.1, l.2.1, l.2.2⟩
  · rw [zU_ne (by decide)]; exact h0
  · rw [zU_ne (by decide)]; exact h1
  · rw [zU_same]; rfl
  · rw [zU_ne (by decide)]; exact h3
  · rw [zU_ne (by decide)]; exact h4
  · rw [zU_ne (by decide)]; exact h5
  · rw [zU_ne (by decide)]; exact h6
  · unfold suM
    rw [zU_ne (by omega), zU_ne (by omega), zU_ne (by omega), zU_ne (by omega), zU_ne (by omega)]
    exact hU k k0 k1
theorem rel_pay (hc : ChS s) (h : RelS N s ms) {i : Int} (hi : 0 ≤ i ∧ i < s 7 0) : RelS N (sPay s i w) (addM ms i 2 w) := by
  have l := legs_same (s' := sPay s i w) (ms' := addM ms i 2 w) h (fun j j0 j1 => zU_ne (by omega)) rfl rfl rfl rfl rfl rfl (hin_of hc)
  obtain ⟨⟨h0, h1, h2, h3, h4, h5, h6⟩, hU, -⟩ := h
  refine ⟨⟨?_, ?_, ?_, ?_, ?_, ?_, ?_⟩, fun k k0 k1 => ?_, l.1, l.2.1, l.2.2⟩
  · unfold addM; rw [zU_ne (by omega)]; exact h0
  · unfold addM; rw [zU_ne (by omega)]; exact h1
  · unfold addM; rw [zU_ne (by omega)]; exact h2
  · unfold addM; rw [zU_ne (by omega)]; exact h3
  · unfold addM; rw [zU_ne (by omega)]; exact h4
  · unfold addM; rw [zU_ne (by omega)]; exact h5
  · unfold addM; rw [zU_ne (by omega)]; exact h6
  · have q := hU k k0 k1
    unfold addM suM at *
    rw [zU_ne (by omega), zU_ne (by omega), zU_ne (j := 307 + 5 * k + 3) (by omega), zU_ne (j := 307 + 5 * k + 4) (by omega)]
    refine ⟨q.1, q.2.1, ?_, q.2.2.2.1, q.2.2.2.2⟩
    show zU ms (307 + 5 * i + 2) (ms (307 + 5 * i + 2) + w) (307 + 5 * k + 2) = zU (s 10) i (s 10 i + w) k
    by_cases e : k = i
    · subst e
      rw [zU_same, zU_same, q.2.2.1]
    · rw [zU_ne (by omega), zU_ne e]
      exact q.2.2.1
theorem rel_ship (hc : ChS s) (h : RelS N s ms) (h7 : 0 ≤ s 7 0) : RelS N (sShip s a b w) (zU (subX ms (ms 1) a b w) 1 (subX ms (ms 1) a b w 1 + 1)) := by
  have e1 : ms 1 = s 7 0 := h.1.2.1
  have X : ∀ j, j < 307 + 5 * s 7 0 → subX ms (ms 1) a b w j = ms j := fun j hj => by
    unfold subX
    rw [e1, zU_ne (by omega), zU_ne (by omega), zU_ne (by omega), zU_ne (by omega), zU_ne (by omega)]
  have l := legs_same (s' := sShip s a b w) (ms' := zU (subX ms (ms 1) a b w) 1 (subX ms (ms 1) a b w 1 + 1)) h (fun j j0 j1 => by rw [zU_ne (by omega)]; exact X j (by omega)) rfl rfl rfl rfl rfl rfl (hin_of hc)
  obtain ⟨⟨h0, h1, h2, h3, h4, h5, h6⟩, hU, -⟩ := h
  refine ⟨⟨?_, ?_, ?_, ?_, ?_, ?_, ?_⟩, fun k k0 k1 => ?_, l.1, l.2.1, l.2.2⟩
  · rw [zU_ne (by decide), X 0 (by omega)]; exact h0
  · rw [zU_same, X 1 (by omega), h1]; rfl
  · rw [zU_ne (by decide), X 2 (by omega)]; exact h2
  · rw [zU_ne (by decide), X 3 (by omega)]; exact h3
  · rw [zU_ne (by decide), X 4 (by omega)]; exact h4
  · rw [zU_ne (by decide), X 5 (by omega)]; exact h5
  · rw [zU_ne (by decide), X 6 (by omega)]; exact h6
  · have k1 : k < s 7 0 + 1 := k1
    show _ = zU (s 8) (s 7 0) a k ∧ _ = zU (s 9) (s 7 0) b k ∧ _ = zU (s 10) (s 7 0) w k ∧ _ = zU (s 11) (s 7 0) 0 k ∧ _ = zU (s 12) (s 7 0) 0 k
    unfold suM
    rw [zU_ne (j := 307 + 5 * k + 0) (by omega), zU_ne (j := 307 + 5 * k + 1) (by omega), zU_ne (j := 307 + 5 * k + 2) (by omega), zU_ne (j := 307 + 5 * k + 3) (by omega), zU_ne (j := 307 + 5 * k + 4) (by omega)]
    by_cases e : k = s 7 0
    · subst e
      rw [zU_same, zU_same, zU_same, zU_same, zU_same]
      unfold subX
      rw [e1]
      refine ⟨?_, ?_, ?_, ?_, ?_⟩
      · rw [zU_ne (by omega), zU_ne (by omega), zU_ne (by omega), zU_ne (by omega), show 307 + 5 * s 7 0 + 0 = 307 + 5 * s 7 0 by omega, zU_same]
      · rw [zU_ne (by omega), zU_ne (by omega), zU_ne (by omega), zU_same]
      · rw [zU_ne (by omega), zU_ne (by omega), zU_same]
      · rw [zU_ne (by omega), zU_same]
      · rw [zU_same]
    · rw [zU_ne e, zU_ne e, zU_ne e, zU_ne e, zU_ne e, X _ (by omega), X _ (by omega), X _ (by omega), X _ (by omega), X _ (by omega)]
      exact hU k k0 (by omega)
theorem rel_leav (hc : ChS s) (h : RelS N s ms) {i : Int} (hi : 0 ≤ i ∧ i < s 7 0) : RelS N (sLeav s i) (zCpy (zU ms 1 (ms 1 - 1)) (zU ms 1 (ms 1 - 1)) (307 + 5 * i + 5) (307 + 5 * i) (5 * (ms 1 - 1 - i))) := by
  have e1 : ms 1 = s 7 0 := h.1.2.1
  have X : ∀ j, j < 307 + 5 * i → zCpy (zU ms 1 (ms 1 - 1)) (zU ms 1 (ms 1 - 1)) (307 + 5 * i + 5) (307 + 5 * i) (5 * (ms 1 - 1 - i)) j = zU ms 1 (ms 1 - 1) j := fun j hj => by
    unfold zCpy
    rw [if_neg (by omega)]
  have Y : ∀ k x, i ≤ k → k < s 7 0 - 1 → 0 ≤ x → x ≤ 4 → zCpy (zU ms 1 (ms 1 - 1)) (zU ms 1 (ms 1 - 1)) (307 + 5 * i + 5) (307 + 5 * i) (5 * (ms 1 - 1 - i)) (307 + 5 * k + x) = ms (307 + 5 * (k + 1) + x) := fun k x hk hk2 x0 x1 => by
    unfold zCpy
    rw [if_pos (by omega), zU_ne (by omega)]
    congr 1
    omega
  have l := legs_same (s' := sLeav s i) (ms' := zCpy (zU ms 1 (ms 1 - 1)) (zU ms 1 (ms 1 - 1)) (307 + 5 * i + 5) (307 + 5 * i) (5 * (ms 1 - 1 - i))) h (fun j j0 j1 => by rw [X j (by omega), zU_ne (by omega)]) rfl rfl rfl rfl rfl rfl (hin_of hc)
  obtain ⟨⟨h0, h1, h2, h3, h4, h5, h6⟩, hU, -⟩ := h
  refine ⟨⟨?_, ?_, ?_, ?_, ?_, ?_, ?_⟩, fun k k0 k1 => ?_, l.1, l.2.1, l.2.2⟩
  · rw [X 0 (by omega), zU_ne (by decide)]; exact h0
  · rw [X 1 (by omega), zU_same, h1]; rfl
  · rw [X 2 (by omega), zU_ne (by decide)]; exact h2
  · rw [X 3 (by omega), zU_ne (by decide)]; exact h3
  · rw [X 4 (by omega), zU_ne (by decide)]; exact h4
  · rw [X 5 (by omega), zU_ne (by decide)]; exact h5
  · rw [X 6 (by omega), zU_ne (by decide)]; exact h6
  · have k1 : k < s 7 0 - 1 := k1
    show _ = dlf (s 8) i (s 7 0) k ∧ _ = dlf (s 9) i (s 7 0) k ∧ _ = dlf (s 10) i (s 7 0) k ∧ _ = dlf (s 11) i (s 7 0) k ∧ _ = dlf (s 12) i (s 7 0) k
    unfold suM
    by_cases e : k < i
    · rw [dl_lt e, dl_lt e, dl_lt e, dl_lt e, dl_lt e, X _ (by omega), X _ (by omega), X _ (by omega), X _ (by omega), X _ (by omega), zU_ne (by omega), zU_ne (by omega), zU_ne (by omega), zU_ne (by omega), zU_ne (by omega)]
      exact hU k k0 (by omega)
    · rw [dl_ge (by omega) k1, dl_ge (by omega) k1, dl_ge (by omega) k1, dl_ge (by omega) k1, dl_ge (by omega) k1, Y k 0 (by omega) k1 (by decide) (by decide), Y k 1 (by omega) k1 (by decide) (by decide), Y k 2 (by omega) k1 (by decide) (by decide), Y k 3 (by omega) k1 (by decide) (by decide), Y k 4 (by omega) k1 (by decide) (by decide)]
      exact hU (k + 1) (by omega) (by omega)
theorem setL_head {ms : Int → Int} {a b w v j : Int} (ha : 0 ≤ a ∧ a < 10) (hb : 0 ≤ b ∧ b < 10) (hw : 0 ≤ w ∧ w ≤ 2) (hj : j < 7 ∨ 307 ≤ j) : setL ms a b w v j = ms j := setL_lo ha hb hw hj
theorem rel_leg (hc : ChS s) (h : RelS N s ms) (hN : 0 ≤ N) (hp : inP (s 0 0) a b) (hne : a ≠ b) (hw : 1 ≤ w ∧ w ≤ 99) (hr : 1 ≤ r ∧ r ≤ 20) (hn : ¬ hasL (s 1 0) (s 2) (s 3) a b) (hpp : 0 ≤ p ∧ p ≤ s 1 0) : RelS N (sLeg s a b w r p) (setL (setL (setL ms a b 0 w) a b 1 r) a b 2 0) := by
  obtain ⟨ha, hb⟩ := inP_10 hc hp
  have hno := hasL_not hn
  have LG : ∀ c d x, 0 ≤ c → c < 10 → 0 ≤ d → d < 10 → 0 ≤ x → x ≤ 2 → lgM (setL (setL (setL ms a b 0 w) a b 1 r) a b 2 0) c d x = if (c = a ∧ d = b) ∨ (c = b ∧ d = a) then (if x = 0 then w else if x = 1 then r else 0) else lgM ms c d x := by
    intro c d x c0 c1 d0 d1 x0 x1
    rw [lgM_set ha hb ⟨c0, c1⟩ ⟨d0, d1⟩ (by decide) ⟨x0, x1⟩, lgM_set ha hb ⟨c0, c1⟩ ⟨d0, d1⟩ (by decide) ⟨x0, x1⟩, lgM_set ha hb ⟨c0, c1⟩ ⟨d0, d1⟩ (by decide) ⟨x0, x1⟩]
    by_cases e : (c = a ∧ d = b) ∨ (c = b ∧ d = a)
    · rw [if_pos e]
      rcases (show x = 0 ∨ x = 1 ∨ x = 2 by omega) with rfl | rfl | rfl
      · rw [if_neg (by omega), if_neg (by omega), if_pos ⟨rfl, e⟩, if_pos rfl]
      · rw [if_neg (by omega), if_pos ⟨rfl, e⟩, if_neg (by decide), if_pos rfl]
      · rw [if_pos ⟨rfl, e⟩, if_neg (by decide), if_neg (by decide)]
    · rw [if_neg (fun z => e z.2), if_neg (fun z => e z.2), if_neg (fun z => e z.2), if_neg e]
  have HD : ∀ j, j < 7 ∨ 307 ≤ j → setL (setL (setL ms a b 0 w) a b 1 r) a b 2 0 j = ms j := fun j hj => by
    rw [setL_head ha hb (by decide) hj, setL_head ha hb (by decide) hj, setL_head ha hb (by decide) hj]
  have in10 := hin_of hc
  obtain ⟨⟨h0, h1, h2, h3, h4, h5, h6⟩, hU, hA, hB, hC⟩ := h
  have mm : ∀ j, 0 ≤ j → j < s 1 0 → ¬ ((s 2 j = a ∧ s 3 j = b) ∨ (s 2 j = b ∧ s 3 j = a)) := fun j j0 j1 g => by
    have q := ch_in hc j0 j1
    exact hno j j0 j1 (by omega)
  have key : ∀ j, 0 ≤ j → j < s 1 0 + 1 → lgM (setL (setL (setL ms a b 0 w) a b 1 r) a b 2 0) (insF (s 2) p (s 1 0) (min a b) j) (insF (s 3) p (s 1 0) (max a b) j) 0 = insF (s 4) p (s 1 0) w j ∧ lgM (setL (setL (setL ms a b 0 w) a b 1 r) a b 2 0) (insF (s 2) p (s 1 0) (min a b) j) (insF (s 3) p (s 1 0) (max a b) j) 1 = insF (s 5) p (s 1 0) r j ∧ lgM (setL (setL (setL ms a b 0 w) a b 1 r) a b 2 0) (insF (s 2) p (s 1 0) (min a b) j) (insF (s 3) p (s 1 0) (max a b) j) 2 = insF (s 6) p (s 1 0) 0 j := by
    refine ins_all (P := fun x y z u v => lgM (setL (setL (setL ms a b 0 w) a b 1 r) a b 2 0) x y 0 = z ∧ lgM (setL (setL (setL ms a b 0 w) a b 1 r) a b 2 0) x y 1 = u ∧ lgM (setL (setL (setL ms a b 0 w) a b 1 r) a b 2 0) x y 2 = v) hpp (fun j j0 j1 => ?_) ?_
    · have q := in10 j j0 j1
      rw [LG _ _ _ q.1 q.2.1 q.2.2.1 q.2.2.2 (by decide) (by decide), LG _ _ _ q.1 q.2.1 q.2.2.1 q.2.2.2 (by decide) (by decide), LG _ _ _ q.1 q.2.1 q.2.2.1 q.2.2.2 (by decide) (by decide), if_neg (mm j j0 j1), if_neg (mm j j0 j1), if_neg (mm j j0 j1)]
      exact hA j j0 j1
    · have e : (min a b = a ∧ max a b = b) ∨ (min a b = b ∧ max a b = a) := by omega
      rw [LG _ _ _ (by omega) (by omega) (by omega) (by omega) (by decide) (by decide), LG _ _ _ (by omega) (by omega) (by omega) (by omega) (by decide) (by decide), LG _ _ _ (by omega) (by omega) (by omega) (by omega) (by decide) (by decide), if_pos e, if_pos e, if_pos e]
      exact ⟨rfl, rfl, rfl⟩
  refine ⟨⟨?_, ?_, ?_, ?_, ?_, ?_, ?_⟩, fun k k0 k1 => ?_, key, fun c d c0 c1 d0 d1 g => ?_, fun c d c0 c1 d0 d1 => ?_⟩
  · rw [HD 0 (by omega)]; exact h0
  · rw [HD 1 (by omega)]; exact h1
  · rw [HD 2 (by omega)]; exact h2
  · rw [HD 3 (by omega)]; exact h3
  · rw [HD 4 (by omega)]; exact h4
  · rw [HD 5 (by omega)]; exact h5
  · rw [HD 6 (by omega)]; exact h6
  · unfold suM
    rw [HD _ (by omega), HD _ (by omega), HD _ (by omega), HD _ (by omega), HD _ (by omega)]
    exact hU k k0 k1
  · show ∃ j, 0 ≤ j ∧ j < s 1 0 + 1 ∧ ((insF (s 2) p (s 1 0) (min a b) j = c ∧ insF (s 3) p (s 1 0) (max a b) j = d) ∨ (insF (s 2) p (s 1 0) (min a b) j = d ∧ insF (s 3) p (s 1 0) (max a b) j = c))
    by_cases e : (c = a ∧ d = b) ∨ (c = b ∧ d = a)
    · refine ⟨p, hpp.1, by omega, ?_⟩
      rw [ins_eq, ins_eq]
      omega
    · rw [LG c d 0 c0 c1 d0 d1 (by decide) (by decide), if_neg e] at g
      obtain ⟨j, j0, j1, j2⟩ := hB c d c0 c1 d0 d1 g
      by_cases q : j < p
      · exact ⟨j, j0, by omega, by rw [ins_lt q, ins_lt q]; exact j2⟩
      · exact ⟨j + 1, by omega, by omega, by rw [ins_gt (by omega) (by omega), ins_gt (by omega) (by omega), show j + 1 - 1 = j by omega]; exact j2⟩
  · have q := hC c d c0 c1 d0 d1
    rw [LG c d 0 c0 c1 d0 d1 (by decide) (by decide), LG c d 1 c0 c1 d0 d1 (by decide) (by decide), LG c d 2 c0 c1 d0 d1 (by decide) (by decide)]
    refine ⟨fun x x0 x1 => ?_, ?_⟩
    · rw [LG c d x c0 c1 d0 d1 x0 x1, LG d c x d0 d1 c0 c1 x0 x1]
      by_cases e : (c = a ∧ d = b) ∨ (c = b ∧ d = a)
      · rw [if_pos e, if_pos (show (d = a ∧ c = b) ∨ (d = b ∧ c = a) by omega)]
      · rw [if_neg e, if_neg (show ¬ ((d = a ∧ c = b) ∨ (d = b ∧ c = a)) by omega)]
        exact q.1 x x0 x1
    · by_cases e : (c = a ∧ d = b) ∨ (c = b ∧ d = a)
      · rw [if_pos e, if_pos e, if_pos e, if_pos rfl, if_neg (by decide), if_pos rfl, if_neg (by decide), if_neg (by decide)]
        omega
      · rw [if_neg e, if_neg e, if_neg e]
        exact q.2
theorem rel_cut (hc : ChS s) (hu : ChW s) (h : RelS N s ms) (hp : inP (s 0 0) a b) (hpp : 0 ≤ p ∧ p < s 1 0 ∧ s 2 p = min a b ∧ s 3 p = max a b) : RelS N (sCut s p) (setL ms a b 0 0) := by
  obtain ⟨ha, hb⟩ := inP_10 hc hp
  obtain ⟨p0, p1, p2, p3⟩ := hpp
  have LG : ∀ c d x, 0 ≤ c → c < 10 → 0 ≤ d → d < 10 → 0 ≤ x → x ≤ 2 → lgM (setL ms a b 0 0) c d x = if x = 0 ∧ ((c = a ∧ d = b) ∨ (c = b ∧ d = a)) then 0 else lgM ms c d x := fun c d x c0 c1 d0 d1 x0 x1 => lgM_set ha hb ⟨c0, c1⟩ ⟨d0, d1⟩ (by decide) ⟨x0, x1⟩
  have HD : ∀ j, j < 7 ∨ 307 ≤ j → setL ms a b 0 0 j = ms j := fun j hj => setL_head ha hb (by decide) hj
  have in10 := hin_of hc
  obtain ⟨⟨h0, h1, h2, h3, h4, h5, h6⟩, hU, hA, hB, hC⟩ := h
  have mm : ∀ j, 0 ≤ j → j < s 1 0 → j ≠ p → ¬ ((s 2 j = a ∧ s 3 j = b) ∨ (s 2 j = b ∧ s 3 j = a)) := fun j j0 j1 jp g => by
    have q := ch_in hc j0 j1
    exact jp (hu j p j0 j1 p0 p1 (by omega) (by omega))
  have one : ∀ j, 0 ≤ j → j < s 1 0 → j ≠ p → lgM (setL ms a b 0 0) (s 2 j) (s 3 j) 0 = s 4 j ∧ lgM (setL ms a b 0 0) (s 2 j) (s 3 j) 1 = s 5 j ∧ lgM (setL ms a b 0 0) (s 2 j) (s 3 j) 2 = s 6 j := fun j j0 j1 jp => by
    have q := in10 j j0 j1
    rw [LG _ _ _ q.1 q.2.1 q.2.2.1 q.2.2.2 (by decide) (by decide), LG _ _ _ q.1 q.2.1 q.2.2.1 q.2.2.2 (by decide) (by decide), LG _ _ _ q.1 q.2.1 q.2.2.1 q.2.2.2 (by decide) (by decide), if_neg (fun z => mm j j0 j1 jp z.2), if_neg (fun z => mm j j0 j1 jp z.2), if_neg (fun z => mm j j0 j1 jp z.2)]
    exact hA j j0 j1
  refine ⟨⟨?_, ?_, ?_, ?_, ?_, ?_, ?_⟩, fun k k0 k1 => ?_, fun j j0 j1 => ?_, fun c d c0 c1 d0 d1 g => ?_, fun c d c0 c1 d0 d1 => ?_⟩
  · rw [HD 0 (by omega)]; exact h0
  · rw [HD 1 (by omega)]; exact h1
  · rw [HD 2 (by omega)]; exact h2
  · rw [HD 3 (by omega)]; exact h3
  · rw [HD 4 (by omega)]; exact h4
  · rw [HD 5 (by omega)]; exact h5
  · rw [HD 6 (by omega)]; exact h6
  · unfold suM
    rw [HD _ (by omega), HD _ (by omega), HD _ (by omega), HD _ (by omega), HD _ (by omega)]
    exact hU k k0 k1
  · have j1 : j < s 1 0 - 1 := j1
    show lgM (setL ms a b 0 0) (dlf (s 2) p (s 1 0) j) (dlf (s 3) p (s 1 0) j) 0 = dlf (s 4) p (s 1 0) j ∧ lgM (setL ms a b 0 0) (dlf (s 2) p (s 1 0) j) (dlf (s 3) p (s 1 0) j) 1 = dlf (s 5) p (s 1 0) j ∧ lgM (setL ms a b 0 0) (dlf (s 2) p (s 1 0) j) (dlf (s 3) p (s 1 0) j) 2 = dlf (s 6) p (s 1 0) j
    by_cases q : j < p
    · rw [dl_lt q, dl_lt q, dl_lt q, dl_lt q, dl_lt q]
      exact one j j0 (by omega) (by omega)
    · rw [dl_ge (by omega) j1, dl_ge (by omega) j1, dl_ge (by omega) j1, dl_ge (by omega) j1, dl_ge (by omega) j1]
      exact one (j + 1) (by omega) (by omega) (by omega)
  · show ∃ j, 0 ≤ j ∧ j < s 1 0 - 1 ∧ ((dlf (s 2) p (s 1 0) j = c ∧ dlf (s 3) p (s 1 0) j = d) ∨ (dlf (s 2) p (s 1 0) j = d ∧ dlf (s 3) p (s 1 0) j = c))
    rw [LG c d 0 c0 c1 d0 d1 (by decide) (by decide)] at g
    by_cases e : (c = a ∧ d = b) ∨ (c = b ∧ d = a)
    · rw [if_pos ⟨rfl, e⟩] at g
      exact absurd g (by decide)
    · rw [if_neg (fun z => e z.2)] at g
      obtain ⟨j, j0, j1, j2⟩ := hB c d c0 c1 d0 d1 g
      have jp : j ≠ p := fun z => by
        subst z
        exact e (by omega)
      by_cases q : j < p
      · exact ⟨j, j0, by omega, by rw [dl_lt q, dl_lt q]; exact j2⟩
      · exact ⟨j - 1, by omega, by omega, by rw [dl_ge (by omega) (by omega), dl_ge (by omega) (by omega), show j - 1 + 1 = j by omega]; exact j2⟩
  · have q := hC c d c0 c1 d0 d1
    rw [LG c d 0 c0 c1 d0 d1 (by decide) (by decide), LG c d 1 c0 c1 d0 d1 (by decide) (by decide), LG c d 2 c0 c1 d0 d1 (by decide) (by decide)]
    refine ⟨fun x x0 x1 => ?_, ?_, ?_, ?_⟩
    · rw [LG c d x c0 c1 d0 d1 x0 x1, LG d c x d0 d1 c0 c1 x0 x1]
      by_cases e : x = 0 ∧ ((c = a ∧ d = b) ∨ (c = b ∧ d = a))
      · rw [if_pos e, if_pos (show x = 0 ∧ ((d = a ∧ c = b) ∨ (d = b ∧ c = a)) by omega)]
      · rw [if_neg e, if_neg (show ¬ (x = 0 ∧ ((d = a ∧ c = b) ∨ (d = b ∧ c = a))) by omega)]
        exact q.1 x x0 x1
    · split
      · exact Int.le_refl _
      · exact q.2.1
    · rw [if_neg (by omega)]; exact q.2.2.1
    · rw [if_neg (by omega)]; exact q.2.2.2
theorem rel_nig (hv : SVk B N s) (h : RelS N s ms) {tp nd sh t nd' : Int → Int} {g : Int} (ht : agT tp t nd nd') (hs : isSh tp nd sh) (hg : isGr t nd' g) (hn : nigM ms t nd' g ms') : RelS (N + 1) (sNig s tp sh g) ms' := by
  obtain ⟨m0, ⟨k1, k2, k3, k4⟩, ⟨n0, n1, n2, n3, n4, n5⟩, n6⟩ := hn
  have hc : ChS s := hv.1
  have hc6 : 0 ≤ s 7 0 ∧ s 7 0 ≤ 6 := hv.2.2.2.1
  have in10 := hin_of hc
  obtain ⟨⟨h0, h1, h2, h3, h4, h5, h6⟩, hU, hA, hB, hC⟩ := h
  have lg0 : ∀ c d x, 0 ≤ c → c < 10 → 0 ≤ d → d < 10 → 0 ≤ x → x ≤ 2 → lgM m0 c d x = lgM ms c d x := fun c d x c0 c1 d0 d1 x0 x1 => k1 _ (Or.inr ⟨by omega, by omega⟩)
  have eSh : ∀ j, 0 ≤ j → j < 6 → nSh tp sh j = shN t nd' j := fun j j0 j1 => rel_sh ht hs j0 j1
  have eBk : ∀ j, 0 ≤ j → j < 6 → nBk (s 15 0) tp sh j = bkN (ms 2) t nd' j := fun j j0 j1 => by
    unfold nBk bkN
    rw [h2, eSh j j0 j1]
  refine ⟨⟨?_, ?_, ?_, ?_, ?_, ?_, ?_⟩, fun k kk0 kk1 => ?_, fun j j0 j1 => ?_, fun c d c0 c1 d0 d1 q => ?_, fun c d c0 c1 d0 d1 => ?_⟩
  · rw [n0, k1 0 (Or.inl (by decide))]; exact h0
  · rw [n1, k1 1 (Or.inl (by decide))]; exact h1
  · rw [n2, k1 2 (Or.inl (by decide)), h2]
    show max 0 (s 15 0 - 1) = if 0 < s 15 0 then s 15 0 - 1 else s 15 0
    have := hv.2.2.2.2.2.1.2.2
    split <;> omega
  · rw [n3]; rfl
  · rw [n4, k1 4 (Or.inl (by decide)), h4]; rfl
  · rw [n5 5 (Or.inr (Or.inl rfl)), k2, h5, h1]
    show _ = s 16 0 + sm (fun j => nSh tp sh j - nBk (s 15 0) tp sh j) (s 7 0).toNat
    congr 1
    refine sm_upto (fun j j0 j1 => ?_)
    show shN t nd' j - bkN (ms 2) t nd' j = nSh tp sh j - nBk (s 15 0) tp sh j
    rw [eSh j j0 (by omega), eBk j j0 (by omega)]
  · rw [n5 6 (Or.inr (Or.inr rfl)), k3, h6, h1]
    show _ = s 17 0 + sm (nBk (s 15 0) tp sh) (s 7 0).toNat
    congr 1
    exact sm_upto (fun j j0 j1 => (eBk j j0 (by omega)).symm)
  · have kk1 : k < s 7 0 := kk1
    have q := k4 k kk0 (by omega)
    have q2 := q.2.2.1 (by omega)
    have u := hU k kk0 kk1
    have e : ∀ x, 0 ≤ x → suM ms' k x = suM m0 k x := fun x x0 => n5 _ (Or.inl (by omega))
    show suM ms' k 0 = s 8 k ∧ suM ms' k 1 = s 9 k ∧ suM ms' k 2 = updTo (s 7 0) (s 10) (fun j => s 10 j - nSh tp sh j + nBk (s 15 0) tp sh j) k ∧ suM ms' k 3 = updTo (s 7 0) (s 11) (fun j => s 11 j + tp j) k ∧ suM ms' k 4 = updTo (s 7 0) (s 12) (fun j => s 12 j + (1 - tp j)) k
    rw [e 0 (by decide), e 1 (by decide), e 2 (by decide), e 3 (by decide), e 4 (by decide), updTo_in ⟨kk0, kk1⟩, updTo_in ⟨kk0, kk1⟩, updTo_in ⟨kk0, kk1⟩, q.1, q.2.1, q2.1, q2.2.1, q2.2.2, u.1, u.2.1, u.2.2.1, u.2.2.2.1, u.2.2.2.2]
    have a1 := eSh k kk0 (by omega)
    have a2 := eBk k kk0 (by omega)
    have a3 := (ht k kk0 (by omega)).1
    refine ⟨rfl, rfl, ?_, ?_, ?_⟩
    · show _ = s 10 k - nSh tp sh k + nBk (s 15 0) tp sh k
      rw [a1, a2]
    · show _ = s 11 k + tp k
      rw [a3]
    · show _ = s 12 k + (1 - tp k)
      rw [a3]
  · have q := in10 j j0 j1
    have c := ch_in hc j0 j1
    have z := n6 (s 2 j) (s 3 j) q.1 q.2.1 q.2.2.1 q.2.2.2
    have u := hA j j0 j1
    rw [lg0 _ _ _ q.1 q.2.1 q.2.2.1 q.2.2.2 (by decide) (by decide), lg0 _ _ _ q.1 q.2.1 q.2.2.1 q.2.2.2 (by decide) (by decide), lg0 _ _ _ q.1 q.2.1 q.2.2.1 q.2.2.2 (by decide) (by decide), u.1, u.2.1, u.2.2] at z
    show lgM ms' (s 2 j) (s 3 j) 0 = s 4 j ∧ lgM ms' (s 2 j) (s 3 j) 1 = s 5 j ∧ lgM ms' (s 2 j) (s 3 j) 2 = mtUp (s 1 0) (s 5) g (s 6) j
    refine ⟨z.1, z.2.1, z.2.2.trans ?_⟩
    unfold mtUp
    have j1 : j < s 1 0 := j1
    by_cases e : s 5 j ≤ g
    · rw [if_pos ⟨by omega, by omega, e⟩, if_pos (by omega)]
    · rw [if_neg (fun y => e y.2.2), if_neg (by omega)]
  · rw [(n6 c d c0 c1 d0 d1).1, lg0 c d 0 c0 c1 d0 d1 (by decide) (by decide)] at q
    exact hB c d c0 c1 d0 d1 q
  · have z := n6 c d c0 c1 d0 d1
    have y := n6 d c d0 d1 c0 c1
    have q := hC c d c0 c1 d0 d1
    rw [lg0 c d 0 c0 c1 d0 d1 (by decide) (by decide), lg0 c d 1 c0 c1 d0 d1 (by decide) (by decide), lg0 c d 2 c0 c1 d0 d1 (by decide) (by decide)] at z
    rw [lg0 d c 0 d0 d1 c0 c1 (by decide) (by decide), lg0 d c 1 d0 d1 c0 c1 (by decide) (by decide), lg0 d c 2 d0 d1 c0 c1 (by decide) (by decide)] at y
    have w0 := q.1 0 (by decide) (by decide)
    have w1 := q.1 1 (by decide) (by decide)
    have w2 := q.1 2 (by decide) (by decide)
    refine ⟨fun x x0 x1 => ?_, by omega, by omega, ?_⟩
    · rcases (show x = 0 ∨ x = 1 ∨ x = 2 by omega) with rfl | rfl | rfl
      · omega
      · omega
      · rw [z.2.2, y.2.2, ← w0, ← w1, ← w2]
        by_cases e : c ≠ d ∧ 0 < lgM ms c d 0 ∧ lgM ms c d 1 ≤ g
        · rw [if_pos e, if_pos ⟨fun x => e.1 x.symm, e.2⟩]
        · rw [if_neg e, if_neg (fun x => e ⟨fun y => x.1 y.symm, x.2⟩)]
    · rw [z.2.2]
      split <;> omega
end
