/-! ===== p57: a state in order; what a call leaves ===== -/
def NvK (s : Nat → Int → Int) : Prop := (∀ j, 0 ≤ j → j < s 1 0 → s 6 j ≤ s 14 0) ∧ ∀ j, 0 ≤ j → j < s 7 0 → s 11 j + s 12 j ≤ s 14 0
theorem NvK_eff {B N : Int} {c : Nat} {a b x y : Int} {s s' : Nat → Int → Int} (h : SVk B N s) (hn : NvK s) (hf : fltC (s 0 0) (s 1 0) (s 2) (s 3) (s 7 0) (sE s) c a b x y 0) (he : effC c a b x y s s') : NvK s' := by
  have n0 : 0 ≤ s 14 0 := h.2.2.2.2.2.1.2.1.1
  have c6 := h.2.2.2.1
  obtain ⟨n1, n2⟩ := hn
  rcases he with ⟨hc, rfl⟩ | ⟨hc, p, h0, h1, h2, rfl⟩ | ⟨hc, p, h0, rfl⟩ | ⟨hc, rfl⟩ | ⟨hc, rfl⟩ | ⟨hc, rfl⟩ | ⟨hc, rfl⟩ | ⟨hc, tp, nd, sh, g, h1, h2, rfl⟩
  · exact ⟨n1, n2⟩
  · refine ⟨?_, n2⟩
    exact ins_all (P := fun x _ _ _ _ => x ≤ s 14 0) (f2 := s 2) (f3 := s 2) (f4 := s 2) (f5 := s 2) (v2 := 0) (v3 := 0) (v4 := 0) (v5 := 0) h0 n1 n0
  · refine ⟨?_, n2⟩
    exact dl_all (P := fun x _ _ _ _ => x ≤ s 14 0) (f2 := s 2) (f3 := s 2) (f4 := s 2) (f5 := s 2) ⟨h0.1, h0.2.1⟩ n1
  · refine ⟨n1, fun j j0 j1 => ?_⟩
    have j1' : j < s 7 0 + 1 := j1
    show zU (s 11) (s 7 0) 0 j + zU (s 12) (s 7 0) 0 j ≤ s 14 0
    by_cases e : j = s 7 0
    · rw [e, zU_same, zU_same]
      omega
    · rw [zU_ne e, zU_ne e]
      exact n2 j j0 (by omega)
  · exact ⟨n1, n2⟩
  · have f := fltC_z5 hc hf
    refine ⟨n1, ?_⟩
    exact dl_all (P := fun x y _ _ _ => x + y ≤ s 14 0) (f3 := s 2) (f4 := s 2) (f5 := s 2) (by rcases f with f | f <;> omega) n2
  · exact ⟨n1, n2⟩
  · refine ⟨fun j j0 j1 => ?_, fun j j0 j1 => ?_⟩
    · have j1' : j < s 1 0 := j1
      have := n1 j j0 j1'
      show mtUp (s 1 0) (s 5) g (s 6) j ≤ s 14 0 + 1
      unfold mtUp
      split <;> omega
    · have j1' : j < s 7 0 := j1
      have := n2 j j0 j1'
      show updTo (s 7 0) (s 11) (fun j => s 11 j + tp j) j + updTo (s 7 0) (s 12) (fun j => s 12 j + (1 - tp j)) j ≤ s 14 0 + 1
      rw [updTo_in ⟨j0, j1'⟩, updTo_in ⟨j0, j1'⟩]
      omega
def OKs (B N : Int) (v : Nat → Int → Int) : Prop := SVk B N v ∧ NvK v
theorem OKs_mono {B N B' N' : Int} {v : Nat → Int → Int} (h : OKs B N v) (hB : B ≤ B') (hN : N ≤ N') : OKs B' N' v := ⟨SVk_mono h.1 hB hN, h.2⟩
theorem OKs_eff {B N : Int} {c : Nat} {a b x y : Int} {s s' : Nat → Int → Int} (h : OKs B N s) (hB : 0 ≤ B) (hN : 0 ≤ N) (hf : fltC (s 0 0) (s 1 0) (s 2) (s 3) (s 7 0) (sE s) c a b x y 0) (he : effC c a b x y s s') : OKs (B + 9999) (N + 1) s' := ⟨SVk_eff h.1 hN hB hf he, NvK_eff h.1 h.2 hf he⟩
theorem OKs_run {txt : Int → Int} {len : Int} : ∀ {n : Nat} {B N : Int} {s s' : Nat → Int → Int}, OKs B N s → 0 ≤ B → 0 ≤ N → runC txt len n s s' → OKs (B + 9999 * n) (N + n) s'
  | 0, B, N, s, s', h, hB, hN, hr => by
    have e : s' = s := hr
    rw [e]
    exact OKs_mono h (by omega) (by omega)
  | n + 1, B, N, s, s', h, hB, hN, hr => by
    obtain ⟨q, h1, h2⟩ := hr
    have ih := OKs_run h hB hN h1
    exact OKs_mono (OKs_eff ih (by omega) (by omega) h2.1 h2.2) (by omega) (by omega)
def OKG (B N : Int) (g : GL) : Prop := OKs B N (GL_v g) ∧ (0 ≤ GL_hn g ∧ GL_hn g < 8) ∧ (0 ≤ GL_hc g ∧ GL_hc g ≤ 8) ∧ (0 ≤ GL_len g ∧ GL_len g ≤ 60) ∧ (∀ j, 0 ≤ j → j < GL_len g → 0 ≤ GL_txt g j ∧ GL_txt g j ≤ 65535) ∧ (∀ j, 0 ≤ j → j < 4 → 0 ≤ GL_vals g j ∧ GL_vals g j ≤ 9999) ∧ (0 ≤ GL_cmd g ∧ GL_cmd g < 8) ∧ (0 ≤ GL_lct g ∧ GL_lct g ≤ 16) ∧ (∀ j, 0 ≤ j → j < GL_lct g → 0 ≤ GL_lnb g j ∧ GL_lnb g j ≤ 127)
theorem OKG_mono {B N B' N' : Int} {g : GL} (h : OKG B N g) (hB : B ≤ B') (hN : N ≤ N') : OKG B' N' g := ⟨OKs_mono h.1 hB hN, h.2⟩
/-- the state as its own copy -/
def eSv (v : Nat → Int → Int) : Nat → Int → Int := mkS (v 0 0) (v 1 0) (v 2) (v 3) (v 4) (v 5) (v 6) (v 7 0) (v 8) (v 9) (v 10) (v 11) (v 12) (v 13 0) (v 14 0) (v 15 0) (v 16 0) (v 17 0) (v 18 0)
/-- nothing that can be asked for has changed, the written line apart -/
def RDO (B N : Int) (g g' : GL) : Prop := OKG B N g' ∧ GL_v g' = GL_v g ∧ GL_hc g' = GL_hc g ∧ GL_hn g' = GL_hn g ∧ GL_hs g' = GL_hs g
theorem RDO_refl {B N : Int} {g : GL} (h : OKG B N g) : RDO B N g g := ⟨h, rfl, rfl, rfl, rfl⟩
theorem RDO_trans {B N B' N' : Int} {g g1 g2 : GL} (h1 : RDO B N g g1) (h2 : RDO B' N' g1 g2) : RDO B' N' g g2 := ⟨h2.1, h2.2.1.trans h1.2.1, h2.2.2.1.trans h1.2.2.1, h2.2.2.2.1.trans h1.2.2.2.1, h2.2.2.2.2.trans h1.2.2.2.2⟩
/-- one state more can be brought back -/
def PSH (g g' : GL) : Prop := GL_hc g' = min (GL_hc g + 1) 8 ∧ GL_hn g' = (if GL_hn g < 7 then GL_hn g + 1 else 0) ∧ GL_hs g' = hsU (GL_hs g) (Int.toNat (GL_hn g)) (eSv (GL_v g))
def DID (B N : Int) (g g' : GL) : Prop := OKG (B + 600000) (N + 60) g' ∧ PSH g g'
/-- the states that undo brings back, the last first -/
def HtS (g : GL) (L : List (Nat → Int → Int)) : Prop := (L.length : Int) ≤ GL_hc g ∧ ∀ (j : Nat) (x : Nat → Int → Int), L[j]? = some x → GL_hs g (Int.toNat ((GL_hn g - 1 - (j : Int)) % 8)) = x
theorem HtS_rd {B N : Int} {g g' : GL} {L : List (Nat → Int → Int)} (h : HtS g L) (r : RDO B N g g') : HtS g' L := by
  obtain ⟨-, -, e1, e2, e3⟩ := r
  unfold HtS
  rw [e1, e2, e3]
  exact h
theorem HtS_0 {B N : Int} {g : GL} (h : OKG B N g) : HtS g [] := ⟨h.2.2.1.1, fun j x hx => by rw [List.getElem?_nil] at hx; cases hx⟩
theorem HtS_push {g g' : GL} {L : List (Nat → Int → Int)} (hhn : 0 ≤ GL_hn g ∧ GL_hn g < 8) (hL : L.length ≤ 7) (h : HtS g L) (hp : PSH g g') : HtS g' (eSv (GL_v g) :: L) := by
  obtain ⟨e1, e2, e3⟩ := hp
  have hn' : (if GL_hn g < 7 then GL_hn g + 1 else 0) = (GL_hn g + 1) % 8 := by
    by_cases q : GL_hn g < 7
    · rw [if_pos q]; omega
    · rw [if_neg q]; omega
  refine ⟨?_, fun j x hx => ?_⟩
  · rw [e1]
    have h1 := h.1
    rw [List.length_cons]
    omega
  · rw [e2, e3, hn']
    unfold hsU
    cases j with
    | zero =>
      rw [List.getElem?_cons_zero] at hx
      rw [if_pos (by omega)]
      exact Option.some.inj hx
    | succ j =>
      rw [List.getElem?_cons_succ] at hx
      have hj : j < L.length := (List.getElem?_eq_some_iff.mp hx).1
      rw [if_neg (by omega), show ((GL_hn g + 1) % 8 - 1 - ((j + 1 : Nat) : Int)) % 8 = (GL_hn g - 1 - (j : Int)) % 8 by omega]
      exact h.2 j x hx
theorem HtS_pop {g g' : GL} {x : Nat → Int → Int} {L : List (Nat → Int → Int)} (h : HtS g (x :: L)) (e1 : GL_hc g' = GL_hc g - 1) (e2 : GL_hn g' = (if 0 < GL_hn g then GL_hn g - 1 else 7)) (e3 : GL_hs g' = GL_hs g) (hhn : 0 ≤ GL_hn g ∧ GL_hn g < 8) : HtS g' L := by
  have hn' : (if 0 < GL_hn g then GL_hn g - 1 else 7) = (GL_hn g - 1) % 8 := by
    by_cases q : 0 < GL_hn g
    · rw [if_pos q]; omega
    · rw [if_neg q]; omega
  refine ⟨?_, fun j y hy => ?_⟩
  · have h1 := h.1
    rw [List.length_cons] at h1
    rw [e1]
    omega
  · rw [e2, e3, hn', show ((GL_hn g - 1) % 8 - 1 - (j : Int)) % 8 = (GL_hn g - 1 - ((j + 1 : Nat) : Int)) % 8 by omega]
    exact h.2 (j + 1) y (by rw [List.getElem?_cons_succ]; exact hy)
theorem HtS_top {g : GL} {x : Nat → Int → Int} {L : List (Nat → Int → Int)} (h : HtS g (x :: L)) (hhn : 0 ≤ GL_hn g ∧ GL_hn g < 8) : 1 ≤ GL_hc g ∧ GL_hs g (Int.toNat (if 0 < GL_hn g then GL_hn g - 1 else 7)) = x := by
  have hn' : (if 0 < GL_hn g then GL_hn g - 1 else 7) = (GL_hn g - 1) % 8 := by
    by_cases q : 0 < GL_hn g
    · rw [if_pos q]; omega
    · rw [if_neg q]; omega
  have h1 := h.1
  rw [List.length_cons] at h1
  refine ⟨by omega, ?_⟩
  rw [hn']
  have h2 := h.2 0 x (by rw [List.getElem?_cons_zero])
  rw [show (GL_hn g - 1 - ((0 : Nat) : Int)) % 8 = (GL_hn g - 1) % 8 by omega] at h2
  exact h2
