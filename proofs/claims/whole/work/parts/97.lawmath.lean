/-! ===== what holds between the class and the reference, call by call ===== -/
abbrev etS (s : Nat → Int → Int) : Nat → Int → Int := mkS (s 0 0) (s 1 0) (s 2) (s 3) (s 4) (s 5) (s 6) (s 7 0) (s 8) (s 9) (s 10) (s 11) (s 12) (s 13 0) (s 14 0) (s 15 0) (s 16 0) (s 17 0) (s 18 0)
def rI (hn k : Int) : Nat := (if k < hn then hn - 1 - k else hn + 7 - k).toNat
def LSr (B N : Int) (s : Nat → Int → Int) (ms : Int → Int) : Prop := SVk B N s ∧ RelS N s ms
def HiR (B N : Int) (hs : Nat → Nat → Int → Int) (hn hc : Int) (past : Int → Int) : Prop := ∀ k, 0 ≤ k → k < hc → LSr B N (hs (rI hn k)) (fun j => past (337 * (hc - 1 - k) + j))
theorem LSr_mono {B N B' N' : Int} {s : Nat → Int → Int} {ms : Int → Int} (h : LSr B N s ms) (hB : B ≤ B') (hN : N ≤ N') : LSr B' N' s ms := ⟨SVk_mono h.1 hB hN, RelS_mono h.2 hN⟩
theorem HiR_mono {B N B' N' : Int} {hs : Nat → Nat → Int → Int} {hn hc : Int} {past : Int → Int} (h : HiR B N hs hn hc past) (hB : B ≤ B') (hN : N ≤ N') : HiR B' N' hs hn hc past := fun k k0 k1 => LSr_mono (h k k0 k1) hB hN
theorem RelS_cg {N : Int} {s : Nat → Int → Int} {ms ms' : Int → Int} (e : ∀ j, 0 ≤ j → j < 337 → ms' j = ms j) (h : RelS N s ms) (h6 : s 7 0 ≤ 6) (hin : ∀ j, 0 ≤ j → j < s 1 0 → 0 ≤ s 2 j ∧ s 2 j < 10 ∧ 0 ≤ s 3 j ∧ s 3 j < 10) : RelS N s ms' := by
  have l := legs_same (s' := s) (ms' := ms') h (fun j j0 j1 => e j (by omega) (by omega)) rfl rfl rfl rfl rfl rfl hin
  obtain ⟨⟨h0, h1, h2, h3, h4, h5, h6'⟩, hU, -⟩ := h
  refine ⟨⟨?_, ?_, ?_, ?_, ?_, ?_, ?_⟩, fun k k0 k1 => ?_, l.1, l.2.1, l.2.2⟩
  · rw [e 0 (by decide) (by decide)]; exact h0
  · rw [e 1 (by decide) (by decide)]; exact h1
  · rw [e 2 (by decide) (by decide)]; exact h2
  · rw [e 3 (by decide) (by decide)]; exact h3
  · rw [e 4 (by decide) (by decide)]; exact h4
  · rw [e 5 (by decide) (by decide)]; exact h5
  · rw [e 6 (by decide) (by decide)]; exact h6'
  · unfold suM
    rw [e _ (by omega) (by omega), e _ (by omega) (by omega), e _ (by omega) (by omega), e _ (by omega) (by omega), e _ (by omega) (by omega)]
    exact hU k k0 k1
theorem LSr_cg {B N : Int} {s : Nat → Int → Int} {ms ms' : Int → Int} (e : ∀ j, 0 ≤ j → j < 337 → ms' j = ms j) (h : LSr B N s ms) : LSr B N s ms' := ⟨h.1, RelS_cg e h.2 h.1.2.2.2.1.2 (hin_of h.1.1)⟩
theorem LS_eta {B N : Int} {s : Nat → Int → Int} {ms : Int → Int} (h : LSr B N s ms) : LSr B N (etS s) ms := h
theorem rI_0 {hn : Int} (h : 0 ≤ hn ∧ hn < 8) : rI (if hn < 7 then hn + 1 else 0) 0 = Int.toNat hn := by
  unfold rI
  by_cases g : hn < 7
  · rw [if_pos g, if_pos (by omega), show hn + 1 - 1 - 0 = hn by omega]
  · rw [if_neg g, if_neg (by decide), show (0 : Int) + 7 - 0 = hn by omega]
theorem rI_s {hn k : Int} (h : 0 ≤ hn ∧ hn < 8) (hk : 1 ≤ k ∧ k ≤ 7) : rI (if hn < 7 then hn + 1 else 0) k = rI hn (k - 1) ∧ rI hn (k - 1) ≠ Int.toNat hn := by
  unfold rI
  by_cases g : hn < 7
  · rw [if_pos g]
    by_cases a : k < hn + 1
    · rw [if_pos a, if_pos (show k - 1 < hn by omega)]; omega
    · rw [if_neg a, if_neg (show ¬ k - 1 < hn by omega)]; omega
  · rw [if_neg g, if_neg (show ¬ k < 0 by omega), if_pos (show k - 1 < hn by omega)]; omega
theorem hist_push {B N : Int} {hs : Nat → Nat → Int → Int} {hn hc : Int} {past bef : Int → Int} {s : Nat → Int → Int} (hh : 0 ≤ hn ∧ hn < 8) (hc8 : 0 ≤ hc ∧ hc ≤ 8) (h : HiR B N hs hn hc past) (hs0 : LSr B N s bef) : HiR B N (hsU hs (Int.toNat hn) (etS s)) (if hn < 7 then hn + 1 else 0) (min (hc + 1) 8) (pastP bef hc past) := by
  intro k k0 k1
  by_cases e : k = 0
  · subst e
    rw [rI_0 hh]
    have e1 : hsU hs (Int.toNat hn) (etS s) (Int.toNat hn) = etS s := if_pos rfl
    rw [e1]
    refine LS_eta (LSr_cg (fun j j0 j1 => ?_) hs0)
    unfold pastP
    by_cases g : hc = 8
    · rw [if_pos g]
      unfold zCpy
      rw [if_pos (by omega)]
      congr 1; omega
    · rw [if_neg g]
      unfold zCpy
      rw [if_pos (by omega)]
      congr 1; omega
  · obtain ⟨r1, r2⟩ := rI_s hh (k := k) (by omega)
    rw [r1]
    have e1 : hsU hs (Int.toNat hn) (etS s) (rI hn (k - 1)) = hs (rI hn (k - 1)) := if_neg r2
    rw [e1]
    refine LSr_cg (fun j j0 j1 => ?_) (h (k - 1) (by omega) (by omega))
    unfold pastP
    by_cases g : hc = 8
    · rw [if_pos g]
      unfold zCpy
      rw [if_neg (by omega), if_pos (by omega)]
      congr 1; omega
    · rw [if_neg g]
      unfold zCpy
      rw [if_neg (by omega)]
      congr 1; omega
theorem rI_p {hn k : Int} (h : 0 ≤ hn ∧ hn < 8) (hk : 0 ≤ k ∧ k ≤ 6) : rI (if 0 < hn then hn - 1 else 7) k = rI hn (k + 1) := by
  unfold rI
  by_cases g : 0 < hn
  · rw [if_pos g]
    by_cases a : k < hn - 1
    · rw [if_pos a, if_pos (show k + 1 < hn by omega)]; omega
    · rw [if_neg a, if_neg (show ¬ k + 1 < hn by omega)]; omega
  · rw [if_neg g]
    by_cases a : k < 7
    · rw [if_pos a, if_neg (show ¬ k + 1 < hn by omega)]; omega
    · exfalso; omega
theorem hist_pop {B N : Int} {hs : Nat → Nat → Int → Int} {hn hc : Int} {past ms : Int → Int} (hh : 0 ≤ hn ∧ hn < 8) (hc8 : 1 ≤ hc ∧ hc ≤ 8) (h : HiR B N hs hn hc past) : LSr B N (etS (hs (Int.toNat (if 0 < hn then hn - 1 else 7)))) (undM hc past ms) ∧ HiR B N hs (if 0 < hn then hn - 1 else 7) (hc - 1) past := by
  constructor
  · have q := h 0 (by omega) (by omega)
    have e : rI hn 0 = Int.toNat (if 0 < hn then hn - 1 else 7) := by
      unfold rI
      by_cases g : 0 < hn
      · rw [if_pos g, if_pos g, show hn - 1 - 0 = hn - 1 by omega]
      · rw [if_neg g, if_neg g, show hn + 7 - 0 = 7 by omega]
    rw [e] at q
    refine LS_eta (LSr_cg (fun j j0 j1 => ?_) q)
    unfold undM zCpy
    rw [if_neg (by omega), if_pos (by omega)]
    congr 1; omega
  · intro k k0 k1
    rw [rI_p hh (by omega)]
    have q := h (k + 1) (by omega) (by omega)
    rw [show hc - 1 - (k + 1) = hc - 1 - 1 - k by omega] at q
    exact q
theorem hist_no {B N : Int} {hs : Nat → Nat → Int → Int} {hn : Int} {past : Int → Int} : HiR B N hs hn 0 past := fun k k0 k1 => absurd k1 (by omega)
/-- all that holds between two calls; n: how many were made -/
def LInv (n : Int) (s : Nat → Int → Int) (hs : Nat → Nat → Int → Int) (sv : Nat → Int → Int) (pos cmd : Int) (vals txt : Int → Int) (len hc hn hsv mal fai : Int) (lnb : Int → Int) (lct : Int) (ms msav : Int → Int) (misv : Int) (mpast : Int → Int) (mpm : Int) (mline : Int → Int) (mlm : Int) (mtxt : Int → Int) (mlen merr mfail : Int) (mcmd : Int → Int) : Prop :=
  (0 ≤ n ∧ n ≤ 600 ∧ 0 ≤ len ∧ len ≤ 60 ∧ len ≤ n) ∧ LSr (9999 * (n - len)) (n - len) s ms ∧ ((0 ≤ hn ∧ hn < 8) ∧ (0 ≤ hc ∧ hc ≤ 8) ∧ mpm = hc ∧ HiR (9999 * (n - len)) (n - len) hs hn hc mpast) ∧
  ((hsv = 0 ∨ hsv = 1) ∧ misv = hsv ∧ SVk (9999 * (n - len)) (n - len) sv ∧ (hsv = 1 → RelS (n - len) sv msav)) ∧ (mlen = len ∧ mtxt = txt ∧ ∀ j, 0 ≤ j → j < len → 0 ≤ txt j ∧ txt j ≤ 65535) ∧
  (mlm = lct ∧ mline = lnb ∧ 0 ≤ lct ∧ lct ≤ 16 ∧ ∀ j, 0 ≤ j → j < lct → 0 ≤ lnb j ∧ lnb j ≤ 127) ∧ (merr = mal ∧ mfail = fai ∧ -1 ≤ mal ∧ mal ≤ 60 ∧ -1 ≤ fai ∧ fai ≤ 60) ∧
  (0 ≤ cmd ∧ cmd < 8 ∧ 0 ≤ pos ∧ pos ≤ 60 ∧ ∀ j, 0 ≤ j → j < 4 → 0 ≤ vals j ∧ vals j ≤ 9999) ∧ ∀ j, 0 ≤ j → j < 300 → 0 ≤ mcmd j ∧ mcmd j ≤ 9999
section
variable {n : Int} {s : Nat → Int → Int} {hs : Nat → Nat → Int → Int} {sv : Nat → Int → Int} {pos cmd : Int} {vals txt : Int → Int} {len hc hn hsv mal fai : Int} {lnb : Int → Int} {lct : Int} {ms msav : Int → Int} {misv : Int} {mpast : Int → Int} {mpm : Int} {mline : Int → Int} {mlm : Int} {mtxt : Int → Int} {mlen merr mfail : Int} {mcmd : Int → Int}
abbrev LI0 (n : Int) (s : Nat → Int → Int) (hs : Nat → Nat → Int → Int) (sv : Nat → Int → Int) (pos cmd : Int) (vals txt : Int → Int) (len hc hn hsv mal fai : Int) (lnb : Int → Int) (lct : Int) (ms msav : Int → Int) (misv : Int) (mpast : Int → Int) (mpm : Int) (mline : Int → Int) (mlm : Int) (mtxt : Int → Int) (mlen merr mfail : Int) (mcmd : Int → Int) : Prop := LInv n s hs sv pos cmd vals txt len hc hn hsv mal fai lnb lct ms msav misv mpast mpm mline mlm mtxt mlen merr mfail mcmd
/-- a call that changes nothing of it -/
theorem LI_q (hn9 : n < 600) (h : LInv n s hs sv pos cmd vals txt len hc hn hsv mal fai lnb lct ms msav misv mpast mpm mline mlm mtxt mlen merr mfail mcmd) : LInv (n + 1) s hs sv pos cmd vals txt len hc hn hsv mal fai lnb lct ms msav misv mpast mpm mline mlm mtxt mlen merr mfail mcmd := by
  obtain ⟨h1, h2, ⟨h3, h4, h5, h6⟩, ⟨h7, h8, h9, h10⟩, h11, h12, h13, h14, h15⟩ := h
  exact ⟨by omega, LSr_mono h2 (by omega) (by omega), ⟨h3, h4, h5, HiR_mono h6 (by omega) (by omega)⟩, ⟨h7, h8, SVk_mono h9 (by omega) (by omega), fun e => RelS_mono (h10 e) (by omega)⟩, h11, h12, h13, h14, h15⟩
/-- a modification that was done -/
theorem LI_m {s' : Nat → Int → Int} {ms' : Int → Int} (hn9 : n < 600) (h : LInv n s hs sv pos cmd vals txt len hc hn hsv mal fai lnb lct ms msav misv mpast mpm mline mlm mtxt mlen merr mfail mcmd) (hv : SVk (9999 * (n - len) + 9999) (n - len + 1) s') (hr : RelS (n - len + 1) s' ms') :
    LInv (n + 1) s' (hsU hs (Int.toNat hn) (etS s)) sv pos cmd vals txt len (min (hc + 1) 8) (if hn < 7 then hn + 1 else 0) hsv mal fai lnb lct ms' msav misv (pastP ms mpm mpast) (if mpm = 8 then 8 else mpm + 1) mline mlm mtxt mlen merr mfail mcmd := by
  obtain ⟨h1, h2, ⟨h3, h4, h5, h6⟩, ⟨h7, h8, h9, h10⟩, h11, h12, h13, h14, h15⟩ := h
  subst h5
  refine ⟨by omega, ⟨SVk_mono hv (by omega) (by omega), RelS_mono hr (by omega)⟩, ⟨?_, by omega, ?_, ?_⟩, ⟨h7, h8, SVk_mono h9 (by omega) (by omega), fun e => RelS_mono (h10 e) (by omega)⟩, h11, h12, h13, h14, h15⟩
  · by_cases g : hn < 7
    · rw [if_pos g]; omega
    · rw [if_neg g]; omega
  · by_cases g : mpm = 8
    · rw [if_pos g]; omega
    · rw [if_neg g]; omega
  · exact HiR_mono (hist_push h3 h4 h6 h2) (by omega) (by omega)
theorem LI_undo (hn9 : n < 600) (h : LInv n s hs sv pos cmd vals txt len hc hn hsv mal fai lnb lct ms msav misv mpast mpm mline mlm mtxt mlen merr mfail mcmd) (h1c : 1 ≤ hc) :
    LInv (n + 1) (etS (hs (Int.toNat (if 0 < hn then hn - 1 else 7)))) hs sv pos cmd vals txt len (hc - 1) (if 0 < hn then hn - 1 else 7) hsv mal fai lnb lct (undM mpm mpast ms) msav misv mpast (if mpm = 0 then mpm else mpm - 1) mline mlm mtxt mlen merr mfail mcmd := by
  obtain ⟨h1, h2, ⟨h3, h4, h5, h6⟩, ⟨h7, h8, h9, h10⟩, h11, h12, h13, h14, h15⟩ := h
  subst h5
  have q := hist_pop (ms := ms) h3 ⟨h1c, h4.2⟩ h6
  refine ⟨by omega, LSr_mono q.1 (by omega) (by omega), ⟨?_, by omega, ?_, HiR_mono q.2 (by omega) (by omega)⟩, ⟨h7, h8, SVk_mono h9 (by omega) (by omega), fun e => RelS_mono (h10 e) (by omega)⟩, h11, h12, h13, h14, h15⟩
  · by_cases g : 0 < hn
    · rw [if_pos g]; omega
    · rw [if_neg g]; omega
  · rw [if_neg (by omega)]
theorem LI_save (hn9 : n < 600) (h : LInv n s hs sv pos cmd vals txt len hc hn hsv mal fai lnb lct ms msav misv mpast mpm mline mlm mtxt mlen merr mfail mcmd) :
    LInv (n + 1) s hs (etS s) pos cmd vals txt len hc hn 1 mal fai lnb lct ms ms 1 mpast mpm mline mlm mtxt mlen merr mfail mcmd := by
  obtain ⟨h1, h2, ⟨h3, h4, h5, h6⟩, ⟨h7, h8, h9, h10⟩, h11, h12, h13, h14, h15⟩ := h
  have q := LSr_mono (B' := 9999 * (n + 1 - len)) (N' := n + 1 - len) (LS_eta h2) (by omega) (by omega)
  exact ⟨by omega, LSr_mono h2 (by omega) (by omega), ⟨h3, h4, h5, HiR_mono h6 (by omega) (by omega)⟩, ⟨Or.inr rfl, rfl, q.1, fun _ => q.2⟩, h11, h12, h13, h14, h15⟩
theorem LI_rest (hn9 : n < 600) (h : LInv n s hs sv pos cmd vals txt len hc hn hsv mal fai lnb lct ms msav misv mpast mpm mline mlm mtxt mlen merr mfail mcmd) (h1 : hsv = 1) :
    LInv (n + 1) (etS sv) hs sv pos cmd vals txt len 0 hn hsv mal fai lnb lct (if misv = 0 then ms else msav) msav misv mpast (if misv = 0 then mpm else 0) mline mlm mtxt mlen merr mfail mcmd := by
  obtain ⟨h1', h2, ⟨h3, h4, h5, h6⟩, ⟨h7, h8, h9, h10⟩, h11, h12, h13, h14, h15⟩ := h
  subst h8
  rw [if_neg (by omega), if_neg (by omega)]
  exact ⟨by omega, LSr_mono (LS_eta (⟨h9, h10 h1⟩ : LSr _ _ sv msav)) (by omega) (by omega), ⟨h3, by omega, rfl, hist_no⟩, ⟨h7, rfl, SVk_mono h9 (by omega) (by omega), fun e => RelS_mono (h10 e) (by omega)⟩, h11, h12, h13, h14, h15⟩
theorem LI_type (hn9 : n < 600) (h : LInv n s hs sv pos cmd vals txt len hc hn hsv mal fai lnb lct ms msav misv mpast mpm mline mlm mtxt mlen merr mfail mcmd) {ch : Int} (hch : 32 ≤ ch ∧ ch ≤ 126) (hl : len < 60) :
    LInv (n + 1) s hs sv pos cmd vals (zU txt len ch) (len + 1) hc hn hsv mal fai lnb lct ms msav misv mpast mpm mline mlm (zU mtxt mlen ch) (mlen + 1) merr mfail mcmd := by
  obtain ⟨h1, h2, ⟨h3, h4, h5, h6⟩, ⟨h7, h8, h9, h10⟩, ⟨h11, h11b, h11c⟩, h12, h13, h14, h15⟩ := h
  subst h11 h11b
  have e : n + 1 - (mlen + 1) = n - mlen := by omega
  refine ⟨by omega, by rw [e]; exact h2, ⟨h3, h4, h5, by rw [e]; exact h6⟩, ⟨h7, h8, by rw [e]; exact h9, by rw [e]; exact h10⟩, ⟨rfl, rfl, fun j j0 j1 => ?_⟩, h12, h13, h14, h15⟩
  by_cases q : j = mlen
  · rw [q, zU_same]; omega
  · rw [zU_ne q]; exact h11c j j0 (by omega)
theorem LI_line {l : List Int} (hn9 : n < 600) (h : LInv n s hs sv pos cmd vals txt len hc hn hsv mal fai lnb lct ms msav misv mpast mpm mline mlm mtxt mlen merr mfail mcmd) (hl : l.length ≤ 16) (hl2 : ∀ v ∈ l, 0 ≤ v ∧ v ≤ 127) {F : Int → Int} {q : Int} (hw : WLp mline l F q) :
    LInv (n + 1) s hs sv pos cmd vals txt len hc hn hsv mal fai (wrL lnb 0 l) (l.length : Nat) ms msav misv mpast mpm F q mtxt mlen merr mfail mcmd := by
  obtain ⟨h1, h2, ⟨h3, h4, h5, h6⟩, ⟨h7, h8, h9, h10⟩, h11, ⟨h12, h12b, h12c⟩, h13, h14, h15⟩ := h
  subst h12b
  obtain ⟨rfl, rfl⟩ := hw
  refine ⟨by omega, LSr_mono h2 (by omega) (by omega), ⟨h3, h4, h5, HiR_mono h6 (by omega) (by omega)⟩, ⟨h7, h8, SVk_mono h9 (by omega) (by omega), fun e => RelS_mono (h10 e) (by omega)⟩, h11, ⟨rfl, rfl, by omega, by omega, fun j j0 j1 => ?_⟩, h13, h14, h15⟩
  have w9 : (j - 0).toNat < l.length := by omega
  have z9 := hl2 _ (List.getElem_mem w9)
  rw [wrL_in (by omega), List.getD_eq_getElem?_getD, List.getElem?_eq_getElem w9]
  exact z9
/-- execute: the text is gone; whatever else the reading left -/
theorem LI_exq {pos' cmd' : Int} {vals' : Int → Int} {mal' fai' merr' mfail' : Int} {mcmd' : Int → Int} (hn9 : n < 600) (h : LInv n s hs sv pos cmd vals txt len hc hn hsv mal fai lnb lct ms msav misv mpast mpm mline mlm mtxt mlen merr mfail mcmd) (he : merr' = mal' ∧ mfail' = fai' ∧ -1 ≤ mal' ∧ mal' ≤ 60 ∧ -1 ≤ fai' ∧ fai' ≤ 60)
    (hr : 0 ≤ cmd' ∧ cmd' < 8 ∧ 0 ≤ pos' ∧ pos' ≤ 60 ∧ ∀ j, 0 ≤ j → j < 4 → 0 ≤ vals' j ∧ vals' j ≤ 9999) (hm : ∀ j, 0 ≤ j → j < 300 → 0 ≤ mcmd' j ∧ mcmd' j ≤ 9999) :
    LInv (n + 1) s hs sv pos' cmd' vals' txt 0 hc hn hsv mal' fai' lnb lct ms msav misv mpast mpm mline mlm mtxt 0 merr' mfail' mcmd' := by
  obtain ⟨h1, h2, ⟨h3, h4, h5, h6⟩, ⟨h7, h8, h9, h10⟩, ⟨h11, h11b, h11c⟩, h12, h13, h14, h15⟩ := h
  exact ⟨by omega, LSr_mono h2 (by omega) (by omega), ⟨h3, h4, h5, HiR_mono h6 (by omega) (by omega)⟩, ⟨h7, h8, SVk_mono h9 (by omega) (by omega), fun e => RelS_mono (h10 e) (by omega)⟩, ⟨rfl, h11b, fun j j0 j1 => absurd j1 (by omega)⟩, h12, he, hr, hm⟩
theorem LI_exm {s' : Nat → Int → Int} {ms' : Int → Int} {z : Int} {pos' cmd' : Int} {vals' mcmd' : Int → Int} (hn9 : n < 600) (h : LInv n s hs sv pos cmd vals txt len hc hn hsv mal fai lnb lct ms msav misv mpast mpm mline mlm mtxt mlen merr mfail mcmd) (hz : 0 ≤ z ∧ z ≤ len) (hv : SVk (9999 * (n - len) + 9999 * z) (n - len + z) s') (hrl : RelS (n - len + z) s' ms')
    (hr : 0 ≤ cmd' ∧ cmd' < 8 ∧ 0 ≤ pos' ∧ pos' ≤ 60 ∧ ∀ j, 0 ≤ j → j < 4 → 0 ≤ vals' j ∧ vals' j ≤ 9999) (hm : ∀ j, 0 ≤ j → j < 300 → 0 ≤ mcmd' j ∧ mcmd' j ≤ 9999) :
    LInv (n + 1) s' (hsU hs (Int.toNat hn) (etS s)) sv pos' cmd' vals' txt 0 (min (hc + 1) 8) (if hn < 7 then hn + 1 else 0) hsv mal fai lnb lct ms' msav misv (pastP ms mpm mpast) (if mpm = 8 then 8 else mpm + 1) mline mlm mtxt 0 merr mfail mcmd' := by
  obtain ⟨h1, h2, ⟨h3, h4, h5, h6⟩, ⟨h7, h8, h9, h10⟩, ⟨h11, h11b, h11c⟩, h12, h13, h14, h15⟩ := h
  subst h5
  refine ⟨by omega, ⟨SVk_mono hv (by omega) (by omega), RelS_mono hrl (by omega)⟩, ⟨?_, by omega, ?_, ?_⟩, ⟨h7, h8, SVk_mono h9 (by omega) (by omega), fun e => RelS_mono (h10 e) (by omega)⟩, ⟨rfl, h11b, fun j j0 j1 => absurd j1 (by omega)⟩, h12, h13, hr, hm⟩
  · by_cases g : hn < 7
    · rw [if_pos g]; omega
    · rw [if_neg g]; omega
  · by_cases g : mpm = 8
    · rw [if_pos g]; omega
    · rw [if_neg g]; omega
  · exact HiR_mono (hist_push h3 h4 h6 h2) (by omega) (by omega)
end
section
variable {n : Int} {s : Nat → Int → Int} {hs : Nat → Nat → Int → Int} {sv : Nat → Int → Int} {pos cmd : Int} {vals txt : Int → Int} {len hc hn hsv mal fai : Int} {lnb : Int → Int} {lct : Int} {ms msav : Int → Int} {misv : Int} {mpast : Int → Int} {mpm : Int} {mline : Int → Int} {mlm : Int} {mtxt : Int → Int} {mlen merr mfail : Int} {mcmd : Int → Int}
/-- a modification, done or refused, by its place t of an exception -/
theorem LI_mt {s' : Nat → Int → Int} {ms' : Int → Int} {t : Int} (hn9 : n < 600) (h : LInv n s hs sv pos cmd vals txt len hc hn hsv mal fai lnb lct ms msav misv mpast mpm mline mlm mtxt mlen merr mfail mcmd) (ht : t = 0) (hv : SVk (9999 * (n - len) + 9999) (n - len + 1) s') (hr : RelS (n - len + 1) s' ms') :
    LInv (n + 1) s' (hsU hs (Int.toNat hn) (etS s)) sv pos cmd vals txt len (min (hc + 1) 8) (if hn < 7 then hn + 1 else 0) hsv mal fai lnb lct (if 0 < t then ms else ms') msav misv (if 0 < t then mpast else pastP ms mpm mpast) (if 0 < t then mpm else if mpm = 8 then 8 else mpm + 1) mline mlm mtxt mlen merr mfail mcmd := by
  subst ht
  exact LI_m hn9 h hv hr
theorem LI_qt {ms' past' : Int → Int} {pm' : Int} {t : Int} (hn9 : n < 600) (h : LInv n s hs sv pos cmd vals txt len hc hn hsv mal fai lnb lct ms msav misv mpast mpm mline mlm mtxt mlen merr mfail mcmd) (ht : 0 < t) :
    LInv (n + 1) s hs sv pos cmd vals txt len hc hn hsv mal fai lnb lct (if 0 < t then ms else ms') msav misv (if 0 < t then mpast else past') (if 0 < t then mpm else pm') mline mlm mtxt mlen merr mfail mcmd := by
  rw [if_pos ht, if_pos ht, if_pos ht]
  exact LI_q hn9 h
end
section
variable {B N : Int} {s : Nat → Int → Int} {ms ms' : Int → Int} {a b w r p f t z zc : Int}
theorem mo_port (hv : SVk B N s) (h : RelS N s ms) (hB : 0 ≤ B) (hN : 0 ≤ N) (hk : s 0 0 < 10 ∧ zc = s 0 0) (hm : mAddPort ms z t ms') : t = 0 ∧ z = zc ∧ SVk (B + 9999) (N + 1) (sPort s) ∧ RelS (N + 1) (sPort s) ms' := by
  rcases eq_port (f := 0) h (Or.inr ⟨rfl, hk.1⟩) hv.1 hm with ⟨-, t0, z0, e⟩ | ⟨e, -⟩
  · subst e
    exact ⟨t0, by omega, SVk_mono (SVk_port hv hk.1) (by omega) (by omega), RelS_mono (rel_port hv.1 h) (by omega)⟩
  · exact absurd e (by decide)
theorem mo_leg (hv : SVk B N s) (h : RelS N s ms) (hB : 0 ≤ B) (hN : 0 ≤ N) (hf : legF (s 0 0) (s 1 0) (s 2) (s 3) a b w r 0) (hp : 0 ≤ p ∧ p ≤ s 1 0) (h1 : ∀ j, 0 ≤ j → j < p → legLt (s 5 j) (s 4 j) (s 2 j) (s 3 j) r w (min a b) (max a b)) (h2 : p = s 1 0 ∨ ¬ legLt (s 5 p) (s 4 p) (s 2 p) (s 3 p) r w (min a b) (max a b)) (hz : zc = s 1 0 + 1) (hm : mAddLeg ms a b w r z t ms') :
    t = 0 ∧ z = zc ∧ SVk (B + 9999) (N + 1) (sLeg s a b w r p) ∧ RelS (N + 1) (sLeg s a b w r p) ms' := by
  have e := eq_leg hv.1 hv.2.1 h hf hm
  subst e
  have q := do_leg hv h hN hf hp hm
  have v := SVk_leg hv hN hf hp h1 h2
  have l := rel_lgs v.1 v.2.1 q.1
  refine ⟨rfl, ?_, SVk_mono v (by omega) (by omega), RelS_mono q.1 (by omega)⟩
  rw [q.2, l, hz]
  rfl
theorem mo_cut (hv : SVk B N s) (h : RelS N s ms) (hB : 0 ≤ B) (hN : 0 ≤ N) (hf : cutF (s 0 0) (s 1 0) (s 2) (s 3) a b 0) (hp : 0 ≤ p ∧ p < s 1 0 ∧ s 2 p = min a b ∧ s 3 p = max a b) (hz : zc = s 4 p) (hm : mRemoveLeg ms a b z t ms') : t = 0 ∧ z = zc ∧ SVk (B + 9999) (N + 1) (sCut s p) ∧ RelS (N + 1) (sCut s p) ms' := by
  have e : t = 0 := by
    have := eq_cut hv.1 h hf hm
    omega
  subst e
  have q := do_cut hv h hf hp hm
  exact ⟨rfl, q.2.trans hz.symm, SVk_mono (SVk_cut hv ⟨hp.1, hp.2.1⟩) (by omega) (by omega), RelS_mono q.1 (by omega)⟩
theorem mo_ship (hv : SVk B N s) (h : RelS N s ms) (hB : 0 ≤ B) (hN : 0 ≤ N) (hf : shipF (s 0 0) (s 7 0) (sE s) a b w 0) (hz : zc = s 7 0) (hm : mSubscribe ms a b w z t ms') : t = 0 ∧ z = zc ∧ SVk (B + 9999) (N + 1) (sShip s a b w) ∧ RelS (N + 1) (sShip s a b w) ms' := by
  have e : t = 0 := by
    have := eq_ship hv h hf hm
    omega
  subst e
  have q := do_ship hv h hm
  exact ⟨rfl, q.2.trans hz.symm, SVk_mono (SVk_ship hv hN hf) (by omega) (by omega), RelS_mono q.1 (by omega)⟩
theorem mo_pay (hv : SVk B N s) (h : RelS N s ms) (hB : 0 ≤ B) (hN : 0 ≤ N) (hf : payF (s 7 0) a w 0) (hz : zc = s 10 a + w) (hm : mDeposit ms a w z t ms') : t = 0 ∧ z = zc ∧ SVk (B + 9999) (N + 1) (sPay s a w) ∧ RelS (N + 1) (sPay s a w) ms' := by
  have e := eq_pay h hf hm
  subst e
  have q := do_pay hv h hm
  exact ⟨rfl, q.2.trans hz.symm, SVk_mono (SVk_pay hv hf) (by omega) (by omega), RelS_mono q.1 (by omega)⟩
theorem mo_leav (hv : SVk B N s) (h : RelS N s ms) (hB : 0 ≤ B) (hN : 0 ≤ N) (hi : 0 ≤ a ∧ a < s 7 0) (hz : zc = s 10 a) (hm : mLeave ms a z t ms') : t = 0 ∧ z = zc ∧ SVk (B + 9999) (N + 1) (sLeav s a) ∧ RelS (N + 1) (sLeav s a) ms' := by
  have e := eq_leav (f := 0) h (Or.inl ⟨rfl, hi.1, hi.2⟩) hm
  subst e
  have q := do_leav hv h hm
  exact ⟨rfl, q.2.trans hz.symm, SVk_mono (SVk_leav hv hi) (by omega) (by omega), RelS_mono q.1 (by omega)⟩
theorem mo_fog (hv : SVk B N s) (h : RelS N s ms) (hB : 0 ≤ B) (hN : 0 ≤ N) (hi : 0 ≤ a ∧ a ≤ 9) (hz : zc = s 15 0) (hm : mSetFog ms a z t ms') : t = 0 ∧ z = zc ∧ SVk (B + 9999) (N + 1) (sFog s a) ∧ RelS (N + 1) (sFog s a) ms' := by
  have e : t = 0 := by
    have := eq_fog (f := 0) (Or.inr ⟨rfl, hi.1, hi.2⟩) hm
    omega
  subst e
  have q := do_fog hv h hm
  exact ⟨rfl, q.2.trans hz.symm, SVk_mono (SVk_fog hv hi) (by omega) (by omega), RelS_mono q.1 (by omega)⟩
/-! questions -/
theorem q_leg3 (hc : ChS s) (h : RelS N s ms) {x : Nat} (hx : x = 0 ∨ x = 1 ∨ x = 2) (hk : inP (s 0 0) a b ∧ ∃ p, 0 ≤ p ∧ p < s 1 0 ∧ s 2 p = min a b ∧ s 3 p = max a b ∧ zc = s (4 + x) p) (hm : (t = 1 ∧ ¬ inP (ms 0) a b) ∨ (inP (ms 0) a b ∧ ((t = 2 ∧ lgM ms a b 0 = 0) ∨ (t = 0 ∧ lgM ms a b 0 ≠ 0 ∧ z = lgM ms a b (x : Int))))) : t = 0 ∧ z = zc := by
  have e0 : ms 0 = s 0 0 := h.1.1
  rw [e0] at hm
  obtain ⟨hp, p, p0, p1, p2, p3, p4⟩ := hk
  have q := rel_at hc h hp p0 p1 p2 p3
  rcases hm with ⟨-, m⟩ | ⟨-, ⟨-, m⟩ | ⟨m0, m1, m2⟩⟩
  · exact absurd hp m
  · exfalso; omega
  · refine ⟨m0, ?_⟩
    rw [m2, p4]
    rcases hx with rfl | rfl | rfl
    · exact q.1
    · exact q.2.1
    · exact q.2.2.1
theorem x_leg3 (hc : ChS s) (h : RelS N s ms) {k z6 : Int} (hk : (k = 1 ∧ ¬ inP (s 0 0) a b) ∨ (k = 4 ∧ inP (s 0 0) a b ∧ ¬ hasL (s 1 0) (s 2) (s 3) a b)) (hc6 : (k = 1 ∧ z6 = 1) ∨ (k = 4 ∧ z6 = 2)) {P : Prop} (hm : (t = 1 ∧ ¬ inP (ms 0) a b) ∨ (inP (ms 0) a b ∧ ((t = 2 ∧ lgM ms a b 0 = 0) ∨ (t = 0 ∧ lgM ms a b 0 ≠ 0 ∧ P)))) : t = z6 := by
  have e0 : ms 0 = s 0 0 := h.1.1
  rw [e0] at hm
  rcases hk with ⟨k1, k2⟩ | ⟨k1, k2, k3⟩
  · rcases hm with ⟨m0, -⟩ | ⟨m0, -⟩
    · omega
    · exact absurd m0 k2
  · have q := (rel_no hc h k2).mp k3
    rcases hm with ⟨-, m⟩ | ⟨-, ⟨m0, -⟩ | ⟨-, m1, -⟩⟩
    · exact absurd k2 m
    · omega
    · exact absurd q m1
theorem q_ask {ip : Prop} {P : Int → Prop} (hu : ∀ x y, P x → P y → x = y) (hk : ip ∧ zc ≠ -1 ∧ P zc) (hm : askP ip P z t) : t = 0 ∧ z = zc := by
  rcases hm with ⟨-, m⟩ | ⟨-, ⟨-, m⟩ | ⟨m0, m1, m2⟩⟩
  · exact absurd hk.1 m
  · exact absurd (hu _ _ hk.2.2 m) hk.2.1
  · exact ⟨m0, hu _ _ m2 hk.2.2⟩
theorem x_ask {ip : Prop} {P : Int → Prop} (hu : ∀ x y, P x → P y → x = y) {k z6 : Int} (hk : (k = 1 ∧ ¬ ip) ∨ (k = 4 ∧ ip ∧ P (-1))) (hc6 : (k = 1 ∧ z6 = 1) ∨ (k = 4 ∧ z6 = 2)) (hm : askP ip P z t) : t = z6 := by
  rcases hk with ⟨k1, k2⟩ | ⟨k1, k2, k3⟩
  · rcases hm with ⟨m0, -⟩ | ⟨m, -⟩
    · omega
    · exact absurd m k2
  · rcases hm with ⟨-, m⟩ | ⟨-, ⟨m0, -⟩ | ⟨m0, m1, m2⟩⟩
    · exact absurd k2 m
    · omega
    · exact absurd (hu _ _ m2 k3) m1
theorem q_need (h : RelS N s ms) {E : Int → Int → Int → Int → Prop} (eE : E = egM ms) (hk : inP (s 0 0) a b ∧ a ≠ b ∧ zc ≠ -1 ∧ needP E a b zc) (hm : (t = 1 ∧ ¬ inP (ms 0) a b) ∨ (inP (ms 0) a b ∧ ((t = 2 ∧ a = b) ∨ (a ≠ b ∧ ((t = 3 ∧ needP (egM ms) a b (-1)) ∨ (t = 0 ∧ z ≠ -1 ∧ needP (egM ms) a b z)))))) : t = 0 ∧ z = zc := by
  have e0 : ms 0 = s 0 0 := h.1.1
  subst eE
  rw [e0] at hm
  obtain ⟨k1, k2, k3, k4⟩ := hk
  rcases hm with ⟨-, m⟩ | ⟨-, ⟨-, m⟩ | ⟨-, ⟨-, m⟩ | ⟨m0, m1, m2⟩⟩⟩
  · exact absurd k1 m
  · exact absurd m k2
  · exact absurd (needP_uniq k4 m) k3
  · exact ⟨m0, needP_uniq m2 k4⟩
theorem x_need (h : RelS N s ms) {E : Int → Int → Int → Int → Prop} (eE : E = egM ms) {k z6 : Int} (hk : (k = 1 ∧ ¬ inP (s 0 0) a b) ∨ (k = 2 ∧ inP (s 0 0) a b ∧ a = b) ∨ (k = 4 ∧ inP (s 0 0) a b ∧ a ≠ b ∧ needP E a b (-1))) (hc6 : (k = 1 ∧ z6 = 1) ∨ (k = 2 ∧ z6 = 2) ∨ (k = 4 ∧ z6 = 3)) (hm : (t = 1 ∧ ¬ inP (ms 0) a b) ∨ (inP (ms 0) a b ∧ ((t = 2 ∧ a = b) ∨ (a ≠ b ∧ ((t = 3 ∧ needP (egM ms) a b (-1)) ∨ (t = 0 ∧ z ≠ -1 ∧ needP (egM ms) a b z)))))) : t = z6 := by
  have e0 : ms 0 = s 0 0 := h.1.1
  subst eE
  rw [e0] at hm
  rcases hk with ⟨k1, k2⟩ | ⟨k1, k2, k3⟩ | ⟨k1, k2, k3, k4⟩
  · rcases hm with ⟨m0, -⟩ | ⟨m, -⟩
    · omega
    · exact absurd m k2
  · rcases hm with ⟨-, m⟩ | ⟨-, ⟨m0, -⟩ | ⟨m, -⟩⟩
    · exact absurd k2 m
    · omega
    · exact absurd k3 m
  · rcases hm with ⟨-, m⟩ | ⟨-, ⟨-, m⟩ | ⟨-, ⟨m0, -⟩ | ⟨m0, m1, m2⟩⟩⟩
    · exact absurd k2 m
    · exact absurd m k3
    · omega
    · exact absurd (needP_uniq m2 k4) m1
end
