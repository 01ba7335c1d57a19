/-! ===== p57: subscribers as the law counts them ===== -/
theorem needP_ex {ports legs : Int} {lo up le re : Int → Int} {i j : Int} (hc : ChV ports legs lo up le re) (hij : i ≠ j) : ∃ z, needP (eg legs lo up le re) i j z := by
  have mono : ∀ r r' : Int, r ≤ r' → cn (eg legs lo up le re r) i j → cn (eg legs lo up le re r') i j := fun r r' hr h => cn_mono (by
    rintro a b w ⟨k, k0, k1, k2, k3, k4⟩
    exact ⟨k, k0, k1, by omega, k3, k4⟩) h
  have no0 : ¬ cn (eg legs lo up le re 0) i j := fun h => by
    have q := h (fun x => x) (fun a b w ⟨k, k0, k1, k2, k3, k4⟩ => by
      have := hc.2.2.2.2.1 k k0 k1
      omega)
    exact hij q
  have low : ∀ n : Nat, (n : Int) ≤ 20 → cn (eg legs lo up le re n) i j → ∃ z, needP (eg legs lo up le re) i j z := by
    intro n
    induction n with
    | zero => intro _ h; exact absurd h no0
    | succ n ih =>
      intro hn h
      by_cases g : cn (eg legs lo up le re n) i j
      · exact ih (by omega) g
      · exact ⟨((n + 1 : Nat) : Int), Or.inr ⟨by omega, hn, h, fun q hq c => g (mono q n (by omega) c)⟩⟩
  by_cases h : cn (eg legs lo up le re 20) i j
  · exact low 20 (by decide) h
  · exact ⟨-1, Or.inl ⟨rfl, fun r hr c => h (mono r 20 hr c)⟩⟩
theorem gat_ex {B N : Int} {v : Nat → Int → Int} (hok : OKs B N v) : ∃ tp nd, isGat (sE v) (v 7 0) (v 8) (v 9) tp nd := by
  have hch := hok.1.1
  have hsp := hok.1.2.2.2.2.1
  have h : ∀ j : Int, ∃ z : Int, 0 ≤ j ∧ j < v 7 0 → needP (sE v) (v 8 j) (v 9 j) z := fun j => by
    by_cases q : 0 ≤ j ∧ j < v 7 0
    · obtain ⟨z, hz⟩ := needP_ex hch (hsp j q.1 q.2).1.2.2.2.2
      exact ⟨z, fun _ => hz⟩
    · exact ⟨0, fun z => absurd z q⟩
  obtain ⟨nd, hnd⟩ := Classical.axiomOfChoice h
  refine ⟨fun j => if 0 ≤ j ∧ j < v 7 0 then (if nd j = -1 then 0 else 1) else 0, nd, fun j j0 j1 _ => ⟨hnd j ⟨j0, j1⟩, if_pos ⟨j0, j1⟩⟩, fun j j0 _ _ => if_neg (by omega)⟩
section SUBM
variable {B N : Int} {v : Nat → Int → Int} {tp nd : Int → Int} {k z : Int}
theorem noF_f (hok : OKs B N v) (hg : isGat (sE v) (v 7 0) (v 8) (v 9) tp nd) (hk : 0 ≤ k ∧ k < v 7 0) : (noF nd k = -13 ∧ tp k = 0 ∧ nd k = -1) ∨ (noF nd k = nd k ∧ 0 ≤ nd k ∧ nd k ≤ 20 ∧ tp k = 1) := by
  have hc := hok.1.2.2.2.1
  have a := hg.1 k hk.1 hk.2 (by omega)
  have b := needP_in a.1
  unfold noF
  by_cases e : nd k = -1
  · left
    rw [a.2, if_pos e, if_pos e]
    exact ⟨rfl, rfl, e⟩
  · right
    rw [a.2, if_neg e, if_neg e]
    exact ⟨rfl, by omega, b.2, rfl⟩
theorem nd_uq (hok : OKs B N v) (hg : isGat (sE v) (v 7 0) (v 8) (v 9) tp nd) (hk : 0 ≤ k ∧ k < v 7 0) (h : (z = -13 ∧ needP (sE v) (v 8 k) (v 9 k) (-1)) ∨ (z ≠ -1 ∧ needP (sE v) (v 8 k) (v 9 k) z)) : z = noF nd k := by
  have hc := hok.1.2.2.2.1
  have a := hg.1 k hk.1 hk.2 (by omega)
  unfold noF
  rcases h with h | h
  · rw [needP_uniq a.1 h.2, if_pos rfl]
    exact h.1
  · have e := needP_uniq a.1 h.2
    rw [e, if_neg h.1]
theorem wNof_v (hok : OKs B N v) (hg : isGat (sE v) (v 7 0) (v 8) (v 9) tp nd) (hk : 0 ≤ k ∧ k < v 7 0) (h : wNof v k z) : z = noF nd k := by
  rcases h with h | h
  · exact absurd hk h.1
  · exact nd_uq hok hg hk h.2
theorem wNeed_v (hok : OKs B N v) (hg : isGat (sE v) (v 7 0) (v 8) (v 9) tp nd) (hk : 0 ≤ k ∧ k < v 7 0) (h : wNeed v (v 8 k) (v 9 k) z) : z = noF nd k := by
  have s := (hok.1.2.2.2.2.1 k hk.1 hk.2).1
  rcases h with h | ⟨-, h | h⟩
  · exact absurd ⟨s.1, s.2.1, s.2.2.1, s.2.2.2.1⟩ h.1
  · exact absurd h.1 s.2.2.2.2
  · exact nd_uq hok hg hk h.2
/-- a subscriber's share, an exception told as -13 -/
def shJ5 (tp nd : Int → Int) (k : Int) : Int := if tp k = 1 then shR tp nd (nd k).toNat else -13
def shA5 (tp nd : Int → Int) (k : Int) : Int := if tp k = 1 then shR tp nd (nd k).toNat else 0
theorem wShr_v (hg : isGat (sE v) (v 7 0) (v 8) (v 9) tp nd) (hk : 0 ≤ k ∧ k < v 7 0) (h : wShr v k z) : z = shJ5 tp nd k := by
  unfold shJ5
  rcases h with h | ⟨-, h | h⟩
  · exact absurd hk h.1
  · have q := shrP_gat hk hg h.2
    by_cases e : tp k = 1
    · rw [if_pos e] at q
      have r := (shR_in tp nd 0 (by decide)).1
      by_cases g : (nd k).toNat ≤ 20
      · have r2 := (shR_in tp nd (nd k).toNat g).1
        omega
      · rw [if_pos e]
        exact absurd e (by
          intro e
          have a := hg.1 k hk.1 hk.2
          have b := (isGat_V hg).2 k hk.1
          by_cases c6 : k < 6
          · have := b c6 e
            omega
          · rcases h.2 with ⟨⟨s0, s1⟩, -⟩
            omega)
    · rw [if_neg e]
      exact h.1
  · have q := shrP_gat hk hg h.2
    by_cases e : tp k = 1
    · rw [if_pos e] at q ⊢
      exact q
    · rw [if_neg e] at q
      exact absurd q h.1
theorem shJ5_f (hok : OKs B N v) (hg : isGat (sE v) (v 7 0) (v 8) (v 9) tp nd) (hk : 0 ≤ k ∧ k < v 7 0) : max 0 (shJ5 tp nd k) = shA5 tp nd k ∧ (0 ≤ shA5 tp nd k ∧ shA5 tp nd k ≤ 46800) ∧ ((noF nd k = -13 ∧ shJ5 tp nd k = -13) ∨ (0 ≤ noF nd k ∧ shJ5 tp nd k = shR tp nd (noF nd k).toNat ∧ 0 ≤ shJ5 tp nd k ∧ shJ5 tp nd k ≤ 46800)) := by
  unfold shJ5 shA5
  rcases noF_f hok hg hk with ⟨h1, h2, -⟩ | ⟨h1, h2, h3, h4⟩
  · rw [h2, if_neg (by decide), if_neg (by decide)]
    exact ⟨by decide, by decide, Or.inl ⟨h1, rfl⟩⟩
  · have r := shR_in tp nd (nd k).toNat (by omega)
    rw [h4, if_pos rfl, if_pos rfl, h1]
    exact ⟨by omega, by omega, Or.inr ⟨h2, rfl, by omega, by omega⟩⟩
theorem cnt_1 (hok : OKs B N v) (hg : isGat (sE v) (v 7 0) (v 8) (v 9) tp nd) (hk : 0 ≤ k ∧ k < v 7 0) {r : Int} (hr : 1 ≤ r) (hn : r ≤ noF nd k) : 1 ≤ cntN tp nd r ∧ cntN tp nd r ≤ 6 := by
  have hc := hok.1.2.2.2.1
  rcases noF_f hok hg hk with ⟨h1, h2, -⟩ | ⟨h1, h2, h3, h4⟩
  · omega
  · exact ⟨cntN_pos hk.1 (by omega) h4 (by omega), (cntN_in tp nd r).2⟩
theorem dC_in5 {r : Int} (h : 1 ≤ r ∧ r ≤ 20) : 0 ≤ 60 * r * r - 60 * (r - 1) * (r - 1) ∧ 60 * r * r - 60 * (r - 1) * (r - 1) ≤ 2340 := by
  have e : 60 * r * r - 60 * (r - 1) * (r - 1) = dC r := rfl
  rw [e, dC_eq]
  omega
theorem lit_pays (hok : OKs B N v) (hg : isGat (sE v) (v 7 0) (v 8) (v 9) tp nd) (hk : 0 ≤ k ∧ k < v 7 0) (h : wWld v k z) (hz : z = 1) : 0 ≤ noF nd k ∧ shJ5 tp nd k ≤ v 10 k := by
  have hc := hok.1.2.2.2.1
  rcases h with h | ⟨-, h, tq, nq, sq, hp, e⟩
  · exact absurd hk h.1
  · have q := plan_lit hc.2 hk hg hp (e.symm.trans hz)
    rcases noF_f hok hg hk with ⟨h1, h2, -⟩ | ⟨h1, h2, h3, h4⟩
    · rw [h2] at q
      exact absurd q.1 (by decide)
    · unfold shJ5
      rw [h4, if_pos rfl, h1]
      exact ⟨h2, q.2⟩
theorem drk_v (hk : 0 ≤ k ∧ k < v 7 0) (h : wDrk v k z) : 0 ≤ z ∧ z < v 7 0 ∧ dkR (v 7 0) (v 12) z = k := by
  rcases h with h | h
  · have q := dkP_some hk.1 hk.2 h.2
    omega
  · exact dkP_some hk.1 hk.2 h.2
theorem drk_o (hk : v 7 0 ≤ k) (h : wDrk v k z) : z = -13 := by
  rcases h with h | h
  · exact h.1
  · exact absurd (dkP_none hk h.2) h.1
theorem wSub_v {f : Nat} (hk : 0 ≤ k ∧ k < v 7 0) (h : wSub f v k z) : z = v f k := by
  rcases h with h | h
  · exact absurd hk h.1
  · exact h.2
theorem wSub_o {f : Nat} (hk : ¬ (0 ≤ k ∧ k < v 7 0)) (h : wSub f v k z) : z = -11 := by
  rcases h with h | h
  · exact h.2
  · exact absurd h.1 hk
theorem all_f (hok : OKs B N v) (hg : isGat (sE v) (v 7 0) (v 8) (v 9) tp nd) {mo : Int} (hm : GrK tp nd (v 7 0) mo) : sm (shA5 tp nd) (v 7 0).toNat = 60 * mo * mo ∧ (0 ≤ 60 * mo * mo ∧ 60 * mo * mo ≤ 24000) := by
  have hc := hok.1.2.2.2.1
  refine ⟨shares_cnt hc hg (GrK_end hg hm), ?_⟩
  have h0 := hm.1
  have h1 := hm.2.1
  have a : 60 * mo * mo ≤ 60 * mo * 20 := Int.mul_le_mul_of_nonneg_left h1 (by omega)
  have b : 0 ≤ 60 * mo * mo := Int.mul_nonneg (by omega) h0
  omega
theorem next_le (hok : OKs B N v) (hg : isGat (sE v) (v 7 0) (v 8) (v 9) tp nd) {mo : Int} (hm : GrK tp nd (v 7 0) mo) (h : ∃ tq nq sq, isPlan (sE v) (v 7 0) (v 8) (v 9) (v 10) tq nq sq ∧ isGr tq nq z) : 0 ≤ z ∧ z ≤ mo := by
  obtain ⟨tq, nq, sq, hp, hz⟩ := h
  exact ⟨hz.1, plan_le hok.1.2.2.2.1.2 hg (GrK_end hg hm) hp hz⟩
end SUBM
section FCM
variable {p : Program} {l : Launch} {e : Env} {R : Room} {s : State} {m : MethodId} {args : Array Value} {below : List Frame} {meth : Method} {c : Code} {H : Heap} {locs : List Loc} {cells slots : Nat} {Q : State → Prop}
variable {cc : ByteArray} {pc : Nat} {ls : Array Slot} {rest : List Value}
theorem zz_dcmp (hx : p.tables.exec = Jvm.exec) (hb : c.code = cc) {x : UInt64} (hxx : FP.dcmp x x = some .eq) (hd : decode cc pc = .ok (.dcmp .l, 1)) (kk : W p l e R s m args below meth c H locs cells slots Q (F0 m (pc + 1) ls (.int (iI 0) :: rest))) : W p l e R s m args below meth c H locs cells slots Q (F0 m pc ls (.double x :: .double x :: rest)) := by
  refine lv_dcmp hx hb hd ?_
  rw [hxx]
  exact kk
theorem zz_fcmp (hx : p.tables.exec = Jvm.exec) (hb : c.code = cc) {x : UInt32} (hxx : FP.fcmp x x = some .eq) (hd : decode cc pc = .ok (.fcmp .l, 1)) (kk : W p l e R s m args below meth c H locs cells slots Q (F0 m (pc + 1) ls (.int (iI 0) :: rest))) : W p l e R s m args below meth c H locs cells slots Q (F0 m pc ls (.float x :: .float x :: rest)) := by
  refine lv_fcmp hx hb hd ?_
  rw [hxx]
  exact kk
end FCM
theorem fp_cmp {f : FP.Core.Fmt} {x : Nat} (h : FP.Core.decode f x = .inf false ∨ ∃ c q, FP.Core.decode f x = .fin false c q) : FP.Core.cmp f x x = some .eq := by
  have hcc : ∀ y : Int, compare y y = Ordering.eq := fun y => by
    show compareOfLessAndEq y y = Ordering.eq
    unfold compareOfLessAndEq
    rw [if_neg (Int.lt_irrefl y), if_pos rfl]
  unfold FP.Core.cmp
  rcases h with z | ⟨x1, q, z⟩
  · rw [z]; exact congrArg some (hcc _)
  · rw [z]; exact congrArg some (hcc _)
theorem dc_of {N : Nat} (h : N ≤ (FP.Core.b64.exps - 1) * FP.Core.b64.tails) : FP.dcmp (UInt64.ofNat N) (UInt64.ofNat N) = some .eq := by
  show FP.Core.cmp FP.Core.b64 (UInt64.ofNat N).toNat (UInt64.ofNat N).toNat = some .eq
  rw [fp_to64 h]
  exact fp_cmp (fp_dec fpF_64 h)
theorem dQ_of {a b : Int} (ha : 0 ≤ a) (hb : 1 ≤ b) (hb2 : b < 16777216) : ∃ N, N ≤ (FP.Core.b64.exps - 1) * FP.Core.b64.tails ∧ dQ a b = UInt64.ofNat N := by
  have hx := fp_ib fpF_64 ha
  have hy := fp_ib fpF_64 (show 0 ≤ b by omega)
  obtain ⟨d, r, hd, e⟩ := fp_pos fpF_64 (n := b.toNat) (by omega) (by omega)
  rw [← fp_int (show 0 ≤ b by omega)] at e
  refine ⟨_, fp_div fpF_64 hx hd e, ?_⟩
  unfold dQ FP.ddiv FP.Core.ddiv
  rw [fp_to64 hx, fp_to64 hy]
theorem dQ_c {a b : Int} (ha : 0 ≤ a) (hb : 1 ≤ b) (hb2 : b < 16777216) : FP.dcmp (dQ a b) (dQ a b) = some .eq := by
  obtain ⟨N, h1, h2⟩ := dQ_of ha hb hb2
  rw [h2]
  exact dc_of h1
theorem fQ_cc {a b : Int} (ha : 0 ≤ a) (hb : 1 ≤ b) (hb2 : b < 16777216) : FP.fcmp (fQ a b) (fQ a b) = some .eq := by
  have hx := fp_ib fpF_32 ha
  have hy := fp_ib fpF_32 (show 0 ≤ b by omega)
  obtain ⟨d, r, hd, e⟩ := fp_pos fpF_32 (n := b.toNat) (by omega) (by omega)
  rw [← fp_int (show 0 ≤ b by omega)] at e
  have hN := fp_div fpF_32 hx hd e
  have hq : (fQ a b).toNat = FP.Core.div FP.Core.b32 (FP.Core.fromInt FP.Core.b32 a) (FP.Core.fromInt FP.Core.b32 b) := by
    unfold fQ FP.fdiv FP.Core.fdiv
    rw [fp_to32 hx, fp_to32 hy]
    exact fp_to32 hN
  show FP.Core.cmp FP.Core.b32 (fQ a b).toNat (fQ a b).toNat = some .eq
  rw [hq]
  exact fp_cmp (fp_dec fpF_32 hN)
