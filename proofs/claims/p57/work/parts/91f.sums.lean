/-! ===== p57: the law's sums over subscribers (draft, not yet compiled) ===== -/
theorem sm_tail {f : Int → Int} {m : Nat} : ∀ {n : Nat}, m ≤ n → (∀ j : Int, (m : Int) ≤ j → j < n → f j = 0) → sm f n = sm f m
  | 0, hm, _ => by rw [show m = 0 by omega]
  | n + 1, hm, h => by
    by_cases e : m = n + 1
    · rw [e]
    · show sm f n + f n = sm f m
      rw [sm_tail (n := n) (by omega) (fun j j0 j1 => h j j0 (by omega)), h n (by omega) (by omega)]
      omega
/-- what needOf answers, an exception told as -13 -/
def noF (nd : Int → Int) : Int → Int := fun j => if nd j = -1 then -13 else nd j
theorem many_cnt {E : Int → Int → Int → Int → Prop} {cnt r : Int} {strt goal tp nd : Int → Int} (hc : 0 ≤ cnt ∧ cnt ≤ 6) (hr : 1 ≤ r) (h : isGat E cnt strt goal tp nd) : sm (fun j => if r ≤ noF nd j then 1 else 0) cnt.toNat = cntN tp nd r := by
  unfold cntN
  rw [sm_tail (f := fun j => if tp j = 1 ∧ r ≤ nd j then (1 : Int) else 0) (m := cnt.toNat) (n := 6) (by omega) (fun j j0 j1 => by
    show (if tp j = 1 ∧ r ≤ nd j then (1 : Int) else 0) = 0
    rw [if_neg (fun z => by have := h.2 j (by omega) j1 (by omega); omega)])]
  refine sm_congr (fun j j0 j1 => ?_)
  show (if r ≤ noF nd j then (1 : Int) else 0) = if tp j = 1 ∧ r ≤ nd j then 1 else 0
  have a := h.1 j j0 (by omega) (by omega)
  unfold noF
  by_cases e : nd j = -1
  · rw [if_pos e, if_neg (by omega), if_neg (fun z => by rw [a.2, if_pos e] at z; exact absurd z.1 (by decide))]
  · rw [if_neg e]
    have t : tp j = 1 := by rw [a.2, if_neg e]
    by_cases g : r ≤ nd j
    · rw [if_pos g, if_pos ⟨t, g⟩]
    · rw [if_neg g, if_neg (fun z => g z.2)]
/-- all shares, over the subscribers alone -/
theorem shares_cnt {E : Int → Int → Int → Int → Prop} {cnt g : Int} {strt goal tp nd : Int → Int} (hc : 0 ≤ cnt ∧ cnt ≤ 6) (h : isGat E cnt strt goal tp nd) (hg : isGr tp nd g) : sm (fun j => if tp j = 1 then shR tp nd (nd j).toNat else 0) cnt.toNat = 60 * g * g := by
  rw [← shares_all (isGat_V h) hg, sm_tail (f := fun j => if tp j = 1 then shR tp nd (nd j).toNat else 0) (m := cnt.toNat) (n := 6) (by omega) (fun j j0 j1 => by
    show (if tp j = 1 then shR tp nd (nd j).toNat else 0) = 0
    rw [if_neg (fun z => by have := h.2 j (by omega) j1 (by omega); omega)])]
theorem GrK_end {E : Int → Int → Int → Int → Prop} {cnt g : Int} {strt goal tp nd : Int → Int} (h : isGat E cnt strt goal tp nd) (hg : GrK tp nd cnt g) : isGr tp nd g := by
  refine ⟨hg.1, hg.2.1, fun j j0 j1 hj => ?_, hg.2.2.2⟩
  by_cases c : j < cnt
  · exact hg.2.2.1 j j0 c hj
  · have := h.2 j (by omega) j1 j0
    omega
/-- one more subscriber: the greater of both -/
theorem GrK_mx {E : Int → Int → Int → Int → Prop} {cnt k g : Int} {strt goal tp nd : Int → Int} (hc : cnt ≤ 6) (hk : 0 ≤ k ∧ k < cnt) (h : isGat E cnt strt goal tp nd) (hg : GrK tp nd k g) : GrK tp nd (k + 1) (max g (noF nd k)) := by
  have a := h.1 k hk.1 hk.2 (by omega)
  have v := isGat_V h
  unfold noF
  by_cases e : nd k = -1
  · rw [if_pos e, show max g (-13) = g by have := hg.1; omega]
    exact GrK_keep hg (fun z => by rw [a.2, if_pos e] at z; exact absurd z (by decide))
  · rw [if_neg e]
    have t : tp k = 1 := by rw [a.2, if_neg e]
    by_cases l : g < nd k
    · rw [show max g (nd k) = nd k by omega]
      exact GrK_take v ⟨hk.1, by omega⟩ hg t l
    · rw [show max g (nd k) = g by omega]
      exact GrK_keep hg (fun _ => by omega)
/-- the law's share, range by range -/
theorem shR_more (t nd : Int → Int) {r : Int} (hr : 1 ≤ r) : shR t nd (r - 1).toNat + (60 * r * r - 60 * (r - 1) * (r - 1)) / cntN t nd r = shR t nd r.toNat := by
  rw [show r.toNat = (r - 1).toNat + 1 by omega]
  show _ = shR t nd (r - 1).toNat + dC (((r - 1).toNat : Nat) + 1) / cntN t nd (((r - 1).toNat : Nat) + 1)
  rw [show (((r - 1).toNat : Nat) : Int) + 1 = r by omega]
  rfl
/-- share and share by orders are the law's -/
theorem shrP_gat {E : Int → Int → Int → Int → Prop} {cnt ship z : Int} {strt goal tp nd : Int → Int} (hs : 0 ≤ ship ∧ ship < cnt) (h : isGat E cnt strt goal tp nd) (hz : shrP E cnt strt goal ship z) : z = if tp ship = 1 then shR tp nd (nd ship).toNat else -1 := by
  obtain ⟨⟨h0, h1⟩, tq, nq, hg, hq⟩ := hz
  have ag : agT tp tq nd nq := fun j j0 j1 => by
    by_cases c : j < cnt
    · have a := h.1 j j0 c j1
      have b := hg.1 j j0 c j1
      have en := needP_uniq a.1 b.1
      exact ⟨by rw [a.2, b.2, en], fun _ => en⟩
    · have a := h.2 j (by omega) j1 j0
      have b := hg.2 j (by omega) j1 j0
      exact ⟨by rw [a, b], fun z => absurd z (by omega)⟩
  have q := ag ship h0 h1
  rcases hq with ⟨b1, b2⟩ | ⟨b1, b2⟩
  · rw [if_neg (fun z => by have := q.1.symm.trans z; omega)]
    exact b2
  · have e := q.1.trans b1
    rw [if_pos e, b2]
    exact (shJ_cg ag h0 h1 e).symm
