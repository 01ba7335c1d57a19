/-! ===== p57: who is lit could pay the share of all; the next range is no greater than the greatest need (draft, not yet compiled) ===== -/
theorem plan_sub {E : Int → Int → Int → Int → Prop} {cnt : Int} {strt goal money tp0 nd0 tq nq sq : Int → Int} (hc : cnt ≤ 6) (h0 : isGat E cnt strt goal tp0 nd0) (h : isPlan E cnt strt goal money tq nq sq) : ∃ tp1, agT tp0 tp1 nd0 nq ∧ (∀ j, 0 ≤ j → j < 6 → tq j = 1 → tp1 j = 1) ∧ ∀ j, 0 ≤ j → j < cnt → tq j = 1 → shR tq nq (nq j).toNat ≤ money j := by
  obtain ⟨⟨tp1, k, hg, hl⟩, -, -⟩ := h
  have e := isLeft_end hc hl
  refine ⟨tp1, fun j j0 j1 => ?_, e.2, e.1⟩
  by_cases c : j < cnt
  · have a := h0.1 j j0 c j1
    have b := hg.1 j j0 c j1
    have en := needP_uniq a.1 b.1
    exact ⟨by rw [a.2, b.2, en], fun _ => en⟩
  · have a := h0.2 j (by omega) j1 j0
    have b := hg.2 j (by omega) j1 j0
    exact ⟨by rw [a, b], fun z => absurd z (by omega)⟩
theorem plan_le {E : Int → Int → Int → Int → Prop} {cnt g g0 : Int} {strt goal money tp0 nd0 tq nq sq : Int → Int} (hc : cnt ≤ 6) (h0 : isGat E cnt strt goal tp0 nd0) (hg0 : isGr tp0 nd0 g0) (h : isPlan E cnt strt goal money tq nq sq) (hg : isGr tq nq g) : g ≤ g0 := by
  obtain ⟨tp1, ag, sub, -⟩ := plan_sub hc h0 h
  rcases hg.2.2.2 with q | ⟨j, j0, j1, jt, je⟩
  · have := hg0.1
    omega
  · have a := ag j j0 j1
    have t0 : tp0 j = 1 := a.1.trans (sub j j0 j1 jt)
    have := hg0.2.2.1 j j0 j1 t0
    have := a.2 t0
    omega
theorem plan_lit {E : Int → Int → Int → Int → Prop} {cnt ship : Int} {strt goal money tp0 nd0 tq nq sq : Int → Int} (hc : cnt ≤ 6) (hs : 0 ≤ ship ∧ ship < cnt) (h0 : isGat E cnt strt goal tp0 nd0) (h : isPlan E cnt strt goal money tq nq sq) (ht : tq ship = 1) : tp0 ship = 1 ∧ shR tp0 nd0 (nd0 ship).toNat ≤ money ship := by
  have hv := h.2.2
  obtain ⟨tp1, ag, sub, pay⟩ := plan_sub hc h0 h
  have t1 := sub ship hs.1 (by omega) ht
  have t0 : tp0 ship = 1 := (ag ship hs.1 (by omega)).1.trans t1
  have n0 := hv.2 ship hs.1 (by omega) ht
  refine ⟨t0, ?_⟩
  have a := shJ_cg ag hs.1 (by omega) t0
  have b := shR_sub (t := tp1) (t' := tq) (nd := nq) sub hs.1 (by omega) ht (nq ship).toNat (by omega)
  have c := pay ship hs.1 hs.2 ht
  omega
