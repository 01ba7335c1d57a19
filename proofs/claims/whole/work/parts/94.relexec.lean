/-! ===== each command is refused, or done, alike on both sides ===== -/
section
variable {B N : Int} {s s' : Nat → Int → Int} {ms ms' : Int → Int} {a b w r z f t : Int}
theorem eq_port (h : RelS N s ms) (hf : portF (s 0 0) f) (hc : ChS s) (hm : mAddPort ms z t ms') : (f = 0 ∧ t = 0 ∧ z = s 0 0 ∧ ms' = zU ms 0 (ms 0 + 1)) ∨ (f = 3 ∧ t = 1 ∧ ms' = ms) := by
  have e0 : ms 0 = s 0 0 := h.1.1
  have h10 := hc.2.1
  rcases hf with ⟨f1, f2⟩ | ⟨f1, f2⟩
  · rcases hm with ⟨t1, t2, t3⟩ | ⟨t1, t2, t3, t4⟩
    · exact Or.inr ⟨f1, t1, t3⟩
    · exfalso; omega
  · rcases hm with ⟨t1, t2, t3⟩ | ⟨t1, t2, t3, t4⟩
    · exfalso; omega
    · exact Or.inl ⟨f1, t1, by omega, t4⟩
theorem eq_leg (hc : ChS s) (hu : ChW s) (h : RelS N s ms) (hf : legF (s 0 0) (s 1 0) (s 2) (s 3) a b w r f) (hm : mAddLeg ms a b w r z t ms') : f = t := by
  have e0 : ms 0 = s 0 0 := h.1.1
  have el := rel_lgs hc hu h
  have h20 := hc.2.2.2.1
  unfold mAddLeg at hm
  rw [e0, el] at hm
  rcases hf with ⟨f1, fp⟩ | ⟨fp, hf⟩
  · rcases hm with ⟨t1, -, -⟩ | ⟨tp, -⟩
    · exact f1.trans t1.symm
    · exact absurd tp fp
  · rcases hm with ⟨-, tp, -⟩ | ⟨-, hm⟩
    · exact absurd fp tp
    · have eh := rel_has hc h fp
      rcases hf with ⟨f2, fb⟩ | ⟨fg, hf⟩
      · rcases hm with ⟨t2, -, -⟩ | ⟨tg, -⟩
        · exact f2.trans t2.symm
        · exfalso; clear eh; omega
      · rcases hm with ⟨-, tb, -⟩ | ⟨-, hm⟩
        · exfalso; clear eh; omega
        · rcases hf with ⟨f3, fx⟩ | ⟨f0, fl, fn⟩
          · rcases hm with ⟨t3, -, -⟩ | ⟨-, t1, t2, -⟩
            · exact f3.trans t3.symm
            · rcases fx with fx | fx
              · exfalso; clear eh; omega
              · have := eh.mp fx
                exfalso; clear eh; omega
          · rcases hm with ⟨-, t1, -⟩ | ⟨t0, -⟩
            · rcases t1 with t1 | t1
              · exfalso; clear eh; omega
              · exact absurd (eh.mpr t1) fn
            · exact f0.trans t0.symm
theorem eq_cut (hc : ChS s) (h : RelS N s ms) (hf : cutF (s 0 0) (s 1 0) (s 2) (s 3) a b f) (hm : mRemoveLeg ms a b z t ms') : (f = 0 ∧ t = 0) ∨ (f = 1 ∧ t = 1) ∨ (f = 4 ∧ t = 2) := by
  have e0 : ms 0 = s 0 0 := h.1.1
  unfold mRemoveLeg at hm
  rw [e0] at hm
  rcases hf with ⟨f1, fp⟩ | ⟨fp, hf⟩
  · rcases hm with ⟨t1, -, -⟩ | ⟨tp, -⟩
    · exact Or.inr (Or.inl ⟨f1, t1⟩)
    · exact absurd tp fp
  · rcases hm with ⟨-, tp, -⟩ | ⟨-, hm⟩
    · exact absurd fp tp
    · have eh := rel_has hc h fp
      rcases hf with ⟨f1, fn⟩ | ⟨f1, fh⟩
      · rcases hm with ⟨t1, -⟩ | ⟨-, t1, -⟩
        · exact Or.inr (Or.inr ⟨f1, t1⟩)
        · exact absurd ((rel_no hc h fp).mp fn) t1
      · rcases hm with ⟨-, t1, -⟩ | ⟨t1, -⟩
        · have := eh.mp fh
          exfalso; clear eh; omega
        · exact Or.inl ⟨f1, t1⟩
theorem need_no {ms : Int → Int} : needP (egM ms) a b (-1) ↔ ¬ cn (egM ms 20) a b := by
  constructor
  · rintro (⟨-, h⟩ | ⟨h, -⟩)
    · exact h 20 (Int.le_refl _)
    · exact absurd h (by decide)
  · intro h
    exact Or.inl ⟨rfl, fun r hr hc => h (cn_mono (fun a b w e => egM_mon r 20 a b w hr e) hc)⟩
theorem need_yes {ms : Int → Int} (h : ∃ nz, nz ≠ -1 ∧ needP (egM ms) a b nz) : cn (egM ms 20) a b := by
  obtain ⟨nz, n0, h⟩ := h
  rcases h with ⟨h, -⟩ | ⟨h0, h1, h2, -⟩
  · exact absurd h n0
  · exact cn_mono (fun a b w e => egM_mon nz 20 a b w h1 e) h2
theorem eq_ship (hv : SVk B N s) (h : RelS N s ms) (hf : shipF (s 0 0) (s 7 0) (sE s) a b w f) (hm : mSubscribe ms a b w z t ms') : (f = 0 ∧ t = 0) ∨ (f = 1 ∧ t = 1) ∨ (f = 2 ∧ t = 2) ∨ (f = 3 ∧ t = 3) ∨ (f = 5 ∧ t = 4) := by
  have e0 : ms 0 = s 0 0 := h.1.1
  have e1 : ms 1 = s 7 0 := h.1.2.1
  have h6 := hv.2.2.2.1.2
  have hE := rel_sE hv.1 h
  rw [hE] at hf
  unfold mSubscribe at hm
  rw [e0, e1] at hm
  rcases hf with ⟨f1, fp⟩ | ⟨fp, hf⟩
  · rcases hm with ⟨t1, -, -⟩ | ⟨tp, -⟩
    · exact Or.inr (Or.inl ⟨f1, t1⟩)
    · exact absurd tp fp
  · rcases hm with ⟨-, tp, -⟩ | ⟨-, hm⟩
    · exact absurd fp tp
    · rcases hf with ⟨f1, fb⟩ | ⟨fg, hf⟩
      · rcases hm with ⟨t1, -⟩ | ⟨tg, -⟩
        · exact Or.inr (Or.inr (Or.inl ⟨f1, t1⟩))
        · exfalso; clear hE; omega
      · rcases hm with ⟨-, tb, -⟩ | ⟨-, hm⟩
        · exfalso; clear hE; omega
        · rcases hf with ⟨f1, f6⟩ | ⟨f6, hf⟩
          · rcases hm with ⟨t1, -⟩ | ⟨t6, -⟩
            · exact Or.inr (Or.inr (Or.inr (Or.inl ⟨f1, t1⟩)))
            · exfalso; clear hE; omega
          · rcases hm with ⟨-, t6, -⟩ | ⟨-, hm⟩
            · exfalso; clear hE hf; omega
            · rcases hf with ⟨f1, fn⟩ | ⟨f1, fn⟩
              · rcases hm with ⟨t1, -⟩ | ⟨-, tn, -⟩
                · exact Or.inr (Or.inr (Or.inr (Or.inr ⟨f1, t1⟩)))
                · exact absurd tn (need_no.mp fn)
              · rcases hm with ⟨-, tn, -⟩ | ⟨t1, -⟩
                · exact absurd (need_yes fn) tn
                · exact Or.inl ⟨f1, t1⟩
theorem eq_pay (h : RelS N s ms) (hf : payF (s 7 0) a w f) (hm : mDeposit ms a w z t ms') : f = t := by
  have e1 : ms 1 = s 7 0 := h.1.2.1
  unfold mDeposit at hm
  rw [e1] at hm
  rcases hf with ⟨f1, f2⟩ | ⟨f1, ⟨f2, f3⟩ | ⟨f2, f3⟩⟩
  · rcases hm with ⟨t1, t2, -⟩ | ⟨t1, -⟩
    · omega
    · exact absurd t1 f2
  · rcases hm with ⟨t1, t2, -⟩ | ⟨t1, ⟨t2, t3, -⟩ | ⟨t2, t3, -⟩⟩
    · exact absurd f1 t2
    · omega
    · exact absurd t3 f3
  · rcases hm with ⟨t1, t2, -⟩ | ⟨t1, ⟨t2, t3, -⟩ | ⟨t2, t3, -⟩⟩
    · exact absurd f1 t2
    · exact absurd f3 t3
    · omega
theorem eq_leav (h : RelS N s ms) (hf : leavF (s 7 0) a f) (hm : mLeave ms a z t ms') : f = t := by
  have e1 : ms 1 = s 7 0 := h.1.2.1
  unfold mLeave at hm
  rw [e1] at hm
  rcases hf with ⟨f1, f2⟩ | ⟨f1, f2⟩
  · rcases hm with ⟨t1, t2, -⟩ | ⟨t1, -⟩
    · exact absurd f2 t2
    · omega
  · rcases hm with ⟨t1, t2, -⟩ | ⟨t1, t2, -⟩
    · omega
    · exact absurd t2 f2
theorem eq_fog (hf : fogF a f) (hm : mSetFog ms a z t ms') : (f = 0 ∧ t = 0) ∨ (f = 2 ∧ t = 1) := by
  rcases hf with ⟨f1, f2⟩ | ⟨f1, f2⟩
  · rcases hm with ⟨t1, t2, -⟩ | ⟨t1, t2, -⟩
    · exact Or.inr ⟨f1, t1⟩
    · exact absurd t2 f2
  · rcases hm with ⟨t1, t2, -⟩ | ⟨t1, t2, -⟩
    · exact absurd f2 t2
    · exact Or.inl ⟨f1, t1⟩
/-! what a command leaves, when it is done -/
theorem do_leg (hv : SVk B N s) (h : RelS N s ms) (hN : 0 ≤ N) (hf : legF (s 0 0) (s 1 0) (s 2) (s 3) a b w r 0) {p : Int} (hp : 0 ≤ p ∧ p ≤ s 1 0) (hm : mAddLeg ms a b w r z 0 ms') : RelS N (sLeg s a b w r p) ms' ∧ z = lgsM ms' := by
  obtain ⟨-, ⟨hin, hne, hw0, hw1, hr0, hr1⟩, hl, hnl⟩ := legF_0 hf (by decide)
  rcases hm with ⟨t1, -⟩ | ⟨-, ⟨t1, -⟩ | ⟨-, ⟨t1, -⟩ | ⟨-, -, -, e, ez⟩⟩⟩
  · exact absurd t1 (by decide)
  · exact absurd t1 (by decide)
  · exact absurd t1 (by decide)
  · subst e
    exact ⟨rel_leg hv.1 h hN hin hne ⟨hw0, hw1⟩ ⟨hr0, hr1⟩ hnl hp, ez⟩
theorem do_cut (hv : SVk B N s) (h : RelS N s ms) (hf : cutF (s 0 0) (s 1 0) (s 2) (s 3) a b 0) {p : Int} (hp : 0 ≤ p ∧ p < s 1 0 ∧ s 2 p = min a b ∧ s 3 p = max a b) (hm : mRemoveLeg ms a b z 0 ms') : RelS N (sCut s p) ms' ∧ z = s 4 p := by
  obtain ⟨-, hin, -⟩ := cutF_0 hf (by decide)
  rcases hm with ⟨t1, -⟩ | ⟨-, ⟨t1, -⟩ | ⟨-, -, ez, e⟩⟩
  · exact absurd t1 (by decide)
  · exact absurd t1 (by decide)
  · subst e
    exact ⟨rel_cut hv.1 hv.2.1 h hin hp, ez.trans (rel_at hv.1 h hin hp.1 hp.2.1 hp.2.2.1 hp.2.2.2).1⟩
theorem do_ship (hv : SVk B N s) (h : RelS N s ms) (hm : mSubscribe ms a b w z 0 ms') : RelS N (sShip s a b w) ms' ∧ z = s 7 0 := by
  rcases hm with ⟨t1, -⟩ | ⟨-, ⟨t1, -⟩ | ⟨-, ⟨t1, -⟩ | ⟨-, ⟨t1, -⟩ | ⟨-, -, ez, e⟩⟩⟩⟩
  · exact absurd t1 (by decide)
  · exact absurd t1 (by decide)
  · exact absurd t1 (by decide)
  · exact absurd t1 (by decide)
  · subst e
    exact ⟨rel_ship hv.1 h hv.2.2.2.1.1, ez.trans h.1.2.1⟩
theorem do_pay (hv : SVk B N s) (h : RelS N s ms) (hm : mDeposit ms a w z 0 ms') : RelS N (sPay s a w) ms' ∧ z = s 10 a + w := by
  have e1 : ms 1 = s 7 0 := h.1.2.1
  unfold mDeposit at hm
  rw [e1] at hm
  rcases hm with ⟨t1, -⟩ | ⟨hi, ⟨t1, -⟩ | ⟨-, -, e, ez⟩⟩
  · exact absurd t1 (by decide)
  · exact absurd t1 (by decide)
  · subst e
    have r := rel_pay (w := w) hv.1 h hi
    refine ⟨r, ez.trans ?_⟩
    have q := (r.2.1 a hi.1 hi.2).2.2.1
    rw [q]
    show zU (s 10) a (s 10 a + w) a = _
    rw [zU_same]
theorem do_leav (hv : SVk B N s) (h : RelS N s ms) (hm : mLeave ms a z 0 ms') : RelS N (sLeav s a) ms' ∧ z = s 10 a := by
  have e1 : ms 1 = s 7 0 := h.1.2.1
  rcases hm with ⟨t1, -⟩ | ⟨-, hi, ez, e⟩
  · exact absurd t1 (by decide)
  · subst e
    rw [e1] at hi
    exact ⟨rel_leav hv.1 h hi, ez.trans (h.2.1 a hi.1 hi.2).2.2.1⟩
theorem do_fog (hv : SVk B N s) (h : RelS N s ms) (hm : mSetFog ms a z 0 ms') : RelS N (sFog s a) ms' ∧ z = s 15 0 := by
  rcases hm with ⟨t1, -⟩ | ⟨-, -, ez, e⟩
  · exact absurd t1 (by decide)
  · subst e
    exact ⟨rel_fog hv.1 h, ez.trans h.1.2.2.1⟩
theorem do_nig (hv : SVk B N s) (h : RelS N s ms) {tp nd sh tk nd' : Int → Int} {g g' : Int} (h1 : isPlan (sE s) (s 7 0) (s 8) (s 9) (s 10) tp nd sh) (h2 : isGr tp nd g) (g1 : plnM ms tk nd') (g2 : isGr (mkT (ms 1) tk) nd' g') (g3 : nigM ms (mkT (ms 1) tk) nd' g' ms') : RelS (N + 1) (sNig s tp sh g) ms' ∧ sm tp (s 7 0).toNat = sm (mkT (ms 1) tk) (ms 1).toNat := by
  have e1 : ms 1 = s 7 0 := h.1.2.1
  have ag := rel_plan hv h h1 g1
  have e := rel_gr ag h2 g2
  subst e
  refine ⟨rel_nig hv h ag h1.2.1 g2 g3, ?_⟩
  rw [e1] at ag ⊢
  have h6 := hv.2.2.2.1
  exact sm_upto (fun j j0 j1 => (ag j j0 (by omega)).1)
/-! a command by its letter -/
theorem doM_i {kd a b c d : Int} {ms : Int → Int} {th : Int} {ms' : Int → Int} (g : doM kd a b c d ms th ms') : (kd = 120 → ∃ z, mLeave ms a z th ms') ∧ (kd = 108 → ∃ z, mAddLeg ms a b c d z th ms') ∧ (kd = 99 → ∃ z, mRemoveLeg ms a b z th ms') ∧ (kd = 115 → ∃ z, mSubscribe ms a b c z th ms') ∧ (kd = 112 → ∃ z, mDeposit ms a b z th ms') ∧ (kd = 102 → ∃ z, mSetFog ms a z th ms') ∧
  (kd = 110 → th = 0 ∧ ∃ tk nd, plnM ms tk nd ∧ ∃ g, isGr (mkT (ms 1) tk) nd g ∧ nigM ms (mkT (ms 1) tk) nd g ms') ∧ (kd = 111 → ∃ z, mAddPort ms z th ms') := by
  have no : ∀ {k k' : Int} {P : Prop}, kd = k → k ≠ k' → kd = k' → P := fun h1 h2 h3 => absurd (h1.symm.trans h3) h2
  rcases g with ⟨e, r⟩ | ⟨e, r⟩ | ⟨e, r⟩ | ⟨e, r⟩ | ⟨e, r⟩ | ⟨e, r⟩ | ⟨e, r⟩ | ⟨e, r⟩
  · exact ⟨fun _ => r, no e (by decide), no e (by decide), no e (by decide), no e (by decide), no e (by decide), no e (by decide), no e (by decide)⟩
  · exact ⟨no e (by decide), fun _ => r, no e (by decide), no e (by decide), no e (by decide), no e (by decide), no e (by decide), no e (by decide)⟩
  · exact ⟨no e (by decide), no e (by decide), fun _ => r, no e (by decide), no e (by decide), no e (by decide), no e (by decide), no e (by decide)⟩
  · exact ⟨no e (by decide), no e (by decide), no e (by decide), fun _ => r, no e (by decide), no e (by decide), no e (by decide), no e (by decide)⟩
  · exact ⟨no e (by decide), no e (by decide), no e (by decide), no e (by decide), fun _ => r, no e (by decide), no e (by decide), no e (by decide)⟩
  · exact ⟨no e (by decide), no e (by decide), no e (by decide), no e (by decide), no e (by decide), fun _ => r, no e (by decide), no e (by decide)⟩
  · exact ⟨no e (by decide), no e (by decide), no e (by decide), no e (by decide), no e (by decide), no e (by decide), fun _ => r, no e (by decide)⟩
  · exact ⟨fun h => absurd h e.1, fun h => absurd h e.2.1, fun h => absurd h e.2.2.1, fun h => absurd h e.2.2.2.1, fun h => absurd h e.2.2.2.2.1, fun h => absurd h e.2.2.2.2.2.1, fun h => absurd h e.2.2.2.2.2.2, fun _ => r⟩
theorem rel_cmd (hv : SVk B N s) (h : RelS N s ms) (hN : 0 ≤ N) {c : Nat} {x y a' b' x' y' kd : Int} (hk : kd = kdC c) (h1 : 0 < sLn (dgI c) → a' = a) (h2 : 1 < sLn (dgI c) → b' = b) (h3 : 2 < sLn (dgI c) → x' = x) (h4 : 3 < sLn (dgI c) → y' = y)
    (hf : fltC (s 0 0) (s 1 0) (s 2) (s 3) (s 7 0) (sE s) c a b x y f) (hd : doM kd a' b' x' y' ms t ms') : (f = 0 ↔ t = 0) ∧ (t = 0 → effC c a b x y s s' → RelS (N + 1) s' ms') := by
  have hc := hv.1
  have hu := hv.2.1
  obtain ⟨d5, d1, d2, d3, d4, d6, d7, d0⟩ := doM_i hd
  rcases hf with ⟨rfl, hf⟩ | ⟨rfl, hf⟩ | ⟨rfl, hf⟩ | ⟨rfl, hf⟩ | ⟨rfl, hf⟩ | ⟨rfl, hf⟩ | ⟨rfl, hf⟩ | ⟨rfl, hf⟩
  · obtain ⟨z, hm⟩ := d0 hk
    have q := eq_port h hf hc hm
    refine ⟨by omega, fun t0 he => ?_⟩
    rcases q with ⟨q0, q1, q2, q3⟩ | ⟨q0, q1, q2⟩
    · subst q3
      rcases he with ⟨-, rfl⟩ | ⟨e, -⟩ | ⟨e, -⟩ | ⟨e, -⟩ | ⟨e, -⟩ | ⟨e, -⟩ | ⟨e, -⟩ | ⟨e, -⟩
      · exact RelS_mono (rel_port hc h) (by omega)
      all_goals exact absurd e (by decide)
    · exfalso; omega
  · obtain ⟨z, hm⟩ := d1 hk
    have e1 := h1 (by decide); have e2 := h2 (by decide); have e3 := h3 (by decide); have e4 := h4 (by decide)
    subst e1 e2 e3 e4
    have q := eq_leg hc hu h hf hm
    refine ⟨by omega, fun t0 he => ?_⟩
    subst t0
    subst q
    rcases he with ⟨e, -⟩ | ⟨-, p, p1, -, -, rfl⟩ | ⟨e, -⟩ | ⟨e, -⟩ | ⟨e, -⟩ | ⟨e, -⟩ | ⟨e, -⟩ | ⟨e, -⟩
    · exact absurd e (by decide)
    · exact RelS_mono (do_leg hv h hN hf p1 hm).1 (by omega)
    all_goals exact absurd e (by decide)
  · obtain ⟨z, hm⟩ := d2 hk
    have e1 := h1 (by decide); have e2 := h2 (by decide)
    subst e1 e2
    have q := eq_cut hc h hf hm
    refine ⟨by omega, fun t0 he => ?_⟩
    subst t0
    have q0 : f = 0 := by omega
    subst q0
    rcases he with ⟨e, -⟩ | ⟨e, -⟩ | ⟨-, p, p1, rfl⟩ | ⟨e, -⟩ | ⟨e, -⟩ | ⟨e, -⟩ | ⟨e, -⟩ | ⟨e, -⟩
    · exact absurd e (by decide)
    · exact absurd e (by decide)
    · exact RelS_mono (do_cut hv h hf p1 hm).1 (by omega)
    all_goals exact absurd e (by decide)
  · obtain ⟨z, hm⟩ := d3 hk
    have e1 := h1 (by decide); have e2 := h2 (by decide); have e3 := h3 (by decide)
    subst e1 e2 e3
    have q := eq_ship hv h hf hm
    refine ⟨by omega, fun t0 he => ?_⟩
    subst t0
    rcases he with ⟨e, -⟩ | ⟨e, -⟩ | ⟨e, -⟩ | ⟨-, rfl⟩ | ⟨e, -⟩ | ⟨e, -⟩ | ⟨e, -⟩ | ⟨e, -⟩
    · exact absurd e (by decide)
    · exact absurd e (by decide)
    · exact absurd e (by decide)
    · exact RelS_mono (do_ship hv h hm).1 (by omega)
    all_goals exact absurd e (by decide)
  · obtain ⟨z, hm⟩ := d4 hk
    have e1 := h1 (by decide); have e2 := h2 (by decide)
    subst e1 e2
    have q := eq_pay h hf hm
    refine ⟨by omega, fun t0 he => ?_⟩
    subst t0
    rcases he with ⟨e, -⟩ | ⟨e, -⟩ | ⟨e, -⟩ | ⟨e, -⟩ | ⟨-, rfl⟩ | ⟨e, -⟩ | ⟨e, -⟩ | ⟨e, -⟩
    · exact absurd e (by decide)
    · exact absurd e (by decide)
    · exact absurd e (by decide)
    · exact absurd e (by decide)
    · exact RelS_mono (do_pay hv h hm).1 (by omega)
    all_goals exact absurd e (by decide)
  · obtain ⟨z, hm⟩ := d5 hk
    have e1 := h1 (by decide)
    subst e1
    have q := eq_leav h hf hm
    refine ⟨by omega, fun t0 he => ?_⟩
    subst t0
    rcases he with ⟨e, -⟩ | ⟨e, -⟩ | ⟨e, -⟩ | ⟨e, -⟩ | ⟨e, -⟩ | ⟨-, rfl⟩ | ⟨e, -⟩ | ⟨e, -⟩
    · exact absurd e (by decide)
    · exact absurd e (by decide)
    · exact absurd e (by decide)
    · exact absurd e (by decide)
    · exact absurd e (by decide)
    · exact RelS_mono (do_leav hv h hm).1 (by omega)
    all_goals exact absurd e (by decide)
  · obtain ⟨z, hm⟩ := d6 hk
    have e1 := h1 (by decide)
    subst e1
    have q := eq_fog hf hm
    refine ⟨by omega, fun t0 he => ?_⟩
    subst t0
    rcases he with ⟨e, -⟩ | ⟨e, -⟩ | ⟨e, -⟩ | ⟨e, -⟩ | ⟨e, -⟩ | ⟨e, -⟩ | ⟨-, rfl⟩ | ⟨e, -⟩
    · exact absurd e (by decide)
    · exact absurd e (by decide)
    · exact absurd e (by decide)
    · exact absurd e (by decide)
    · exact absurd e (by decide)
    · exact absurd e (by decide)
    · exact RelS_mono (do_fog hv h hm).1 (by omega)
    · exact absurd e (by decide)
  · obtain ⟨t0, tk, nd', g1, g', g2, g3⟩ := d7 hk
    refine ⟨by omega, fun _ he => ?_⟩
    rcases he with ⟨e, -⟩ | ⟨e, -⟩ | ⟨e, -⟩ | ⟨e, -⟩ | ⟨e, -⟩ | ⟨e, -⟩ | ⟨e, -⟩ | ⟨-, tp, nd, sh, g, p1, p2, rfl⟩
    · exact absurd e (by decide)
    · exact absurd e (by decide)
    · exact absurd e (by decide)
    · exact absurd e (by decide)
    · exact absurd e (by decide)
    · exact absurd e (by decide)
    · exact absurd e (by decide)
    · exact (do_nig hv h p1 p2 g1 g2 g3).1
end
/-! runs of commands -/
section
variable {txt : Int → Int} {len : Int} {B N : Int} {s s' : Nat → Int → Int} {ms ms' : Int → Int} {c : Int → Int}
def cmAll (txt : Int → Int) (len : Int) (c : Int → Int) (n : Int) : Prop := ∀ i : Nat, (i : Int) < n → cmEq c i (cmK txt len i) (vlK txt len i)
theorem cm_step {n : Nat} {f t : Int} (hv : SVk B N s) (h : RelS N s ms) (hN : 0 ≤ N) (he : cmEq c n (cmK txt len n) (vlK txt len n)) (hf : fltK txt len n s f) (hd : doM (c (5 * (n : Int))) (c (5 * (n : Int) + 1)) (c (5 * (n : Int) + 2)) (c (5 * (n : Int) + 3)) (c (5 * (n : Int) + 4)) ms t ms') : (f = 0 ↔ t = 0) ∧ (t = 0 → effC (cmK txt len n) (vlK txt len n 0) (vlK txt len n 1) (vlK txt len n 2) (vlK txt len n 3) s s' → RelS (N + 1) s' ms') := by
  refine rel_cmd hv h hN he.1 (fun g => ?_) (fun g => ?_) (fun g => ?_) (fun g => ?_) hf hd
  · have e := he.2 0 g
    rw [show 5 * (n : Int) + 1 + ((0 : Nat) : Int) = 5 * (n : Int) + 1 by omega] at e
    exact e
  · have e := he.2 1 g
    rw [show 5 * (n : Int) + 1 + ((1 : Nat) : Int) = 5 * (n : Int) + 2 by omega] at e
    exact e
  · have e := he.2 2 g
    rw [show 5 * (n : Int) + 1 + ((2 : Nat) : Int) = 5 * (n : Int) + 3 by omega] at e
    exact e
  · have e := he.2 3 g
    rw [show 5 * (n : Int) + 1 + ((3 : Nat) : Int) = 5 * (n : Int) + 4 by omega] at e
    exact e
theorem rel_run (hv : SVk B N s) (h : RelS N s ms) (hB : 0 ≤ B) (hN : 0 ≤ N) : ∀ {n : Nat} {s' : Nat → Int → Int} {ms' : Int → Int}, cmAll txt len c n → runC txt len n s s' → runM c n ms ms' → SVk (B + 9999 * n) (N + n) s' ∧ RelS (N + n) s' ms'
  | 0, s', ms', _, h1, h2 => by
    have h1 : s' = s := h1
    have h2 : ms' = ms := h2
    subst h1 h2
    rw [show B + 9999 * ((0 : Nat) : Int) = B by omega, show N + ((0 : Nat) : Int) = N by omega]
    exact ⟨hv, h⟩
  | n + 1, s', ms', hc, h1, h2 => by
    obtain ⟨q, q1, q2, q3⟩ := h1
    obtain ⟨m, m1, m2⟩ := h2
    obtain ⟨i1, i2⟩ := rel_run hv h hB hN (n := n) (fun i hi => hc i (by omega)) q1 m1
    have st := cm_step (s' := s') i1 i2 (by omega) (hc n (by omega)) q2 m2
    have r := st.2 rfl q3
    have v := SVk_eff i1 (by omega) (by omega) q2 q3
    rw [show B + 9999 * ((n + 1 : Nat) : Int) = B + 9999 * (n : Int) + 9999 by omega, show N + ((n + 1 : Nat) : Int) = N + (n : Int) + 1 by omega]
    exact ⟨v, r⟩
theorem runC_pre : ∀ {n : Nat} {s' : Nat → Int → Int}, runC txt len n s s' → ∀ k : Nat, k < n → ∃ q q', runC txt len k s q ∧ stpC txt len k q q'
  | 0, _, _, k, hk => absurd hk (Nat.not_lt_zero _)
  | n + 1, s', h, k, hk => by
    obtain ⟨q, q1, q2⟩ := h
    by_cases e : k = n
    · subst e; exact ⟨q, s', q1, q2⟩
    · exact runC_pre q1 k (by omega)
theorem runM_pre : ∀ {n : Nat} {ms' : Int → Int}, runM c n ms ms' → ∀ k : Nat, k < n → ∃ q q', runM c k ms q ∧ doM (c (5 * (k : Int))) (c (5 * (k : Int) + 1)) (c (5 * (k : Int) + 2)) (c (5 * (k : Int) + 3)) (c (5 * (k : Int) + 4)) q 0 q'
  | 0, _, _, k, hk => absurd hk (Nat.not_lt_zero _)
  | n + 1, ms', h, k, hk => by
    obtain ⟨q, q1, q2⟩ := h
    by_cases e : k = n
    · subst e; exact ⟨q, ms', q1, q2⟩
    · exact runM_pre q1 k (by omega)
/-- the class did n commands, the reference's command k < n is done as well -/
theorem no_fail (hv : SVk B N s) (h : RelS N s ms) (hB : 0 ≤ B) (hN : 0 ≤ N) {n k : Nat} {q q' : Int → Int} {t : Int} (hc : cmAll txt len c n) (h1 : runC txt len n s s') (hk : k < n) (h2 : runM c k ms q) (hd : doM (c (5 * (k : Int))) (c (5 * (k : Int) + 1)) (c (5 * (k : Int) + 2)) (c (5 * (k : Int) + 3)) (c (5 * (k : Int) + 4)) q t q') : t = 0 := by
  obtain ⟨p, p', p1, p2, -⟩ := runC_pre h1 k hk
  obtain ⟨i1, i2⟩ := rel_run hv h hB hN (fun i hi => hc i (by omega)) p1 h2
  exact ((cm_step (s' := p') i1 i2 (by omega) (hc k (by omega)) p2 hd).1).mp rfl
/-- the class refused command n: the reference doesn't do it either -/
theorem no_more (hv : SVk B N s) (h : RelS N s ms) (hB : 0 ≤ B) (hN : 0 ≤ N) {n k : Nat} {q : Int → Int} (hc : cmAll txt len c k) (h1 : runC txt len n s s') (hfl : flsC txt len n s') (h2 : runM c k ms q) : k ≤ n := by
  refine Classical.byContradiction fun g => ?_
  obtain ⟨m, m', m1, m2⟩ := runM_pre h2 n (by omega)
  obtain ⟨i1, i2⟩ := rel_run hv h hB hN (fun i hi => hc i (by omega)) h1 m1
  obtain ⟨f, f0, f1⟩ := hfl
  exact f0 (((cm_step (s' := s') i1 i2 (by omega) (hc n (by omega)) f1 m2).1).mpr rfl)
theorem okMV_of {c0 : Int → Int} (hl : 0 ≤ len ∧ len ≤ 60) (hv : SVk B N s) (h : RelS N s ms) (hB : 0 ≤ B ∧ B ≤ 900000000) (hN : 0 ≤ N ∧ N ≤ 900000000)
    (ho : (pCnt txt len 60 1 0).1 = -1 ∨ (∃ s', runC txt len (pCnt txt len 60 1 0).1.toNat s s') ∨ ∃ f, failC txt len s f) : okMV txt len c0 ms := by
  intro n c hok k hk q hq
  obtain ⟨e1, e2⟩ := ok_eq hl hok
  have hn := hok.1
  have hcm : cmAll txt len c n := e2
  have hn60 : n ≤ 60 := by
    have s0 := seq_eq (txt := txt) (len := len) hl.1 hok.2
    have s1 := seq_pos hl.1 s0
    omega
  have fin : ∀ {p : Nat → Int → Int}, runC txt len k s p → MV q ∧ MMt q := fun hp => by
    obtain ⟨i1, i2⟩ := rel_run hv h hB.1 hN.1 (fun i hi => hcm i (by omega)) hp hq
    exact rel_MV i1 i2 (by omega) (by omega)
  rcases ho with g | ⟨s', g⟩ | ⟨f, m, p, g0, g1, g2, g3⟩
  · exfalso; omega
  · obtain ⟨p, p', p1, -⟩ := runC_pre g k (by omega)
    exact fin p1
  · have le := no_more hv h hB.1 hN.1 (n := m) (k := k) (fun i hi => hcm i (by omega)) g2 g3 hq
    by_cases e : k = m
    · subst e; exact fin g2
    · obtain ⟨p, p', p1, -⟩ := runC_pre g2 k (by omega)
      exact fin p1
section
variable {c0 bef past : Int → Int} {pm err0 fl0 z th err fl : Int} {bef' past' : Int → Int} {pm' : Int} {c' : Int → Int} {n' : Int}
/-- the class did all -/
theorem ex_0 (hl : 0 ≤ len ∧ len ≤ 60) (hv : SVk B N s) (h : RelS N s ms) (hB : 0 ≤ B) (hN : 0 ≤ N) {zc : Int} (h1 : zc = (pCnt txt len 60 1 0).1 ∧ 1 ≤ zc ∧ zc ≤ 60) (h2 : runC txt len zc.toNat s s') (he : exP txt len c0 ms bef past pm err0 fl0 z th err fl ms' bef' past' pm' c' n') : th = 0 ∧ z = zc ∧ err = err0 ∧ fl = fl0 ∧ past' = pastP ms pm past ∧ pm' = (if pm = 8 then 8 else pm + 1) ∧ RelS (N + zc) s' ms' := by
  rcases he with ⟨-, -, -, -, -, -, -, -, -, g⟩ | ⟨-, -, -, -, -, -, g0, g1, g2, q, q', t, q1, q2, q3⟩ | ⟨g1, g2, g3, g4, g5, g6, g7, g8⟩
  · have := (bad_eq hl g).1
    exfalso; omega
  · obtain ⟨e1, e2⟩ := ok_eq hl g2
    have e2 : cmAll txt len c' n' := e2
    have q3 : doM (c' (5 * ((fl.toNat : Nat) : Int))) (c' (5 * ((fl.toNat : Nat) : Int) + 1)) (c' (5 * ((fl.toNat : Nat) : Int) + 2)) (c' (5 * ((fl.toNat : Nat) : Int) + 3)) (c' (5 * ((fl.toNat : Nat) : Int) + 4)) q t q' := by
      rw [show ((fl.toNat : Nat) : Int) = fl by omega]; exact q3
    have := no_fail hv h hB hN (n := zc.toNat) (k := fl.toNat) (fun i hi => e2 i (by omega)) h2 (by omega) q1 q3
    exfalso; omega
  · obtain ⟨e1, e2⟩ := ok_eq hl g7
    have e2 : cmAll txt len c' n' := e2
    have en : n' = zc := by omega
    subst en
    obtain ⟨-, r⟩ := rel_run hv h hB hN (fun i hi => e2 i (by omega)) h2 g8
    rw [show N + ((n'.toNat : Nat) : Int) = N + n' by omega] at r
    exact ⟨g1, g2, g3, g4, g5, g6, r⟩
/-- the text is malformed -/
theorem ex_1 (hl : 0 ≤ len ∧ len ≤ 60) (h1 : (pCnt txt len 60 1 0).1 = -1) (he : exP txt len c0 ms bef past pm err0 fl0 z th err fl ms' bef' past' pm' c' n') : th = 1 ∧ err = (pCnt txt len 60 1 0).2 ∧ fl = fl0 ∧ ms' = ms ∧ past' = past ∧ pm' = pm := by
  rcases he with ⟨a1, -, a3, a4, -, a6, a7, -, -, g⟩ | ⟨-, -, -, -, -, -, g0, g1, g2, -⟩ | ⟨-, -, -, -, -, -, g7, -⟩
  · exact ⟨a1, (bad_eq hl g).2.symm, a3, a4, a6, a7⟩
  · have := (ok_eq hl g2).1
    have := g2.1
    exfalso; omega
  · have := (ok_eq hl g7).1
    have := g7.1
    exfalso; omega
/-- a command is refused -/
theorem ex_2 (hl : 0 ≤ len ∧ len ≤ 60) (hv : SVk B N s) (h : RelS N s ms) (hB : 0 ≤ B) (hN : 0 ≤ N) {f : Int} (h1 : (pCnt txt len 60 1 0).1 ≠ -1) (h2 : failC txt len s f) (he : exP txt len c0 ms bef past pm err0 fl0 z th err fl ms' bef' past' pm' c' n') : th = 2 ∧ err = err0 ∧ fl = f ∧ ms' = ms ∧ past' = past ∧ pm' = pm := by
  obtain ⟨m, p, m0, m1, m2, m3⟩ := h2
  rcases he with ⟨-, -, -, -, -, -, -, -, -, g⟩ | ⟨a1, -, a3, a4, a5, a6, g0, g1, g2, q, q', t, q1, q2, q3⟩ | ⟨-, -, -, -, -, -, g7, g8⟩
  · exact absurd (bad_eq hl g).1 h1
  · obtain ⟨e1, e2⟩ := ok_eq hl g2
    have e2 : cmAll txt len c' n' := e2
    have q3 : doM (c' (5 * ((fl.toNat : Nat) : Int))) (c' (5 * ((fl.toNat : Nat) : Int) + 1)) (c' (5 * ((fl.toNat : Nat) : Int) + 2)) (c' (5 * ((fl.toNat : Nat) : Int) + 3)) (c' (5 * ((fl.toNat : Nat) : Int) + 4)) q t q' := by
      rw [show ((fl.toNat : Nat) : Int) = fl by omega]; exact q3
    have le := no_more hv h hB hN (n := m) (k := fl.toNat) (fun i hi => e2 i (by omega)) m2 m3 q1
    have ge : ¬ fl.toNat < m := fun g => by
      have := no_fail hv h hB hN (n := m) (k := fl.toNat) (fun i hi => e2 i (by omega)) m2 g q1 q3
      omega
    exact ⟨a1, a3, by omega, a4, a5, a6⟩
  · obtain ⟨e1, e2⟩ := ok_eq hl g7
    have e2 : cmAll txt len c' n' := e2
    have le := no_more hv h hB hN (n := m) (k := n'.toNat) (fun i hi => e2 i (by omega)) m2 m3 g8
    exfalso; omega
end
end
