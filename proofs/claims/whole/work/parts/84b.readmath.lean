/-! ===== what a reading leaves: positions, numbers ===== -/
theorem rnF_in {txt : Int → Int} {len p w most : Int} (hp : p ≤ len) (hm : most ≤ 4) : p ≤ (rnF txt len p w most).2.1 ∧ (rnF txt len p w most).2.1 ≤ len ∧ ((rnF txt len p w most).2.2 = 0 ∨ (rnF txt len p w most).2.2 = 1) ∧ (w = 1 → (rnF txt len p w most).2.2 = 1) ∧ 0 ≤ (rnF txt len p w most).1 ∧ (rnF txt len p w most).1 ≤ 9999 := by
  unfold rnF
  by_cases a : w = 1
  · rw [if_pos a]
    exact ⟨Int.le_refl _, hp, Or.inr rfl, fun _ => rfl, Int.le_refl 0, show (0 : Int) ≤ 9999 by decide⟩
  · rw [if_neg a]
    by_cases b : p < len ∧ txt p = 32
    · rw [if_pos b]
      have c := ctD_in txt len most.toNat (p + 1) (by omega)
      have d : 0 ≤ nvD txt (p + 1) (ctD txt len most.toNat (p + 1)).toNat ∧ nvD txt (p + 1) (ctD txt len most.toNat (p + 1)).toNat ≤ 9999 := by
        by_cases m0 : 0 ≤ most
        · exact nvD_9999 m0 hm (by omega)
        · have e : most.toNat = 0 := by omega
          rw [e]
          exact ⟨Int.le_refl 0, show (0 : Int) ≤ 9999 by decide⟩
      by_cases g : ctD txt len most.toNat (p + 1) = 0
      · rw [if_pos g]
        exact ⟨by show p ≤ p + 1; omega, by show p + 1 ≤ len; omega, Or.inr rfl, fun h => absurd h a, Int.le_refl 0, show (0 : Int) ≤ 9999 by decide⟩
      · rw [if_neg g]
        exact ⟨by show p ≤ p + 1 + ctD txt len most.toNat (p + 1); omega, by show p + 1 + ctD txt len most.toNat (p + 1) ≤ len; omega, Or.inl rfl, fun h => absurd h a, d.1, d.2⟩
    · rw [if_neg b]
      exact ⟨Int.le_refl _, hp, Or.inr rfl, fun _ => rfl, Int.le_refl 0, show (0 : Int) ≤ 9999 by decide⟩
theorem rdF_in {txt : Int → Int} {len : Int} : ∀ {ds : List Int} {p w : Int}, p ≤ len → (w = 0 ∨ w = 1) → (∀ d ∈ ds, d ≤ 52) → p ≤ (rdF txt len ds p w).2.1 ∧ (rdF txt len ds p w).2.1 ≤ len ∧ ((rdF txt len ds p w).2.2 = 0 ∨ (rdF txt len ds p w).2.2 = 1) ∧ (w = 1 → (rdF txt len ds p w).2.2 = 1) ∧ (rdF txt len ds p w).1.length = ds.length ∧ ∀ v ∈ (rdF txt len ds p w).1, 0 ≤ v ∧ v ≤ 9999
  | [], p, w, hp, hw, _ => ⟨Int.le_refl _, hp, hw, fun h => h, rfl, fun v hv => absurd hv (List.not_mem_nil)⟩
  | d :: ds, p, w, hp, hw, hd => by
    have a := rnF_in (txt := txt) (len := len) (p := p) (w := w) (most := d - 48) hp (by have := hd d (List.mem_cons_self); omega)
    have b := rdF_in (txt := txt) (len := len) (ds := ds) (p := (rnF txt len p w (d - 48)).2.1) (w := (rnF txt len p w (d - 48)).2.2) a.2.1 a.2.2.1 (fun x hx => hd x (List.mem_cons_of_mem _ hx))
    refine ⟨Int.le_trans a.1 b.1, b.2.1, b.2.2.1, fun h => b.2.2.2.1 (a.2.2.2.1 h), congrArg (· + 1) b.2.2.2.2.1, fun v hv => ?_⟩
    rcases List.mem_cons.mp hv with h | h
    · rw [h]; exact ⟨a.2.2.2.2.1, a.2.2.2.2.2⟩
    · exact b.2.2.2.2.2 v h
theorem wd_1 (i : Nat) (h : i < 8) : 1 ≤ sLn i := by
  have hall : ∀ i, i < 8 → 1 ≤ sLn i := by decide
  exact hall i h
theorem chC_in (txt : Int → Int) (len p : Int) : chC txt len p < 8 := by
  unfold chC
  repeat' split
  all_goals decide
theorem dg_52 (c : Nat) : ∀ d ∈ sTx.getD (dgI c) [], d ≤ 52 := by
  rcases c with _ | _ | _ | _ | _ | _ | _ | c
  · decide
  · decide
  · decide
  · decide
  · decide
  · decide
  · decide
  · show ∀ d ∈ sTx.getD 8 [], d ≤ 52
    decide
theorem rcP_ge {txt : Int → Int} {len p w : Int} {f : Int → Int} {n : Int} {c' : Int → Int} {n' p' w' : Int} (hp : p ≤ len) (h : rcP txt len p w f n c' n' p' w') (h0 : w' = 0) : w = 0 ∧ n' = n + 1 ∧ p + 1 ≤ p' ∧ p' ≤ len := by
  rcases h with ⟨a, b, c, d, e⟩ | ⟨a, b, p1, w1, s, c, d, e⟩
  · exfalso; omega
  · have m := mtW_in txt len (sTx.getD (chC txt len p) []) p hp
    have l1 := wd_1 _ (chC_in txt len p)
    rcases s with ⟨g, -⟩ | ⟨g, g1, ⟨g2, g3⟩ | ⟨g2, g3⟩⟩
    · exfalso; omega
    · have r := rdF_in (txt := txt) (len := len) (ds := sTx.getD (dgI (chC txt len p)) []) (p := p1) (w := w1) (by omega) (Or.inl g2) (dg_52 _)
      exact ⟨a, b, by rw [d]; have := r.1; omega, by rw [d]; exact r.2.1⟩
    · have r := rdF_in (txt := txt) (len := len) (ds := sTx.getD (dgI (chC txt len p)) []) (p := p1) (w := w1) (by omega) (Or.inr g2) (dg_52 _)
      have q := r.2.2.2.1 g2
      exfalso; omega
