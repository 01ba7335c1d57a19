/-! ===== the written lines, on both sides ===== -/
theorem dg_ch : ∀ (k : Nat) (x v : Int), v ∈ dg k x → 48 ≤ v ∧ v ≤ 57
  | 0, x, v, h => by
    have h : v ∈ [48 + x % 10] := h
    rw [List.mem_singleton] at h
    omega
  | k + 1, x, v, h => by
    have h : v ∈ (if x ≤ 9 then [48 + x % 10] else dg k (x / 10) ++ [48 + x % 10]) := h
    by_cases q : x ≤ 9
    · rw [if_pos q, List.mem_singleton] at h
      omega
    · rw [if_neg q] at h
      rcases List.mem_append.mp h with z | z
      · exact dg_ch k _ v z
      · rw [List.mem_singleton] at z
        omega
theorem ch_dg (x : Int) : ∀ v ∈ dgL x, 0 ≤ v ∧ v ≤ 127 := fun v h => by
  have q := dg_ch 8 x v h
  omega
theorem ch_1 {x : Int} (hx : 0 ≤ x ∧ x ≤ 127) : ∀ v ∈ [x], 0 ≤ v ∧ v ≤ 127 := fun v h => by
  rw [List.mem_singleton] at h
  subst h
  exact hx
theorem ch_0 : ∀ v ∈ ([] : List Int), 0 ≤ v ∧ v ≤ 127 := fun v h => absurd h List.not_mem_nil
theorem ch_app {l r : List Int} (h1 : ∀ v ∈ l, 0 ≤ v ∧ v ≤ 127) (h2 : ∀ v ∈ r, 0 ≤ v ∧ v ≤ 127) : ∀ v ∈ l ++ r, 0 ≤ v ∧ v ≤ 127 := fun v h => (List.mem_append.mp h).elim (h1 v) (h2 v)
theorem subLn_ch (x1 x2 x3 x4 : Int) : ∀ v ∈ subLn x1 x2 x3 x4, 0 ≤ v ∧ v ≤ 127 := by
  unfold subLn
  split
  · exact ch_app (ch_app (ch_app (ch_app (ch_app (ch_app ch_0 (ch_dg _)) (ch_1 (by decide))) (ch_dg _)) (ch_1 (by decide))) (ch_dg _)) (ch_1 (by decide))
  · exact ch_app (ch_app (ch_app (ch_app (ch_app (ch_app (ch_app ch_0 (ch_dg _)) (ch_1 (by decide))) (ch_dg _)) (ch_1 (by decide))) (ch_dg _)) (ch_1 (by decide))) (ch_dg _)
theorem legLn_ch (x1 x2 x3 x4 x5 : Int) : ∀ v ∈ legLn x1 x2 x3 x4 x5, 0 ≤ v ∧ v ≤ 127 := by
  unfold legLn
  split
  · exact ch_app (ch_app (ch_app (ch_app (ch_app (ch_app (ch_app (ch_app ch_0 (ch_dg _)) (ch_1 (by decide))) (ch_dg _)) (ch_1 (by decide))) (ch_dg _)) (ch_1 (by decide))) (ch_dg _)) (ch_1 (by decide))
  · exact ch_app (ch_app (ch_app (ch_app (ch_app (ch_app (ch_app ch_0 (ch_dg _)) (ch_1 (by decide))) (ch_dg _)) (ch_1 (by decide))) (ch_dg _)) (ch_1 (by decide))) (ch_dg _)
theorem subLn_16 {x1 x2 x3 x4 : Int} (h1 : 0 ≤ x1 ∧ x1 ≤ 9) (h2 : 0 ≤ x2 ∧ x2 ≤ 9) (h3 : 0 ≤ x3 ∧ x3 ≤ 999999999) (h4 : -1 ≤ x4 ∧ x4 ≤ 20) : (subLn x1 x2 x3 x4).length ≤ 16 := by
  have q1 := dgN_1 h1.1 h1.2
  have q2 := dgN_1 h2.1 h2.2
  have q3 := dgN_in h3.1 h3.2
  unfold dgN at q1 q2 q3
  by_cases z : x4 = -1
  · unfold subLn
    rw [if_pos z]
    simp only [List.length_append, List.length_cons, List.length_nil]
    omega
  · have q4 := dgN_le2 (x := x4) (by omega) (by omega)
    unfold dgN at q4
    unfold subLn
    rw [if_neg z]
    simp only [List.length_append, List.length_cons, List.length_nil]
    omega
theorem legLn_16 {x1 x2 x3 x4 x5 : Int} (h1 : 0 ≤ x1 ∧ x1 ≤ 9) (h2 : 0 ≤ x2 ∧ x2 ≤ 9) (h3 : 0 ≤ x3 ∧ x3 ≤ 99) (h4 : 0 ≤ x4 ∧ x4 ≤ 99) : (legLn x1 x2 x3 x4 x5).length ≤ 16 := by
  have q1 := dgN_1 h1.1 h1.2
  have q2 := dgN_1 h2.1 h2.2
  have q3 := dgN_le2 h3.1 h3.2
  have q4 := dgN_le2 h4.1 h4.2
  unfold dgN at q1 q2 q3 q4
  unfold legLn
  split
  · simp only [List.length_append, List.length_cons, List.length_nil]
    omega
  · simp only [List.length_append, List.length_cons, List.length_nil]
    omega
theorem ws_eq {N : Int} {s : Nat → Int → Int} {ms : Int → Int} {sb nd q r : Int} {f F : Int → Int} (h : RelS N s ms) (eE : sE s = egM ms) (hk : 0 ≤ sb ∧ sb < s 7 0) (k2 : needP (sE s) (s 8 sb) (s 9 sb) nd) (r1 : rngP (egM ms) (suM ms sb 0) (suM ms sb 1) r) (r2 : WLp f (subLn (suM ms sb 0) (suM ms sb 1) (suM ms sb 2) (if r < 100000 then r else -1)) F q) : WLp f (subLn (s 8 sb) (s 9 sb) (s 10 sb) nd) F q ∧ q = ((subLn (s 8 sb) (s 9 sb) (s 10 sb) nd).length : Nat) := by
  have u := h.2.1 sb hk.1 hk.2
  rw [u.1, u.2.1] at r1
  rw [u.1, u.2.1, u.2.2.1] at r2
  rw [eE] at k2
  have d := needP_uniq k2 (rngP_need r1)
  have b := rngP_in r1
  have e : (if r < 100000 then r else -1) = nd := by
    by_cases z : r < 100000
    · rw [if_pos z]
      rw [if_neg (by omega)] at d
      exact d.symm
    · rw [if_neg z]
      rw [if_pos (by omega)] at d
      exact d.symm
  rw [e] at r2
  exact ⟨r2, r2.2⟩
theorem wl_eq {N : Int} {s : Nat → Int → Int} {ms : Int → Int} {pos q z : Int} {f F : Int → Int} (hc : ChS s) (hu : ChW s) (h : RelS N s ms) (hp : 0 ≤ pos ∧ pos < s 1 0) (m1 : wlP ms pos f F q z) : WLp f (legLn (s 2 pos) (s 3 pos) (s 4 pos) (s 5 pos) (s 13 0)) F q ∧ z = ((legLn (s 2 pos) (s 3 pos) (s 4 pos) (s 5 pos) (s 13 0)).length : Nat) := by
  obtain ⟨x, x0, x1, x2, x3, x4⟩ := m1
  rcases rel_latK hc hu h x2 with ⟨-, g⟩ | ⟨-, -, -, -, g5, g6⟩
  · exact absurd hp g
  · have a := h.2.2.1 pos hp.1 hp.2
    rw [g5, g6, a.1, a.2.1, h.1.2.2.2.1] at x3
    exact ⟨x3, x4.trans x3.2⟩
/-! as many commands as signs at most -/
theorem ok_len {txt : Int → Int} {len : Int} {c0 : Int → Int} {n : Int} {c : Int → Int} (hl : 0 ≤ len ∧ len ≤ 60) (h : okM txt len c0 n c) : n ≤ len := by
  obtain ⟨hn, h1⟩ := h
  obtain ⟨k, hk⟩ : ∃ k : Nat, (k : Int) + 1 = n := ⟨(n - 1).toNat, by omega⟩
  rw [show (n - 1).toNat = k by omega] at h1
  have s := seq_eq hl.1 h1
  have t := seq_pos hl.1 s
  obtain ⟨b1, b2, b3, b4⟩ := s
  have b4 : (pNx txt len (psk txt len k)).1 = 1 := b4.elim (fun g => g.2.1) (fun g => absurd g.1 (by decide))
  have hpk : psk txt len k ≤ len := by
    rcases t.2 with z | z
    · subst z; exact hl.1
    · omega
  have pg := pNx_ge (txt := txt) (len := len) (p := psk txt len k) hpk b4
  have e : len = (pNx txt len (psk txt len k)).2.2.1 := b1
  omega
theorem ex_len {txt : Int → Int} {len : Int} {c0 ms bef past : Int → Int} {pm err0 fl0 z th err fl : Int} {ms' bef' past' : Int → Int} {pm' : Int} {c' : Int → Int} {n' : Int} (hl : 0 ≤ len ∧ len ≤ 60) (h0 : th = 0) (he : exP txt len c0 ms bef past pm err0 fl0 z th err fl ms' bef' past' pm' c' n') : z ≤ len := by
  rcases he with ⟨x1, -⟩ | ⟨x1, -⟩ | ⟨-, g2, -, -, -, -, g7, -⟩
  · exfalso; omega
  · exfalso; omega
  · rw [g2]; exact ok_len hl g7
