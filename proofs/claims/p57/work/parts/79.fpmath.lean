/-! ===== floats: numbers of whole numbers, quotients: no NaN ===== -/
theorem fp_asm (f : FP.Core.Fmt) (e t : Nat) : FP.Core.assemble f false e t = e * f.tails + t := by
  unfold FP.Core.assemble
  rw [show Bool.toNat false = 0 from rfl, Nat.zero_mul, Nat.zero_add]
/-- what is used of a format -/
def fpF (f : FP.Core.Fmt) : Prop := (f.qmax - f.qmin).toNat + 2 = f.exps - 1 ∧ 2 ^ f.p = 2 * f.tails ∧ 0 < f.tails ∧ 2 ≤ f.exps ∧ f.qmin ≤ 0 ∧ 1 ≤ f.qmax ∧ 24 ≤ f.p
theorem fpF_32 : fpF FP.Core.b32 := by unfold fpF; decide
theorem fpF_64 : fpF FP.Core.b64 := by unfold fpF; decide +kernel
theorem fp_fin {f : FP.Core.Fmt} (h : fpF f) {c : Nat} {q : Int} (hc : c < 2 ^ f.p) (hq : q ≤ f.qmax) : FP.Core.encode f (.fin false c q) ≤ (f.exps - 1) * f.tails := by
  obtain ⟨h1, h2, h3, h4, -⟩ := h
  unfold FP.Core.encode
  by_cases a : c < f.tails
  · show (if c < f.tails then _ else _) ≤ _
    rw [if_pos a, fp_asm, Nat.zero_mul, Nat.zero_add]
    have : 1 * f.tails ≤ (f.exps - 1) * f.tails := Nat.mul_le_mul_right _ (by omega)
    omega
  · show (if c < f.tails then _ else _) ≤ _
    rw [if_neg a, fp_asm]
    have e : ((q - f.qmin).toNat + 1 + 1) * f.tails ≤ (f.exps - 1) * f.tails := Nat.mul_le_mul_right _ (by omega)
    rw [Nat.add_mul ((q - f.qmin).toNat + 1) 1] at e
    omega
theorem fp_inf {f : FP.Core.Fmt} : FP.Core.encode f (.inf false) ≤ (f.exps - 1) * f.tails := by
  show FP.Core.assemble f false (f.exps - 1) 0 ≤ _
  rw [fp_asm]
  omega
theorem fp_bound {f : FP.Core.Fmt} (h : fpF f) {c : Nat} {q : Int} (hc : c < 2 ^ f.p) : FP.Core.encode f (FP.Core.bound f false c q) ≤ (f.exps - 1) * f.tails := by
  unfold FP.Core.bound
  by_cases a : q ≤ f.qmax
  · rw [if_pos a]; exact fp_fin h hc a
  · rw [if_neg a]; exact fp_inf
theorem fp_enc {f : FP.Core.Fmt} (h : fpF f) (num den : Nat) (e : Int) : FP.Core.encode f (FP.Core.roundRatio f false num den e) ≤ (f.exps - 1) * f.tails := by
  unfold FP.Core.roundRatio
  have hp : f.tails < 2 ^ f.p := by have := h.2.1; have := h.2.2.1; omega
  have h0 : 0 < 2 ^ f.p := by omega
  have hm : f.qmin ≤ f.qmax := by have := h.2.2.2.2.1; have := h.2.2.2.2.2.1; omega
  by_cases a : num = 0
  · rw [if_pos a]; exact fp_fin h h0 hm
  · rw [if_neg a]
    unfold FP.Core.roundAt FP.Core.settle
    generalize FP.Core.nearest _ _ = c
    by_cases b : c < 2 ^ f.p
    · rw [if_pos b]; exact fp_bound h b
    · rw [if_neg b]; exact fp_bound h hp
theorem fp_dec {f : FP.Core.Fmt} (h : fpF f) {n : Nat} (hn : n ≤ (f.exps - 1) * f.tails) : FP.Core.decode f n = .inf false ∨ ∃ c q, FP.Core.decode f n = .fin false c q := by
  obtain ⟨h1, h2, h3, h4, -⟩ := h
  have hd : n / f.tails ≤ f.exps - 1 := by
    have := Nat.div_le_div_right (c := f.tails) hn
    rw [Nat.mul_div_cancel _ h3] at this
    exact this
  have hs : FP.Core.fieldS f n = false := by
    unfold FP.Core.fieldS
    rw [Nat.div_eq_of_lt (show n / f.tails < f.exps by omega)]
    rfl
  have he : FP.Core.fieldE f n = n / f.tails := Nat.mod_eq_of_lt (by omega)
  unfold FP.Core.decode
  rw [hs, he]
  by_cases a : n / f.tails = f.exps - 1
  · rw [if_pos a]
    have b : FP.Core.fieldT f n = 0 := by
      have e := Nat.div_add_mod n f.tails
      rw [a, Nat.mul_comm] at e
      show n % f.tails = 0
      omega
    rw [if_pos b]
    exact Or.inl rfl
  · rw [if_neg a]
    by_cases b : n / f.tails = 0
    · rw [if_pos b]; exact Or.inr ⟨_, _, rfl⟩
    · rw [if_neg b]; exact Or.inr ⟨_, _, rfl⟩
theorem fp_fd {f : FP.Core.Fmt} (h : fpF f) {c : Nat} {q : Int} (hc : c < 2 ^ f.p) (hq : q ≤ f.qmax) (h0 : c ≠ 0) : ∃ d r, d ≠ 0 ∧ FP.Core.decode f (FP.Core.encode f (.fin false c q)) = .fin false d r := by
  obtain ⟨h1, h2, h3, h4, -⟩ := h
  by_cases a : c < f.tails
  · have e : FP.Core.encode f (.fin false c q) = c := by
      show (if c < f.tails then _ else _) = _
      rw [if_pos a, fp_asm, Nat.zero_mul, Nat.zero_add]
    rw [e]
    have d0 : c / f.tails = 0 := Nat.div_eq_of_lt a
    have he : FP.Core.fieldE f c = 0 := by unfold FP.Core.fieldE; rw [d0]; exact Nat.zero_mod _
    have hs : FP.Core.fieldS f c = false := by unfold FP.Core.fieldS; rw [d0, Nat.zero_div]; rfl
    refine ⟨c, f.qmin, h0, ?_⟩
    unfold FP.Core.decode
    rw [he, if_neg (by omega), if_pos rfl, hs]
    unfold FP.Core.fieldT
    rw [Nat.mod_eq_of_lt a]
  · have e : FP.Core.encode f (.fin false c q) = ((q - f.qmin).toNat + 1) * f.tails + (c - f.tails) := by
      show (if c < f.tails then _ else _) = _
      rw [if_neg a, fp_asm]
    rw [e]
    have ht : c - f.tails < f.tails := by omega
    have hd : (((q - f.qmin).toNat + 1) * f.tails + (c - f.tails)) / f.tails = (q - f.qmin).toNat + 1 := by
      rw [Nat.add_comm, Nat.add_mul_div_right _ _ h3, Nat.div_eq_of_lt ht, Nat.zero_add]
    have hE : (q - f.qmin).toNat + 1 < f.exps - 1 := by omega
    have he : FP.Core.fieldE f (((q - f.qmin).toNat + 1) * f.tails + (c - f.tails)) = (q - f.qmin).toNat + 1 := by
      unfold FP.Core.fieldE
      rw [hd, Nat.mod_eq_of_lt (by omega)]
    have hs : FP.Core.fieldS f (((q - f.qmin).toNat + 1) * f.tails + (c - f.tails)) = false := by
      unfold FP.Core.fieldS
      rw [hd, Nat.div_eq_of_lt (by omega)]
      rfl
    refine ⟨f.tails + FP.Core.fieldT f (((q - f.qmin).toNat + 1) * f.tails + (c - f.tails)), f.qmin + ((((q - f.qmin).toNat + 1 : Nat) : Int) - 1), by omega, ?_⟩
    unfold FP.Core.decode
    rw [he, if_neg (by omega), if_neg (by omega), hs]
theorem fp_pos {f : FP.Core.Fmt} (h : fpF f) {n : Nat} (h1 : n ≠ 0) (h2 : n < 2 ^ 24) : ∃ d r, d ≠ 0 ∧ FP.Core.decode f (FP.Core.encode f (FP.Core.roundRatio f false n 1 0)) = .fin false d r := by
  have h' := h
  obtain ⟨g1, g2, g3, g4, g5, g6, g7⟩ := h'
  have hl : n.log2 < 24 := (Nat.log2_lt h1).mpr h2
  have hq : FP.Core.quantum f n 1 0 ≤ 0 := by
    unfold FP.Core.quantum FP.Core.leading
    have e : ((1 : Nat).log2 : Int) = 0 := by decide
    rw [e]
    show max f.qmin ((if 1 * 2 ^ ((n.log2 : Int) - 0).toNat ≤ n * 2 ^ (-((n.log2 : Int) - 0)).toNat then (n.log2 : Int) - 0 else (n.log2 : Int) - 0 - 1) + 0 - ((f.p : Int) - 1)) ≤ 0
    split <;> omega
  unfold FP.Core.roundRatio
  rw [if_neg h1]
  unfold FP.Core.roundAt
  generalize FP.Core.quantum f n 1 0 = q at hq
  have hc : FP.Core.nearest (FP.Core.unitsNum n 0 q) (FP.Core.unitsDen 1 0 q) ≠ 0 := by
    have e : FP.Core.unitsDen 1 0 q = 1 := by
      unfold FP.Core.unitsDen
      rw [show (q - 0).toNat = 0 by omega]
    have hN : FP.Core.unitsNum n 0 q ≠ 0 := by
      unfold FP.Core.unitsNum
      have := Nat.pow_pos (n := (0 - q).toNat) (show 0 < 2 by decide)
      exact Nat.mul_ne_zero h1 (by omega)
    rw [e]
    unfold FP.Core.nearest
    rw [Nat.mod_one, if_pos (by decide), Nat.div_one]
    exact hN
  generalize FP.Core.nearest (FP.Core.unitsNum n 0 q) (FP.Core.unitsDen 1 0 q) = c at hc
  unfold FP.Core.settle FP.Core.bound
  by_cases b : c < 2 ^ f.p
  · rw [if_pos b, if_pos (by omega)]
    exact fp_fd h b (by omega) hc
  · rw [if_neg b, if_pos (by omega)]
    exact fp_fd h (by omega) (by omega) (by omega)
theorem fp_int {f : FP.Core.Fmt} {i : Int} (h : 0 ≤ i) : FP.Core.fromInt f i = FP.Core.encode f (FP.Core.roundRatio f false i.toNat 1 0) := by
  unfold FP.Core.fromInt FP.Core.ofInt FP.Core.round
  rw [show decide (i < 0) = false from decide_eq_false (by omega), show i.natAbs = i.toNat by omega]
theorem fp_div {f : FP.Core.Fmt} (h : fpF f) {x y : Nat} (hx : x ≤ (f.exps - 1) * f.tails) {d : Nat} {r : Int} (hd : d ≠ 0) (hy : FP.Core.decode f y = .fin false d r) : FP.Core.div f x y ≤ (f.exps - 1) * f.tails := by
  unfold FP.Core.div
  rw [hy]
  rcases fp_dec h hx with e | ⟨c, q, e⟩
  · rw [e]
    exact fp_inf
  · rw [e]
    show FP.Core.encode f (if d = 0 then _ else FP.Core.roundRatio f false c d (q - r)) ≤ _
    rw [if_neg hd]
    exact fp_enc h _ _ _
/-! the class's own: mean and share -/
theorem fp_n64 {n : Nat} (h : n ≤ (FP.Core.b64.exps - 1) * FP.Core.b64.tails) : vf_n64 (UInt64.ofNat n) := by
  have e : (FP.Core.b64.exps - 1) * FP.Core.b64.tails = 9218868437227405312 := by decide +kernel
  unfold vf_n64
  rw [UInt64.le_iff_toNat_le, UInt64.toNat_and]
  refine Nat.le_trans Nat.and_le_left ?_
  rw [UInt64.toNat_ofNat']
  have : n % 2 ^ 64 ≤ n := Nat.mod_le _ _
  show _ ≤ 9218868437227405312
  omega
theorem fp_n32 {n : Nat} (h : n ≤ (FP.Core.b32.exps - 1) * FP.Core.b32.tails) : vf_n32 (UInt32.ofNat n) := by
  have e : (FP.Core.b32.exps - 1) * FP.Core.b32.tails = 2139095040 := by decide +kernel
  unfold vf_n32
  rw [UInt32.le_iff_toNat_le, UInt32.toNat_and]
  refine Nat.le_trans Nat.and_le_left ?_
  rw [UInt32.toNat_ofNat']
  have : n % 2 ^ 32 ≤ n := Nat.mod_le _ _
  show _ ≤ 2139095040
  omega
theorem fp_to64 {n : Nat} (h : n ≤ (FP.Core.b64.exps - 1) * FP.Core.b64.tails) : (UInt64.ofNat n).toNat = n := by
  have e : (FP.Core.b64.exps - 1) * FP.Core.b64.tails = 9218868437227405312 := by decide +kernel
  rw [UInt64.toNat_ofNat']
  exact Nat.mod_eq_of_lt (by omega)
theorem fp_to32 {n : Nat} (h : n ≤ (FP.Core.b32.exps - 1) * FP.Core.b32.tails) : (UInt32.ofNat n).toNat = n := by
  have e : (FP.Core.b32.exps - 1) * FP.Core.b32.tails = 2139095040 := by decide +kernel
  rw [UInt32.toNat_ofNat']
  exact Nat.mod_eq_of_lt (by omega)
/-- the quotient of two whole numbers as a double, as a float -/
def dQ (a b : Int) : UInt64 := FP.ddiv (UInt64.ofNat (FP.Core.fromInt FP.Core.b64 a)) (UInt64.ofNat (FP.Core.fromInt FP.Core.b64 b))
def fQ (a b : Int) : UInt32 := FP.fdiv (UInt32.ofNat (FP.Core.fromInt FP.Core.b32 a)) (UInt32.ofNat (FP.Core.fromInt FP.Core.b32 b))
theorem fp_ib {f : FP.Core.Fmt} (h : fpF f) {i : Int} (h0 : 0 ≤ i) : FP.Core.fromInt f i ≤ (f.exps - 1) * f.tails := by
  rw [fp_int h0]
  exact fp_enc h _ _ _
theorem dQ_n {a b : Int} (ha : 0 ≤ a) (hb : 1 ≤ b) (hb2 : b < 16777216) : vf_n64 (dQ a b) := by
  have hx := fp_ib fpF_64 ha
  have hy := fp_ib fpF_64 (show 0 ≤ b by omega)
  obtain ⟨d, r, hd, e⟩ := fp_pos fpF_64 (n := b.toNat) (by omega) (by omega)
  rw [← fp_int (show 0 ≤ b by omega)] at e
  unfold dQ FP.ddiv FP.Core.ddiv
  rw [fp_to64 hx, fp_to64 hy]
  exact fp_n64 (fp_div fpF_64 hx hd e)
theorem fQ_n {a b : Int} (ha : 0 ≤ a) (hb : 1 ≤ b) (hb2 : b < 16777216) : vf_n32 (fQ a b) := by
  have hx := fp_ib fpF_32 ha
  have hy := fp_ib fpF_32 (show 0 ≤ b by omega)
  obtain ⟨d, r, hd, e⟩ := fp_pos fpF_32 (n := b.toNat) (by omega) (by omega)
  rw [← fp_int (show 0 ≤ b by omega)] at e
  unfold fQ FP.fdiv FP.Core.fdiv
  rw [fp_to32 hx, fp_to32 hy]
  exact fp_n32 (fp_div fpF_32 hx hd e)
