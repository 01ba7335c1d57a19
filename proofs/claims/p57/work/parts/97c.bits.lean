/-! ===== p57: bits ===== -/
def shI (g x : Int) : Int := ((g.toNat / 2 ^ x.toNat : Nat) : Int)
def orI (g x : Int) : Int := ((g.toNat ||| 2 ^ x.toNat : Nat) : Int)
def bitP (g x : Int) : Prop := 0 ≤ x ∧ x < 6 ∧ shI g x % 2 = 1
theorem bi_shr : ∀ g, g < 64 → ∀ x, x < 6 → Int32.ofInt ((g : Nat) : Int) >>> (Int32.ofInt ((x : Nat) : Int) &&& 31) = Int32.ofInt (((g / 2 ^ x : Nat)) : Int) := by decide +kernel
theorem bi_and : ∀ g, g < 64 → Int32.ofInt ((g : Nat) : Int) &&& Int32.ofInt 1 = Int32.ofInt (((g : Nat) : Int) % 2) := by decide +kernel
theorem bi_shl : ∀ x, x < 6 → Int32.ofInt 1 <<< (Int32.ofInt ((x : Nat) : Int) &&& 31) = Int32.ofInt (((2 ^ x : Nat)) : Int) := by decide +kernel
theorem bi_or : ∀ g, g < 64 → ∀ x, x < 6 → Int32.ofInt ((g : Nat) : Int) ||| Int32.ofInt (((2 ^ x : Nat)) : Int) = Int32.ofInt (((g ||| 2 ^ x : Nat)) : Int) := by decide +kernel
theorem bi_in : ∀ g, g < 64 → ∀ x, x < 6 → (g ||| 2 ^ x) < 64 ∧ ((g / 2 ^ x) % 2 ≠ 1 → g < (g ||| 2 ^ x)) := by decide +kernel
theorem bi_mem : ∀ g, g < 64 → ∀ x, x < 6 → ∀ y, y < 6 → (((g ||| 2 ^ x) / 2 ^ y) % 2 = 1 ↔ (g / 2 ^ y) % 2 = 1 ∨ y = x) := by decide +kernel
theorem bi_lt : ∀ g, g < 64 → ∀ x, x < 6 → g / 2 ^ x < 64 := by decide +kernel
theorem shI_in {g x : Int} (hg : 0 ≤ g ∧ g < 64) (hx : 0 ≤ x ∧ x < 6) : 0 ≤ shI g x ∧ shI g x < 64 := by
  have h := bi_lt g.toNat (by omega) x.toNat (by omega)
  unfold shI
  generalize g.toNat / 2 ^ x.toNat = q at h ⊢
  omega
theorem orI_in {g x : Int} (hg : 0 ≤ g ∧ g < 64) (hx : 0 ≤ x ∧ x < 6) : (0 ≤ orI g x ∧ orI g x < 64) ∧ (¬ bitP g x → g < orI g x) := by
  have h := bi_in g.toNat (by omega) x.toNat (by omega)
  unfold bitP shI orI
  refine ⟨by omega, fun hn => ?_⟩
  have h2 := h.2 (fun z => hn ⟨hx.1, hx.2, by omega⟩)
  omega
theorem orI_mem {g x y : Int} (hg : 0 ≤ g ∧ g < 64) (hx : 0 ≤ x ∧ x < 6) (hy : 0 ≤ y ∧ y < 6) : bitP (orI g x) y ↔ bitP g y ∨ y = x := by
  have h := bi_mem g.toNat (by omega) x.toNat (by omega) y.toNat (by omega)
  have e : (orI g x).toNat = g.toNat ||| 2 ^ x.toNat := by unfold orI; omega
  unfold bitP shI
  rw [e]
  constructor
  · rintro ⟨-, -, q⟩
    rcases h.mp (by omega) with z | z
    · exact Or.inl ⟨hy.1, hy.2, by omega⟩
    · exact Or.inr (by omega)
  · rintro (⟨-, -, q⟩ | q)
    · exact ⟨hy.1, hy.2, by have := h.mpr (Or.inl (by omega)); omega⟩
    · exact ⟨hy.1, hy.2, by have := h.mpr (Or.inr (by omega)); omega⟩
section BITS
variable {p : Program} {l : Launch} {e : Env} {R : Room} {s : State} {m : MethodId} {args : Array Value} {below : List Frame} {meth : Method} {c : Code} {H : Heap} {locs : List Loc} {cells slots : Nat} {Q : State → Prop}
variable {cc : ByteArray} {pc : Nat} {ls : Array Slot} {rest : List Value}
theorem zq_ishr (hx : p.tables.exec = Jvm.exec) (hb : c.code = cc) {g x : Int} (hd : decode cc pc = .ok (.ishr, 1)) (hg : 0 ≤ g ∧ g < 64) (hx0 : 0 ≤ x ∧ x < 6)
    (k : W p l e R s m args below meth c H locs cells slots Q (F0 m (pc + 1) ls (.int (iI (shI g x)) :: rest))) : W p l e R s m args below meth c H locs cells slots Q (F0 m pc ls (.int (iI x) :: .int (iI g) :: rest)) := by
  refine lv_ishr hx hb hd ?_
  have h := bi_shr g.toNat (by omega) x.toNat (by omega)
  rw [show ((g.toNat : Nat) : Int) = g by omega, show ((x.toNat : Nat) : Int) = x by omega] at h
  have h2 : iI g >>> (iI x &&& 31) = iI (shI g x) := h
  rw [h2]
  exact k
theorem zq_iand1 (hx : p.tables.exec = Jvm.exec) (hb : c.code = cc) {y : Int} (hd : decode cc pc = .ok (.iand, 1)) (hy : 0 ≤ y ∧ y < 64)
    (k : W p l e R s m args below meth c H locs cells slots Q (F0 m (pc + 1) ls (.int (iI (y % 2)) :: rest))) : W p l e R s m args below meth c H locs cells slots Q (F0 m pc ls (.int (iI 1) :: .int (iI y) :: rest)) := by
  refine lv_iand hx hb hd ?_
  have h := bi_and y.toNat (by omega)
  rw [show ((y.toNat : Nat) : Int) = y by omega] at h
  have h2 : iI y &&& iI 1 = iI (y % 2) := h
  rw [h2]
  exact k
theorem zq_ishl1 (hx : p.tables.exec = Jvm.exec) (hb : c.code = cc) {x : Int} (hd : decode cc pc = .ok (.ishl, 1)) (hx0 : 0 ≤ x ∧ x < 6)
    (k : W p l e R s m args below meth c H locs cells slots Q (F0 m (pc + 1) ls (.int (iI (((2 ^ x.toNat : Nat)) : Int)) :: rest))) : W p l e R s m args below meth c H locs cells slots Q (F0 m pc ls (.int (iI x) :: .int (iI 1) :: rest)) := by
  refine lv_ishl hx hb hd ?_
  have h := bi_shl x.toNat (by omega)
  rw [show ((x.toNat : Nat) : Int) = x by omega] at h
  have h2 : iI 1 <<< (iI x &&& 31) = iI (((2 ^ x.toNat : Nat)) : Int) := h
  rw [h2]
  exact k
theorem zq_ior (hx : p.tables.exec = Jvm.exec) (hb : c.code = cc) {g x : Int} (hd : decode cc pc = .ok (.ior, 1)) (hg : 0 ≤ g ∧ g < 64) (hx0 : 0 ≤ x ∧ x < 6)
    (k : W p l e R s m args below meth c H locs cells slots Q (F0 m (pc + 1) ls (.int (iI (orI g x)) :: rest))) : W p l e R s m args below meth c H locs cells slots Q (F0 m pc ls (.int (iI (((2 ^ x.toNat : Nat)) : Int)) :: .int (iI g) :: rest)) := by
  refine lv_ior hx hb hd ?_
  have h := bi_or g.toNat (by omega) x.toNat (by omega)
  rw [show ((g.toNat : Nat) : Int) = g by omega] at h
  have h2 : iI g ||| iI (((2 ^ x.toNat : Nat)) : Int) = iI (orI g x) := h
  rw [h2]
  exact k
theorem ush_in (u : UInt32) {k : Nat} (h1 : 1 ≤ k) (h2 : k ≤ 31) : 0 ≤ (u >>> (UInt32.ofNat k)).toInt32.toInt ∧ (u >>> (UInt32.ofNat k)).toInt32.toInt ≤ 2147483647 := by
  have e : (u >>> (UInt32.ofNat k)).toNat = u.toNat / 2 ^ k := by
    have e0 : (UInt32.ofNat k).toNat = k % 4294967296 := rfl
    rw [UInt32.toNat_shiftRight, e0, Nat.shiftRight_eq_div_pow, show k % 4294967296 % 32 = k by omega]
  have hlt : u.toNat / 2 ^ k < 2147483648 := by
    have h3 := u.toNat_lt
    have h4 : 2 ^ 1 ≤ 2 ^ k := Nat.pow_le_pow_right (by decide) h1
    have h5 : u.toNat / 2 ^ k ≤ u.toNat / 2 := Nat.div_le_div_left (by omega) (by decide)
    omega
  generalize u >>> (UInt32.ofNat k) = w at e
  have h6 : w.toInt32.toInt = (w.toNat : Int) := by
    show w.toBitVec.toInt = _
    exact BitVec.toInt_eq_toNat_of_lt (by show 2 * w.toNat < 2 ^ 32; omega)
  rw [h6]
  omega
theorem zq_iushr (hx : p.tables.exec = Jvm.exec) (hb : c.code = cc) {x y : Int} (hd : decode cc pc = .ok (.iushr, 1)) (hy : 1 ≤ y ∧ y ≤ 31) (hm : (iI y).toUInt32 &&& Int32.toUInt32 31 = UInt32.ofNat y.toNat)
    (kk : ∀ w : Int, 0 ≤ w ∧ w ≤ 2147483647 → W p l e R s m args below meth c H locs cells slots Q (F0 m (pc + 1) ls (.int (iI w) :: rest))) : W p l e R s m args below meth c H locs cells slots Q (F0 m pc ls (.int (iI y) :: .int (iI x) :: rest)) := by
  refine lv_iushr hx hb (v := ((iI x).toUInt32 >>> UInt32.ofNat y.toNat).toInt32) hd (by rw [hm]) ?_
  have h := ush_in (iI x).toUInt32 (k := y.toNat) (by omega) (by omega)
  have h2 := kk _ h
  rw [← iI_self] at h2
  exact h2
end BITS
