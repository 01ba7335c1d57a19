/-! ===== ints of the machine as whole numbers; arrays as functions of whole numbers ===== -/
def iI (z : Int) : Int32 := Int32.ofInt z
def lI (z : Int) : Int64 := Int64.ofInt z
theorem iI_add (a b : Int) : iI a + iI b = iI (a + b) := (Int32.ofInt_add a b).symm
theorem iI_sub (a b : Int) : iI a - iI b = iI (a - b) := (Int32.ofInt_sub a b).symm
theorem iI_mul (a b : Int) : iI a * iI b = iI (a * b) := (Int32.ofInt_mul a b).symm
theorem iI_neg (a : Int) : -iI a = iI (-a) := (Int32.ofInt_neg a).symm
theorem lI_add (a b : Int) : lI a + lI b = lI (a + b) := (Int64.ofInt_add a b).symm
theorem lI_sub (a b : Int) : lI a - lI b = lI (a - b) := (Int64.ofInt_sub a b).symm
theorem iI_toInt {z : Int} (h : -2147483648 ≤ z ∧ z ≤ 2147483647) : (iI z).toInt = z := Int32.toInt_ofInt_of_le (by omega) (by omega)
theorem lI_toInt {z : Int} (h : -9223372036854775808 ≤ z ∧ z ≤ 9223372036854775807) : (lI z).toInt = z := Int64.toInt_ofInt_of_le (by omega) (by omega)
theorem iI_self (x : Int32) : x = iI x.toInt := (Int32.ofInt_toInt x).symm
theorem i32_rng (x : Int32) : -2147483648 ≤ x.toInt ∧ x.toInt ≤ 2147483647 := by
  have h1 := Int32.le_toInt x
  have h2 := Int32.toInt_lt x
  omega
theorem iI_ex (x : Int32) : ∃ z : Int, x = iI z ∧ -2147483648 ≤ z ∧ z ≤ 2147483647 := ⟨x.toInt, iI_self x, (i32_rng x).1, (i32_rng x).2⟩
theorem iI_inj {a b : Int} (ha : -2147483648 ≤ a ∧ a ≤ 2147483647) (hb : -2147483648 ≤ b ∧ b ≤ 2147483647) : iI a = iI b ↔ a = b := by
  rw [← Int32.toInt_inj, iI_toInt ha, iI_toInt hb]
theorem iI_le {a b : Int} (ha : -2147483648 ≤ a ∧ a ≤ 2147483647) (hb : -2147483648 ≤ b ∧ b ≤ 2147483647) : iI a ≤ iI b ↔ a ≤ b := by
  rw [Int32.le_iff_toInt_le, iI_toInt ha, iI_toInt hb]
theorem iI_lt {a b : Int} (ha : -2147483648 ≤ a ∧ a ≤ 2147483647) (hb : -2147483648 ≤ b ∧ b ≤ 2147483647) : iI a < iI b ↔ a < b := by
  rw [Int32.lt_iff_toInt_lt, iI_toInt ha, iI_toInt hb]
theorem iI_div {a b : Int} (ha : 0 ≤ a ∧ a ≤ 2147483647) (hb : 0 < b ∧ b ≤ 2147483647) : iI a / iI b = iI (a / b) := by
  have h := Int32.ofInt_tdiv (a := a) (b := b) (by show (-2147483648 : Int) ≤ a; omega) (by show a ≤ (2147483647 : Int); omega) (by show (-2147483648 : Int) ≤ b; omega) (by show b ≤ (2147483647 : Int); omega)
  rw [Int.tdiv_eq_ediv_of_nonneg ha.1] at h
  exact h.symm
theorem iI_rem {a b : Int} (ha : 0 ≤ a ∧ a ≤ 2147483647) (hb : 0 < b ∧ b ≤ 2147483647) : iI a - iI a / iI b * iI b = iI (a % b) := by
  rw [iI_div ha hb, iI_mul, iI_sub, Int.emod_def, Int.mul_comm b]
theorem iI_ne0 {b : Int} (hb : 0 < b ∧ b ≤ 2147483647) : ¬ iI b = 0 := by
  intro h
  have h2 : iI b = iI 0 := h
  rw [iI_inj (by omega) (by omega)] at h2
  omega
theorem iI_l {a : Int} (ha : -2147483648 ≤ a ∧ a ≤ 2147483647) : (iI a).toInt64 = lI a := Int32.toInt64_ofInt (by show (-2147483648 : Int) ≤ a; omega) (by show a ≤ (2147483647 : Int); omega)
theorem zin {k : Int} {n : Nat} (h : 0 ≤ k ∧ k < n) (hn : n ≤ 2147483647) : vp_in (iI k) n := by
  rw [vp_in_iff, iI_toInt (by omega)]
  omega
theorem iI_clamp {k : Int} (h : 0 ≤ k ∧ k ≤ 2147483647) : (iI k).toNatClampNeg = k.toNat := by
  show (iI k).toInt.toNat = _
  rw [iI_toInt (by omega)]
/-- an array's ints -/
def zA (f : Int → Int) : Nat → Int32 := fun j => iI (f (j : Int))
def zAl (f : Int → Int) : Nat → Int64 := fun j => lI (f (j : Int))
def zU (f : Int → Int) (k v : Int) : Int → Int := fun j => if j = k then v else f j
theorem zU_same (f : Int → Int) (k v : Int) : zU f k v k = v := by unfold zU; rw [if_pos rfl]
theorem zU_ne {f : Int → Int} {k v j : Int} (h : j ≠ k) : zU f k v j = f j := by unfold zU; rw [if_neg h]
theorem zA_at (f : Int → Int) {k : Int} (h : 0 ≤ k ∧ k ≤ 2147483647) : zA f (iI k).toNatClampNeg = iI (f k) := by
  unfold zA
  rw [iI_clamp h, Int.toNat_of_nonneg h.1]
theorem zA_up (f : Int → Int) {k v : Int} (h : 0 ≤ k ∧ k ≤ 2147483647) : upd (zA f) (iI k).toNatClampNeg (iI v) = zA (zU f k v) := by
  rw [iI_clamp h]
  funext j
  unfold upd zA zU
  by_cases hj : j = k.toNat
  · rw [if_pos hj, if_pos (by omega)]
  · rw [if_neg hj, if_neg (by omega)]
theorem zAl_at (f : Int → Int) {k : Int} (h : 0 ≤ k ∧ k ≤ 2147483647) : zAl f (iI k).toNatClampNeg = lI (f k) := by
  unfold zAl
  rw [iI_clamp h, Int.toNat_of_nonneg h.1]
theorem zA_of (F : Nat → Int32) : ∃ f : Int → Int, F = zA f ∧ ∀ j, -2147483648 ≤ f j ∧ f j ≤ 2147483647 := by
  refine ⟨fun j => (F j.toNat).toInt, ?_, fun j => i32_rng _⟩
  funext j
  unfold zA
  show F j = iI ((F ((j : Int).toNat)).toInt)
  rw [← iI_self]
  rfl
theorem zbool (v : Int) (h : v = 0 ∨ v = 1) : narrow .boolean (.int (iI v)) = .int (iI v) := by
  rcases h with rfl | rfl <;> rfl
theorem zboolv (v : Int) (h : v = 0 ∨ v = 1) : vp_nar .boolean (iI v) = iI v := by
  rcases h with rfl | rfl <;> rfl
theorem zcharv (v : Int) (h : 0 ≤ v ∧ v ≤ 65535) : narrow .char (.int (iI v)) = .int (iI v) ∧ fits .char (.int (iI v)) = true := by
  have h1 := pk_charN (q := v.toNat) (by omega)
  have h2 : nI v.toNat = iI v := by
    rw [iI_self (nI v.toNat), nI_toInt (by omega), Int.toNat_of_nonneg h.1]
  rw [h2] at h1
  exact h1
theorem nI_iI (n : Nat) : nI n = iI (n : Int) := by
  show Int32.ofNat n = Int32.ofInt (n : Int)
  rfl
abbrev zTys (tA : Nat → ClassId) : List (ClassId × FieldType) := [(tA 0, .int), (tA 1, .boolean), (tA 2, .char), (tA 3, .byte), (tA 4, .long), (tA 5, .int), (tA 6, .object "HarborLights$State")]
abbrev zK (D : va_G) (tA : Nat → ClassId) (U : State) : Prop := va_K D vwCl (zTys tA) U
/-! ===== instructions over whole numbers ===== -/
section ZR
variable {p : Program} {l : Launch} {e : Env} {R : Room} {s : State} {m : MethodId} {args : Array Value} {below : List Frame} {meth : Method} {c : Code} {H : Heap} {locs : List Loc} {cells slots : Nat} {Q : State → Prop}
variable {cc : ByteArray} {pc : Nat} {ls : Array Slot} {rest : List Value} {D : va_G} {tA : Nat → ClassId} {ws : va_W} {A : Nat → Prop} {H0 : Heap}
theorem zz_iconst (hx : p.tables.exec = Jvm.exec) (hb : c.code = cc) {n : Int} (hd : decode cc pc = .ok (.iconst n, 1)) (k : W p l e R s m args below meth c H locs cells slots Q (F0 m (pc + 1) ls (.int (iI n) :: rest))) : W p l e R s m args below meth c H locs cells slots Q (F0 m pc ls rest) := lv_iconst hx hb hd rfl k
theorem zz_bipush (hx : p.tables.exec = Jvm.exec) (hb : c.code = cc) {n : Int} (hd : decode cc pc = .ok (.bipush n, 2)) (hv : (Int8.ofInt n).toInt32 = iI n) (k : W p l e R s m args below meth c H locs cells slots Q (F0 m (pc + 2) ls (.int (iI n) :: rest))) : W p l e R s m args below meth c H locs cells slots Q (F0 m pc ls rest) := lv_bipush hx hb hd hv k
theorem zz_sipush (hx : p.tables.exec = Jvm.exec) (hb : c.code = cc) {n : Int} (hd : decode cc pc = .ok (.sipush n, 3)) (hv : (Int16.ofInt n).toInt32 = iI n) (k : W p l e R s m args below meth c H locs cells slots Q (F0 m (pc + 3) ls (.int (iI n) :: rest))) : W p l e R s m args below meth c H locs cells slots Q (F0 m pc ls rest) := lv_sipush hx hb hd hv k
theorem zz_iadd (hx : p.tables.exec = Jvm.exec) (hb : c.code = cc) {x y : Int} (hd : decode cc pc = .ok (.iadd, 1)) (k : W p l e R s m args below meth c H locs cells slots Q (F0 m (pc + 1) ls (.int (iI (x + y)) :: rest))) : W p l e R s m args below meth c H locs cells slots Q (F0 m pc ls (.int (iI y) :: .int (iI x) :: rest)) := lv_iadd hx hb hd (by rw [iI_add]; exact k)
theorem zz_isub (hx : p.tables.exec = Jvm.exec) (hb : c.code = cc) {x y : Int} (hd : decode cc pc = .ok (.isub, 1)) (k : W p l e R s m args below meth c H locs cells slots Q (F0 m (pc + 1) ls (.int (iI (x - y)) :: rest))) : W p l e R s m args below meth c H locs cells slots Q (F0 m pc ls (.int (iI y) :: .int (iI x) :: rest)) := lv_isub hx hb hd (by rw [iI_sub]; exact k)
theorem zz_imul (hx : p.tables.exec = Jvm.exec) (hb : c.code = cc) {x y : Int} (hd : decode cc pc = .ok (.imul, 1)) (k : W p l e R s m args below meth c H locs cells slots Q (F0 m (pc + 1) ls (.int (iI (x * y)) :: rest))) : W p l e R s m args below meth c H locs cells slots Q (F0 m pc ls (.int (iI y) :: .int (iI x) :: rest)) := lv_imul hx hb hd (by rw [iI_mul]; exact k)
theorem zz_ineg (hx : p.tables.exec = Jvm.exec) (hb : c.code = cc) {x : Int} (hd : decode cc pc = .ok (.ineg, 1)) (k : W p l e R s m args below meth c H locs cells slots Q (F0 m (pc + 1) ls (.int (iI (-x)) :: rest))) : W p l e R s m args below meth c H locs cells slots Q (F0 m pc ls (.int (iI x) :: rest)) := lv_ineg hx hb hd (by rw [iI_neg]; exact k)
theorem zz_idiv (hx : p.tables.exec = Jvm.exec) (hb : c.code = cc) {x y : Int} (hd : decode cc pc = .ok (.idiv, 1)) (h1 : 0 ≤ x ∧ x ≤ 2147483647) (h2 : 0 < y ∧ y ≤ 2147483647) (k : W p l e R s m args below meth c H locs cells slots Q (F0 m (pc + 1) ls (.int (iI (x / y)) :: rest))) : W p l e R s m args below meth c H locs cells slots Q (F0 m pc ls (.int (iI y) :: .int (iI x) :: rest)) := lv_idiv hx hb hd (iI_ne0 h2) (by rw [iI_div h1 h2]; exact k)
theorem zz_irem (hx : p.tables.exec = Jvm.exec) (hb : c.code = cc) {x y : Int} (hd : decode cc pc = .ok (.irem, 1)) (h1 : 0 ≤ x ∧ x ≤ 2147483647) (h2 : 0 < y ∧ y ≤ 2147483647) (k : W p l e R s m args below meth c H locs cells slots Q (F0 m (pc + 1) ls (.int (iI (x % y)) :: rest))) : W p l e R s m args below meth c H locs cells slots Q (F0 m pc ls (.int (iI y) :: .int (iI x) :: rest)) := lv_irem hx hb hd (iI_ne0 h2) (by rw [iI_rem h1 h2]; exact k)
theorem zz_iinc (hx : p.tables.exec = Jvm.exec) (hb : c.code = cc) {i nL k : Nat} {n x : Int} {lv lv' : List (Nat × Value)} (hd : decode cc pc = .ok (.iinc i n, 3)) (h : lv_has ls nL lv) (hk : lv[k]? = some (i, .int (iI x))) (hn : i < nL) (hl : (i, Value.int (iI (x + n))) :: lv.filter (fun q => !(q.1 == i) && !(q.1 + 1 == i && q.2.category == 2)) = lv')
    (kk : ∀ ls' : Array Slot, lv_has ls' nL lv' → W p l e R s m args below meth c H locs cells slots Q (F0 m (pc + 3) ls' rest)) : W p l e R s m args below meth c H locs cells slots Q (F0 m pc ls rest) := lv_iinc hx hb hd h hk (iI_add x n) hn hl kk
theorem zz_if_eq (hx : p.tables.exec = Jvm.exec) (hb : c.code = cc) {x : Int} {off : Int} {tgt : Nat} (hd : decode cc pc = .ok (.ifCond .eq off, 3)) (ht : (pc : Int) + off = (tgt : Int)) (rx : -2147483648 ≤ x ∧ x ≤ 2147483647) (kt : x = 0 → W p l e R s m args below meth c H locs cells slots Q (F0 m tgt ls rest)) (kf : ¬ x = 0 → W p l e R s m args below meth c H locs cells slots Q (F0 m (pc + 3) ls rest)) : W p l e R s m args below meth c H locs cells slots Q (F0 m pc ls (.int (iI x) :: rest)) :=
  lv_if_eq hx hb hd ht (fun h => kt ((iI_inj rx (by omega)).mp h)) (fun h => kf (fun z => h ((iI_inj rx (by omega)).mpr z)))
theorem zz_if_ne (hx : p.tables.exec = Jvm.exec) (hb : c.code = cc) {x : Int} {off : Int} {tgt : Nat} (hd : decode cc pc = .ok (.ifCond .ne off, 3)) (ht : (pc : Int) + off = (tgt : Int)) (rx : -2147483648 ≤ x ∧ x ≤ 2147483647) (kt : ¬ x = 0 → W p l e R s m args below meth c H locs cells slots Q (F0 m tgt ls rest)) (kf : x = 0 → W p l e R s m args below meth c H locs cells slots Q (F0 m (pc + 3) ls rest)) : W p l e R s m args below meth c H locs cells slots Q (F0 m pc ls (.int (iI x) :: rest)) :=
  lv_if_ne hx hb hd ht (fun h => kt (fun z => h ((iI_inj rx (by omega)).mpr z))) (fun h => kf ((iI_inj rx (by omega)).mp h))
theorem zz_if_lt (hx : p.tables.exec = Jvm.exec) (hb : c.code = cc) {x : Int} {off : Int} {tgt : Nat} (hd : decode cc pc = .ok (.ifCond .lt off, 3)) (ht : (pc : Int) + off = (tgt : Int)) (rx : -2147483648 ≤ x ∧ x ≤ 2147483647) (kt : x < 0 → W p l e R s m args below meth c H locs cells slots Q (F0 m tgt ls rest)) (kf : 0 ≤ x → W p l e R s m args below meth c H locs cells slots Q (F0 m (pc + 3) ls rest)) : W p l e R s m args below meth c H locs cells slots Q (F0 m pc ls (.int (iI x) :: rest)) :=
  lv_if_lt hx hb hd ht (fun h => kt ((iI_lt rx (by omega)).mp h)) (fun h => kf (Int.not_lt.mp fun z => h ((iI_lt rx (by omega)).mpr z)))
theorem zz_if_ge (hx : p.tables.exec = Jvm.exec) (hb : c.code = cc) {x : Int} {off : Int} {tgt : Nat} (hd : decode cc pc = .ok (.ifCond .ge off, 3)) (ht : (pc : Int) + off = (tgt : Int)) (rx : -2147483648 ≤ x ∧ x ≤ 2147483647) (kt : 0 ≤ x → W p l e R s m args below meth c H locs cells slots Q (F0 m tgt ls rest)) (kf : x < 0 → W p l e R s m args below meth c H locs cells slots Q (F0 m (pc + 3) ls rest)) : W p l e R s m args below meth c H locs cells slots Q (F0 m pc ls (.int (iI x) :: rest)) :=
  lv_if_ge hx hb hd ht (fun h => kt ((iI_le (by omega) rx).mp h)) (fun h => kf (Int.not_le.mp fun z => h ((iI_le (by omega) rx).mpr z)))
theorem zz_if_gt (hx : p.tables.exec = Jvm.exec) (hb : c.code = cc) {x : Int} {off : Int} {tgt : Nat} (hd : decode cc pc = .ok (.ifCond .gt off, 3)) (ht : (pc : Int) + off = (tgt : Int)) (rx : -2147483648 ≤ x ∧ x ≤ 2147483647) (kt : 0 < x → W p l e R s m args below meth c H locs cells slots Q (F0 m tgt ls rest)) (kf : x ≤ 0 → W p l e R s m args below meth c H locs cells slots Q (F0 m (pc + 3) ls rest)) : W p l e R s m args below meth c H locs cells slots Q (F0 m pc ls (.int (iI x) :: rest)) :=
  lv_if_gt hx hb hd ht (fun h => kt ((iI_lt (by omega) rx).mp h)) (fun h => kf (Int.not_lt.mp fun z => h ((iI_lt (by omega) rx).mpr z)))
theorem zz_if_le (hx : p.tables.exec = Jvm.exec) (hb : c.code = cc) {x : Int} {off : Int} {tgt : Nat} (hd : decode cc pc = .ok (.ifCond .le off, 3)) (ht : (pc : Int) + off = (tgt : Int)) (rx : -2147483648 ≤ x ∧ x ≤ 2147483647) (kt : x ≤ 0 → W p l e R s m args below meth c H locs cells slots Q (F0 m tgt ls rest)) (kf : 0 < x → W p l e R s m args below meth c H locs cells slots Q (F0 m (pc + 3) ls rest)) : W p l e R s m args below meth c H locs cells slots Q (F0 m pc ls (.int (iI x) :: rest)) :=
  lv_if_le hx hb hd ht (fun h => kt ((iI_le rx (by omega)).mp h)) (fun h => kf (Int.not_le.mp fun z => h ((iI_le rx (by omega)).mpr z)))
theorem zz_icmp_eq (hx : p.tables.exec = Jvm.exec) (hb : c.code = cc) {x y : Int} {off : Int} {tgt : Nat} (hd : decode cc pc = .ok (.if_icmp .eq off, 3)) (ht : (pc : Int) + off = (tgt : Int)) (rx : -2147483648 ≤ x ∧ x ≤ 2147483647) (ry : -2147483648 ≤ y ∧ y ≤ 2147483647) (kt : x = y → W p l e R s m args below meth c H locs cells slots Q (F0 m tgt ls rest)) (kf : ¬ x = y → W p l e R s m args below meth c H locs cells slots Q (F0 m (pc + 3) ls rest)) : W p l e R s m args below meth c H locs cells slots Q (F0 m pc ls (.int (iI y) :: .int (iI x) :: rest)) :=
  lv_icmp_eq hx hb hd ht (fun h => kt ((iI_inj rx ry).mp h)) (fun h => kf (fun z => h ((iI_inj rx ry).mpr z)))
theorem zz_icmp_ne (hx : p.tables.exec = Jvm.exec) (hb : c.code = cc) {x y : Int} {off : Int} {tgt : Nat} (hd : decode cc pc = .ok (.if_icmp .ne off, 3)) (ht : (pc : Int) + off = (tgt : Int)) (rx : -2147483648 ≤ x ∧ x ≤ 2147483647) (ry : -2147483648 ≤ y ∧ y ≤ 2147483647) (kt : ¬ x = y → W p l e R s m args below meth c H locs cells slots Q (F0 m tgt ls rest)) (kf : x = y → W p l e R s m args below meth c H locs cells slots Q (F0 m (pc + 3) ls rest)) : W p l e R s m args below meth c H locs cells slots Q (F0 m pc ls (.int (iI y) :: .int (iI x) :: rest)) :=
  lv_icmp_ne hx hb hd ht (fun h => kt (fun z => h ((iI_inj rx ry).mpr z))) (fun h => kf ((iI_inj rx ry).mp h))
theorem zz_icmp_lt (hx : p.tables.exec = Jvm.exec) (hb : c.code = cc) {x y : Int} {off : Int} {tgt : Nat} (hd : decode cc pc = .ok (.if_icmp .lt off, 3)) (ht : (pc : Int) + off = (tgt : Int)) (rx : -2147483648 ≤ x ∧ x ≤ 2147483647) (ry : -2147483648 ≤ y ∧ y ≤ 2147483647) (kt : x < y → W p l e R s m args below meth c H locs cells slots Q (F0 m tgt ls rest)) (kf : y ≤ x → W p l e R s m args below meth c H locs cells slots Q (F0 m (pc + 3) ls rest)) : W p l e R s m args below meth c H locs cells slots Q (F0 m pc ls (.int (iI y) :: .int (iI x) :: rest)) :=
  lv_icmp_lt hx hb hd ht (fun h => kt ((iI_lt rx ry).mp h)) (fun h => kf (Int.not_lt.mp fun z => h ((iI_lt rx ry).mpr z)))
theorem zz_icmp_ge (hx : p.tables.exec = Jvm.exec) (hb : c.code = cc) {x y : Int} {off : Int} {tgt : Nat} (hd : decode cc pc = .ok (.if_icmp .ge off, 3)) (ht : (pc : Int) + off = (tgt : Int)) (rx : -2147483648 ≤ x ∧ x ≤ 2147483647) (ry : -2147483648 ≤ y ∧ y ≤ 2147483647) (kt : y ≤ x → W p l e R s m args below meth c H locs cells slots Q (F0 m tgt ls rest)) (kf : x < y → W p l e R s m args below meth c H locs cells slots Q (F0 m (pc + 3) ls rest)) : W p l e R s m args below meth c H locs cells slots Q (F0 m pc ls (.int (iI y) :: .int (iI x) :: rest)) :=
  lv_icmp_ge hx hb hd ht (fun h => kt ((iI_le ry rx).mp h)) (fun h => kf (Int.not_le.mp fun z => h ((iI_le ry rx).mpr z)))
theorem zz_icmp_gt (hx : p.tables.exec = Jvm.exec) (hb : c.code = cc) {x y : Int} {off : Int} {tgt : Nat} (hd : decode cc pc = .ok (.if_icmp .gt off, 3)) (ht : (pc : Int) + off = (tgt : Int)) (rx : -2147483648 ≤ x ∧ x ≤ 2147483647) (ry : -2147483648 ≤ y ∧ y ≤ 2147483647) (kt : y < x → W p l e R s m args below meth c H locs cells slots Q (F0 m tgt ls rest)) (kf : x ≤ y → W p l e R s m args below meth c H locs cells slots Q (F0 m (pc + 3) ls rest)) : W p l e R s m args below meth c H locs cells slots Q (F0 m pc ls (.int (iI y) :: .int (iI x) :: rest)) :=
  lv_icmp_gt hx hb hd ht (fun h => kt ((iI_lt ry rx).mp h)) (fun h => kf (Int.not_lt.mp fun z => h ((iI_lt ry rx).mpr z)))
theorem zz_icmp_le (hx : p.tables.exec = Jvm.exec) (hb : c.code = cc) {x y : Int} {off : Int} {tgt : Nat} (hd : decode cc pc = .ok (.if_icmp .le off, 3)) (ht : (pc : Int) + off = (tgt : Int)) (rx : -2147483648 ≤ x ∧ x ≤ 2147483647) (ry : -2147483648 ≤ y ∧ y ≤ 2147483647) (kt : x ≤ y → W p l e R s m args below meth c H locs cells slots Q (F0 m tgt ls rest)) (kf : y < x → W p l e R s m args below meth c H locs cells slots Q (F0 m (pc + 3) ls rest)) : W p l e R s m args below meth c H locs cells slots Q (F0 m pc ls (.int (iI y) :: .int (iI x) :: rest)) :=
  lv_icmp_le hx hb hd ht (fun h => kt ((iI_le rx ry).mp h)) (fun h => kf (Int.not_le.mp fun z => h ((iI_le rx ry).mpr z)))
/-! arrays -/
theorem zz_iald (hx : p.tables.exec = Jvm.exec) (hb : c.code = cc) (hK : zK D tA s) (hP : va_P D vwCl ws H) (q0 : Nat) {a n : Nat} {f : Int → Int} {k : Int} (ha : ws[q0]? = some (a, .inl (tA 0, n, .inl (zA f)))) (hn : n ≤ 2147483647) (hk : 0 ≤ k ∧ k < n) (hd : decode cc pc = .ok (.iaload, 1)) (kk : W p l e R s m args below meth c H locs cells slots Q (F0 m (pc + 1) ls (.int (iI (f k)) :: rest))) : W p l e R s m args below meth c H locs cells slots Q (F0 m pc ls (.int (iI k) :: .ref a :: rest)) :=
  va_iald hx hb hK hP q0 0 ha rfl (zin hk hn) hd (by rw [zA_at f (by omega)]; exact kk)
theorem zz_zald (hx : p.tables.exec = Jvm.exec) (hb : c.code = cc) (hK : zK D tA s) (hP : va_P D vwCl ws H) (q0 : Nat) {a n : Nat} {f : Int → Int} {k : Int} (ha : ws[q0]? = some (a, .inl (tA 1, n, .inl (zA f)))) (hn : n ≤ 2147483647) (hk : 0 ≤ k ∧ k < n) (hd : decode cc pc = .ok (.baload, 1)) (kk : W p l e R s m args below meth c H locs cells slots Q (F0 m (pc + 1) ls (.int (iI (f k)) :: rest))) : W p l e R s m args below meth c H locs cells slots Q (F0 m pc ls (.int (iI k) :: .ref a :: rest)) :=
  va_zald hx hb hK hP q0 1 ha rfl (zin hk hn) hd (by rw [zA_at f (by omega)]; exact kk)
theorem zz_cald (hx : p.tables.exec = Jvm.exec) (hb : c.code = cc) (hK : zK D tA s) (hP : va_P D vwCl ws H) (q0 : Nat) {a n : Nat} {f : Int → Int} {k : Int} (ha : ws[q0]? = some (a, .inl (tA 2, n, .inl (zA f)))) (hn : n ≤ 2147483647) (hk : 0 ≤ k ∧ k < n) (hd : decode cc pc = .ok (.caload, 1)) (kk : W p l e R s m args below meth c H locs cells slots Q (F0 m (pc + 1) ls (.int (iI (f k)) :: rest))) : W p l e R s m args below meth c H locs cells slots Q (F0 m pc ls (.int (iI k) :: .ref a :: rest)) :=
  va_cald hx hb hK hP q0 2 ha rfl (zin hk hn) hd (by rw [zA_at f (by omega)]; exact kk)
theorem zz_iast (hx : p.tables.exec = Jvm.exec) (hb : c.code = cc) (hK : zK D tA s) (hP : va_P D vwCl ws H) (hD : va_D A ws) (hS : va_S A H0 H locs) (q0 : Nat) {a n : Nat} {f : Int → Int} {k v : Int} (ha : ws[q0]? = some (a, .inl (tA 0, n, .inl (zA f)))) (hn : n ≤ 2147483647) (hk : 0 ≤ k ∧ k < n) (hd : decode cc pc = .ok (.iastore, 1))
    (kk : ∀ (H1 : Heap) (locs1 : List Loc), va_P D vwCl (ws.set q0 (a, .inl (tA 0, n, .inl (zA (zU f k v))))) H1 → va_D A (ws.set q0 (a, .inl (tA 0, n, .inl (zA (zU f k v))))) → va_S A H0 H1 locs1 → W p l e R s m args below meth c H1 locs1 cells slots Q (F0 m (pc + 1) ls rest)) : W p l e R s m args below meth c H locs cells slots Q (F0 m pc ls (.int (iI v) :: .int (iI k) :: .ref a :: rest)) :=
  va_iast hx hb hK hP hD hS q0 0 ha rfl (zin hk hn) hd (by rw [zA_up f (by omega)]; exact kk)
theorem zz_zast (hx : p.tables.exec = Jvm.exec) (hb : c.code = cc) (hK : zK D tA s) (hP : va_P D vwCl ws H) (hD : va_D A ws) (hS : va_S A H0 H locs) (q0 : Nat) {a n : Nat} {f : Int → Int} {k v : Int} (ha : ws[q0]? = some (a, .inl (tA 1, n, .inl (zA f)))) (hn : n ≤ 2147483647) (hk : 0 ≤ k ∧ k < n) (hv : v = 0 ∨ v = 1) (hd : decode cc pc = .ok (.bastore, 1))
    (kk : ∀ (H1 : Heap) (locs1 : List Loc), va_P D vwCl (ws.set q0 (a, .inl (tA 1, n, .inl (zA (zU f k v))))) H1 → va_D A (ws.set q0 (a, .inl (tA 1, n, .inl (zA (zU f k v))))) → va_S A H0 H1 locs1 → W p l e R s m args below meth c H1 locs1 cells slots Q (F0 m (pc + 1) ls rest)) : W p l e R s m args below meth c H locs cells slots Q (F0 m pc ls (.int (iI v) :: .int (iI k) :: .ref a :: rest)) :=
  va_zast hx hb hK hP hD hS q0 1 ha rfl (zin hk hn) hd (by rw [zboolv v hv, zA_up f (by omega)]; exact kk)
theorem zP_sub {ws' : va_W} (h : va_P D vwCl ws H) (is : List Nat) (hs : is.map (fun i => ws[i]?) = ws'.map some) : va_P D vwCl ws' H := by
  intro k q hq
  have h1 : (is.map (fun i => ws[i]?))[k]? = some (some q) := by rw [hs, List.getElem?_map, hq]; rfl
  rw [List.getElem?_map] at h1
  cases hi : is[k]? with
  | none => rw [hi] at h1; cases h1
  | some i => rw [hi] at h1; exact h i q (Option.some.inj h1)
end ZR
/-! ===== contracts over whole numbers ===== -/
def zPre (D : va_G) (tA : Nat → ClassId) (ws : va_W) (sz : Nat) : State → Prop := fun U => U.heap.size = sz ∧ va_P D vwCl ws U.heap ∧ zK D tA U ∧ va_D (fun _ => True) ws
def zB (D : va_G) (tA : Nat → ClassId) (A : Nat → Prop) (ws : va_W) : State → Prop := fun t => va_P D vwCl ws t.heap ∧ zK D tA t ∧ va_D A ws
def zMi {S : Type} (l : Launch) (y : MethodName) (w : List Cond) (rm : Room) (D : va_G) (tA : Nat → ClassId) (av : List Value) (ws : va_W) (sz : Nat) (post : Int → S → Prop) (ws' : S → va_W) (mc ms : Nat) : Prop :=
  Met l y w rm (va_Pc av (zPre D tA ws sz)) (va_Qi (fun r (u : Int × S) => r = iI u.1 ∧ post u.1 u.2) (fun u => zB D tA (va_A ws sz) (ws' u.2)) (va_A ws sz)) mc ms (va_A ws sz)
def zMl {S : Type} (l : Launch) (y : MethodName) (w : List Cond) (rm : Room) (D : va_G) (tA : Nat → ClassId) (av : List Value) (ws : va_W) (sz : Nat) (post : Int → S → Prop) (ws' : S → va_W) (mc ms : Nat) : Prop :=
  Met l y w rm (va_Pc av (zPre D tA ws sz)) (va_Ql (fun r (u : Int × S) => r = lI u.1 ∧ post u.1 u.2) (fun u => zB D tA (va_A ws sz) (ws' u.2)) (va_A ws sz)) mc ms (va_A ws sz)
def zMv {S : Type} (l : Launch) (y : MethodName) (w : List Cond) (rm : Room) (D : va_G) (tA : Nat → ClassId) (av : List Value) (ws : va_W) (sz : Nat) (post : S → Prop) (ws' : S → va_W) (mc ms : Nat) : Prop :=
  Met l y w rm (va_Pc av (zPre D tA ws sz)) (va_Qv (fun (u : S) => post u) (fun u => zB D tA (va_A ws sz) (ws' u)) (va_A ws sz)) mc ms (va_A ws sz)
theorem zPc_calling {D : va_G} {tA : Nat → ClassId} {av : List Value} {ws : va_W} {sz : Nat} : ∀ (a : Array Value) (U : State) (g : JFrame) (mk : MethodId), va_Pc av (zPre D tA ws sz) a U → va_Pc av (zPre D tA ws sz) a (U.calling g mk a) := by
  intro a U g mk q
  obtain ⟨q0, q1, q2, q3, q4⟩ := q
  exact ⟨q0, q1, q2, va_K.moved (u := U) (U := U.calling g mk a) (Vm.Alike.refl U.vm) q3, q4⟩
