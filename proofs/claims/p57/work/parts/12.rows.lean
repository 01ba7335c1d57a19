/-! ===== Math.max, Math.min, System.arraycopy over whole numbers; a row's ints said otherwise ===== -/
def zCpy (f g : Int → Int) (sp dp n : Int) : Int → Int := fun j => if dp ≤ j ∧ j < dp + n then f (sp + (j - dp)) else g j
theorem zA_cpy (f g : Int → Int) {sp dp n : Int} (h1 : 0 ≤ sp ∧ sp ≤ 2147483647) (h2 : 0 ≤ dp ∧ dp ≤ 2147483647) (h3 : 0 ≤ n ∧ n ≤ 2147483647) : va_cpy (zA f) (zA g) (iI sp).toNatClampNeg (iI dp).toNatClampNeg (iI n).toNatClampNeg = zA (zCpy f g sp dp n) := by
  rw [iI_clamp h1, iI_clamp h2, iI_clamp h3]
  funext j
  unfold va_cpy zA zCpy
  by_cases h : dp.toNat ≤ j ∧ j < dp.toNat + n.toNat
  · rw [if_pos h, if_pos (by omega)]
    congr 2
    omega
  · rw [if_neg h, if_neg (by omega)]
theorem zcell_congr (c : ClassId) (n : Nat) {F G : Nat → Int32} (h : ∀ j, j < n → F j = G j) : vp_cell c (n, .inl F) = vp_cell c (n, .inl G) := by
  rw [vp_cell_i, vp_cell_i]
  unfold arrV
  congr 1
  congr 1
  funext j
  show Value.int (F j.val) = Value.int (G j.val)
  rw [h j.val j.isLt]
theorem zP_cell {D : va_G} {ws : va_W} {H : Heap} {q a n : Nat} {c : ClassId} {F G : Nat → Int32} (h : va_P D vwCl (ws.set q (a, .inl (c, n, .inl F))) H) (hFG : ∀ j, j < n → F j = G j) : va_P D vwCl (ws.set q (a, .inl (c, n, .inl G))) H := by
  intro k x hx
  by_cases hk : q = k
  · subst hk
    rw [List.getElem?_set] at hx
    by_cases hl : q < ws.length
    · rw [if_pos rfl, if_pos hl] at hx
      cases hx
      have h1 := h q (a, .inl (c, n, .inl F)) (by rw [List.getElem?_set, if_pos rfl, if_pos hl])
      have h2 : H[a]? = some (vp_cell c (n, .inl F)) := h1
      show H[a]? = some (vp_cell c (n, .inl G))
      rw [h2, zcell_congr c n hFG]
    · rw [if_pos rfl, if_neg hl] at hx
      cases hx
  · rw [List.getElem?_set, if_neg hk] at hx
    exact h k x (by rw [List.getElem?_set, if_neg hk]; exact hx)
theorem zD_cell {A : Nat → Prop} {ws : va_W} {q a : Nat} {x y : va_E} (h : va_D A (ws.set q (a, x))) : va_D A (ws.set q (a, y)) := by
  by_cases hl : q < ws.length
  · have h1 := h.set (p := q) (a := a) (e0 := x) (e := y) (by rw [List.getElem?_set, if_pos rfl, if_pos hl])
    rw [List.set_set] at h1
    exact h1
  · rw [List.set_eq_of_length_le (by omega)] at h ⊢
    exact h
section ZR2
variable {p : Program} {l : Launch} {e : Env} {R : Room} {s : State} {m : MethodId} {args : Array Value} {below : List Frame} {meth : Method} {c : Code} {H : Heap} {locs : List Loc} {cells slots : Nat} {Q : State → Prop}
variable {cc : ByteArray} {pc : Nat} {ls : Array Slot} {rest : List Value} {D : va_G} {tA : Nat → ClassId} {ws : va_W} {A : Nat → Prop} {H0 : Heap}
theorem zz_mmax (hx : p.tables.exec = Jvm.exec) (hb : c.code = cc) (hml : c.maxLocals = ls.size) {own : String} {index : Nat} (hown : s.vm.findClass own = some m.cls) (hlink : (Cond.methodLink own index Lib.Math.max.name).before args s = true) (hstat : (Cond.static Lib.Math.max.name).before args s = true) (hini : (Cond.initialized "java/lang/Math").before args s = true) (hcode : (Cond.code Lib.Math.max.name Lib.Math.max.code 2 (some .int)).before args s = true)
    (hframes : 1 ≤ R.frames) (hlocals : (rest.map fun v => v.category).sum + 13 ≤ R.locals) (hc : cells ≤ R.cells) (hs : slots ≤ R.slots) {x y : Int} (rx : -2147483648 ≤ x ∧ x ≤ 2147483647) (ry : -2147483648 ≤ y ∧ y ≤ 2147483647) (hd : decode cc pc = .ok (.invokestatic index, 3))
    (kk : W p l e R s m args below meth c H locs cells slots Q (F0 m (pc + 3) ls (.int (iI (max x y)) :: rest))) : W p l e R s m args below meth c H locs cells slots Q (F0 m pc ls (.int (iI y) :: .int (iI x) :: rest)) := by
  refine va_mmax hx hb hml hown hlink hstat hini hcode hframes hlocals hc hs hd ?_
  have h : (if iI x < iI y then iI y else iI x) = iI (max x y) := by
    by_cases h : x < y
    · rw [if_pos ((iI_lt rx ry).mpr h), Int.max_eq_right (by omega)]
    · rw [if_neg (fun z => h ((iI_lt rx ry).mp z)), Int.max_eq_left (by omega)]
  rw [h]
  exact kk
theorem zz_mmin (hx : p.tables.exec = Jvm.exec) (hb : c.code = cc) (hml : c.maxLocals = ls.size) {own : String} {index : Nat} (hown : s.vm.findClass own = some m.cls) (hlink : (Cond.methodLink own index Lib.Math.min.name).before args s = true) (hstat : (Cond.static Lib.Math.min.name).before args s = true) (hini : (Cond.initialized "java/lang/Math").before args s = true) (hcode : (Cond.code Lib.Math.min.name Lib.Math.min.code 2 (some .int)).before args s = true)
    (hframes : 1 ≤ R.frames) (hlocals : (rest.map fun v => v.category).sum + 13 ≤ R.locals) (hc : cells ≤ R.cells) (hs : slots ≤ R.slots) {x y : Int} (rx : -2147483648 ≤ x ∧ x ≤ 2147483647) (ry : -2147483648 ≤ y ∧ y ≤ 2147483647) (hd : decode cc pc = .ok (.invokestatic index, 3))
    (kk : W p l e R s m args below meth c H locs cells slots Q (F0 m (pc + 3) ls (.int (iI (min x y)) :: rest))) : W p l e R s m args below meth c H locs cells slots Q (F0 m pc ls (.int (iI y) :: .int (iI x) :: rest)) := by
  refine va_mmin hx hb hml hown hlink hstat hini hcode hframes hlocals hc hs hd ?_
  have h : (if iI y < iI x then iI y else iI x) = iI (min x y) := by
    by_cases h : y < x
    · rw [if_pos ((iI_lt ry rx).mpr h), Int.min_eq_right (by omega)]
    · rw [if_neg (fun z => h ((iI_lt ry rx).mp z)), Int.min_eq_left (by omega)]
  rw [h]
  exact kk
theorem zz_copyi (hx : p.tables.exec = Jvm.exec) (hb : c.code = cc) (hml : c.maxLocals = ls.size) {own : String} {index : Nat} (hown : s.vm.findClass own = some m.cls) (hlink : (Cond.methodLink own index arraycopyName).before args s = true) (hnat : (Cond.native arraycopyName).before args s = true) (hstat : (Cond.static arraycopyName).before args s = true) (hini : (Cond.initialized "java/lang/System").before args s = true)
    (hframes : 1 ≤ R.frames) (hlocals : (rest.map fun v => v.category).sum + (nativeFrameWords "java/lang/System" "arraycopy" 5 + 11) ≤ R.locals) (hK : zK D tA s) (hP : va_P D vwCl ws H) (hD : va_D A ws) (hS : va_S A H0 H locs) (q0 q1 : Nat) {a0 a : Nat} {n0 n1 : Nat} {f g : Int → Int} (ha0 : ws[q0]? = some (a0, .inl (tA 0, n0, .inl (zA f)))) (ha1 : ws[q1]? = some (a, .inl (tA 0, n1, .inl (zA g))))
    (hn0 : n0 ≤ 2147483647) (hn1 : n1 ≤ 2147483647) {sp dp n : Int} (hin : 0 ≤ sp ∧ 0 ≤ dp ∧ 0 ≤ n ∧ sp + n ≤ n0 ∧ dp + n ≤ n1) (hd : decode cc pc = .ok (.invokestatic index, 3))
    (kk : ∀ (H1 : Heap) (locs1 : List Loc), va_P D vwCl (ws.set q1 (a, .inl (tA 0, n1, .inl (zA (zCpy f g sp dp n))))) H1 → va_D A (ws.set q1 (a, .inl (tA 0, n1, .inl (zA (zCpy f g sp dp n))))) → va_S A H0 H1 locs1 → W p l e R s m args below meth c H1 locs1 cells slots Q (F0 m (pc + 3) ls rest)) : W p l e R s m args below meth c H locs cells slots Q (F0 m pc ls (.int (iI n) :: .int (iI dp) :: .ref a :: .int (iI sp) :: .ref a0 :: rest)) := by
  have e1 := iI_clamp (k := sp) (by omega)
  have e2 := iI_clamp (k := dp) (by omega)
  have e3 := iI_clamp (k := n) (by omega)
  refine va_copyi hx hb hml hown hlink hnat hstat hini hK hP hD hS q0 q1 0 0 ha0 ha1 rfl rfl rfl (fun h => absurd ((iI_lt (b := 0) (by omega) (by omega)).mp h) (by omega)) (fun h => absurd ((iI_lt (b := 0) (by omega) (by omega)).mp h) (by omega)) (fun h => absurd ((iI_lt (b := 0) (by omega) (by omega)).mp h) (by omega)) (by rw [e1, e3]; omega) (by rw [e2, e3]; omega) (fun _ _ => rfl) hframes hlocals hd ?_
  rw [zA_cpy f g (by omega) (by omega) (by omega)]
  exact kk
/-- a whole row copied onto another one of its length: it holds the same -/
theorem zz_copyAll (hx : p.tables.exec = Jvm.exec) (hb : c.code = cc) (hml : c.maxLocals = ls.size) {own : String} {index : Nat} (hown : s.vm.findClass own = some m.cls) (hlink : (Cond.methodLink own index arraycopyName).before args s = true) (hnat : (Cond.native arraycopyName).before args s = true) (hstat : (Cond.static arraycopyName).before args s = true) (hini : (Cond.initialized "java/lang/System").before args s = true)
    (hframes : 1 ≤ R.frames) (hlocals : (rest.map fun v => v.category).sum + (nativeFrameWords "java/lang/System" "arraycopy" 5 + 11) ≤ R.locals) (hK : zK D tA s) (hP : va_P D vwCl ws H) (hD : va_D A ws) (hS : va_S A H0 H locs) (q0 q1 : Nat) {a0 a : Nat} {n0 : Nat} {f g : Int → Int} (ha0 : ws[q0]? = some (a0, .inl (tA 0, n0, .inl (zA f)))) (ha1 : ws[q1]? = some (a, .inl (tA 0, n0, .inl (zA g))))
    (hn0 : n0 ≤ 2147483647) {n : Int} (hin : n = n0) (hd : decode cc pc = .ok (.invokestatic index, 3))
    (kk : ∀ (H1 : Heap) (locs1 : List Loc), va_P D vwCl (ws.set q1 (a, .inl (tA 0, n0, .inl (zA f)))) H1 → va_D A (ws.set q1 (a, .inl (tA 0, n0, .inl (zA f)))) → va_S A H0 H1 locs1 → W p l e R s m args below meth c H1 locs1 cells slots Q (F0 m (pc + 3) ls rest)) : W p l e R s m args below meth c H locs cells slots Q (F0 m pc ls (.int (iI n) :: .int (iI 0) :: .ref a :: .int (iI 0) :: .ref a0 :: rest)) := by
  refine zz_copyi hx hb hml hown hlink hnat hstat hini hframes hlocals hK hP hD hS q0 q1 ha0 ha1 hn0 hn0 (by omega) hd (fun H1 locs1 hP1 hD1 hS1 => kk H1 locs1 (zP_cell hP1 ?_) (zD_cell hD1) hS1)
  intro j hj
  unfold zA zCpy
  rw [if_pos (by omega)]
  congr 2
  omega
theorem zz_lconst0 (hx : p.tables.exec = Jvm.exec) (hb : c.code = cc) (hd : decode cc pc = .ok (.lconst 0, 1)) (k : W p l e R s m args below meth c H locs cells slots Q (F0 m (pc + 1) ls (.long (lI 0) :: rest))) : W p l e R s m args below meth c H locs cells slots Q (F0 m pc ls rest) := lv_lconst hx hb hd rfl k
theorem zz_lconst1 (hx : p.tables.exec = Jvm.exec) (hb : c.code = cc) (hd : decode cc pc = .ok (.lconst 1, 1)) (k : W p l e R s m args below meth c H locs cells slots Q (F0 m (pc + 1) ls (.long (lI 1) :: rest))) : W p l e R s m args below meth c H locs cells slots Q (F0 m pc ls rest) := lv_lconst hx hb hd rfl k
theorem zz_ladd (hx : p.tables.exec = Jvm.exec) (hb : c.code = cc) {x y : Int} (hd : decode cc pc = .ok (.ladd, 1)) (k : W p l e R s m args below meth c H locs cells slots Q (F0 m (pc + 1) ls (.long (lI (x + y)) :: rest))) : W p l e R s m args below meth c H locs cells slots Q (F0 m pc ls (.long (lI y) :: .long (lI x) :: rest)) := lv_ladd hx hb hd (by rw [lI_add]; exact k)
theorem zz_lsub (hx : p.tables.exec = Jvm.exec) (hb : c.code = cc) {x y : Int} (hd : decode cc pc = .ok (.lsub, 1)) (k : W p l e R s m args below meth c H locs cells slots Q (F0 m (pc + 1) ls (.long (lI (x - y)) :: rest))) : W p l e R s m args below meth c H locs cells slots Q (F0 m pc ls (.long (lI y) :: .long (lI x) :: rest)) := lv_lsub hx hb hd (by rw [lI_sub]; exact k)
theorem zz_i2l (hx : p.tables.exec = Jvm.exec) (hb : c.code = cc) {x : Int} (hd : decode cc pc = .ok (.i2l, 1)) (rx : -2147483648 ≤ x ∧ x ≤ 2147483647) (k : W p l e R s m args below meth c H locs cells slots Q (F0 m (pc + 1) ls (.long (lI x) :: rest))) : W p l e R s m args below meth c H locs cells slots Q (F0 m pc ls (.int (iI x) :: rest)) := lv_i2l hx hb hd (iI_l rx) k
end ZR2
def zR (f : Int → Int) : Prop := ∀ j, -2147483648 ≤ f j ∧ f j ≤ 2147483647
def zRn (n : Int) (f : Int → Int) : Prop := ∀ j, 0 ≤ j → j < n → -2147483648 ≤ f j ∧ f j ≤ 2147483647
theorem zR_U {f : Int → Int} (h : zR f) {k v : Int} (hv : -2147483648 ≤ v ∧ v ≤ 2147483647) : zR (zU f k v) := by
  intro j
  unfold zU
  by_cases hj : j = k
  · rw [if_pos hj]; exact hv
  · rw [if_neg hj]; exact h j
theorem zfitZ (v : Int) (h : v = 0 ∨ v = 1) : fits .boolean (.int (iI v)) = true := by
  rcases h with rfl | rfl <;> rfl
