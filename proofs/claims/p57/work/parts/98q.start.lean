/-! ===== what the Statement gives of the start ===== -/
theorem st_nar {args : Array Value} {s : State} (h : (Jvm.Cond.and given_1 narrow_1).before args s = true) : narrow_1_1.before args s = true ∧ narrow_1_2.before args s = true ∧ narrow_1_3.before args s = true := by
  rw [Cond.before_and, Bool.and_eq_true] at h
  have h : (Jvm.Cond.and narrow_1_1 (Jvm.Cond.and narrow_1_2 narrow_1_3)).before args s = true := h.2
  rw [Cond.before_and, Bool.and_eq_true, Cond.before_and, Bool.and_eq_true] at h
  exact ⟨h.1, h.2.1, h.2.2⟩
theorem st_1 {args : Array Value} {s : State} (h : narrow_1_1.before args s = true) (i : Nat) {w : Cond} (hi : (flatC narrow_1_1)[i]? = some w) : w.before args s = true := flat_of_before _ h _ (List.mem_of_getElem? hi)
theorem st_2 {args : Array Value} {s : State} (h : narrow_1_2.before args s = true) (i : Nat) {w : Cond} (hi : (flatC narrow_1_2)[i]? = some w) : w.before args s = true := flat_of_before _ h _ (List.mem_of_getElem? hi)
theorem st_3 {args : Array Value} {s : State} (h : narrow_1_3.before args s = true) (i : Nat) {w : Cond} (hi : (flatC narrow_1_3)[i]? = some w) : w.before args s = true := flat_of_before _ h _ (List.mem_of_getElem? hi)
theorem st_ref {args : Array Value} {s : State} {tm : Term} {nm : String} (hex : (Cond.exactly tm nm).before args s = true) : ∃ x : Nat, tm.eval args s none [] s = some (.ref x) := by
  obtain ⟨x, -, -, -, hx, -⟩ := Cond.exactly_spec (args := args) (first := s) (o := none) (s := s) (idx := []) (t := tm) (cls := nm) hex
  exact ⟨x, hx⟩
def stS (A : Nat → Prop) (s : State) (i x v : Nat) : Prop := va_O "java/lang/String" x A s s.heap ∧ va_OF "java/lang/String" "coder" "B" (.int (iI 0)) x A s s.heap ∧ va_OF "java/lang/String" "value" "[B" (.ref v) x A s s.heap ∧ va_T .byte v (sLn i) (fun j => .int (iI (sCh i (j : Int)))) A s s.heap
theorem st_str (cn : String) {args : Array Value} {s : State} {A : Nat → Prop} (i k : Nat) (hA : ∀ x : Nat, x < s.heap.size → ¬ A x) (hex : (Cond.exactly (.string cn k) "java/lang/String").before args s = true) (hco : (Cond.eq (.field (.string cn k) "java/lang/String" "coder" "B") (.int 0)).before args s = true) (harr : (Cond.arrayOf (.field (.string cn k) "java/lang/String" "value" "[B") .byte).before args s = true) (hlen : (Cond.eq (.length (.field (.string cn k) "java/lang/String" "value" "[B")) (.int (Int32.ofNat (sLn i)))).before args s = true) (hel : ∀ j : Nat, j < sLn i → (Cond.eq (.elem (.field (.string cn k) "java/lang/String" "value" "[B") (.int (Int32.ofNat j))) (.int (iI (sCh i (j : Int))))).before args s = true) : ∃ x v : Nat, (Term.string cn k).eval args s none [] s = some (.ref x) ∧ stS A s i x v := by
  obtain ⟨x, hx⟩ := st_ref hex
  obtain ⟨v, hv, hT⟩ := va_Tof (A := A) (N := sLn i) (f := fun j => .int (iI (sCh i (j : Int)))) (Nat.lt_of_le_of_lt (sLn_le i) (by decide)) harr (va_eqt hlen) (fun j hj => va_eqt (hel j hj)) hA
  exact ⟨x, v, hx, va_Oof hex hx hA, vk_OFof hx (va_eqt hco) hA, vk_OFof hx hv hA, hT⟩
def stC (A : Nat → Prop) (s : State) (i x w d : Nat) : Prop := va_O "HarborLights$Command" x A s s.heap ∧ va_OF "java/lang/Enum" "ordinal" "I" (.int (iI (i : Int))) x A s s.heap ∧ va_OF "HarborLights$Command" "word" "Ljava/lang/String;" (.ref w) x A s s.heap ∧ va_OF "HarborLights$Command" "digits" "Ljava/lang/String;" (.ref d) x A s s.heap
theorem st_cmd {args : Array Value} {s : State} {A : Nat → Prop} (hA : ∀ x : Nat, x < s.heap.size → ¬ A x) {nm : String} {i kw kd x w d : Nat} (hex : (Cond.exactly (.static "HarborLights$Command" nm "LHarborLights$Command;") "HarborLights$Command").before args s = true) (hx : (Term.static "HarborLights$Command" nm "LHarborLights$Command;").eval args s none [] s = some (.ref x)) (ho : (Cond.eq (.field (.static "HarborLights$Command" nm "LHarborLights$Command;") "java/lang/Enum" "ordinal" "I") (.int (iI (i : Int)))).before args s = true)
    (hw : (Cond.eq (.field (.static "HarborLights$Command" nm "LHarborLights$Command;") "HarborLights$Command" "word" "Ljava/lang/String;") (.string "HarborLights$Command" kw)).before args s = true) (hwe : (Term.string "HarborLights$Command" kw).eval args s none [] s = some (.ref w)) (hd : (Cond.eq (.field (.static "HarborLights$Command" nm "LHarborLights$Command;") "HarborLights$Command" "digits" "Ljava/lang/String;") (.string "HarborLights$Command" kd)).before args s = true) (hde : (Term.string "HarborLights$Command" kd).eval args s none [] s = some (.ref d)) : stC A s i x w d :=
  ⟨va_Oof hex hx hA, vk_OFof hx (va_eqt ho) hA, vk_OFof hx (va_eqv hw hwe) hA, vk_OFof hx (va_eqv hd hde) hA⟩
/-- a list of address, by places -/
def stK (c a v : List Nat) : Nat → Nat := fun n => if n < 100 then c.getD n 0 else if n < 200 then a.getD (n - 100) 0 else v.getD (n - 200) 0
theorem st_s0 {args : Array Value} {s : State} {A : Nat → Prop} (hA : ∀ x : Nat, x < s.heap.size → ¬ A x) (n1 : narrow_1_1.before args s = true) (n2 : narrow_1_2.before args s = true) (n3 : narrow_1_3.before args s = true) : ∃ x v : Nat, (Term.string "HarborLights$Command" 55).eval args s none [] s = some (.ref x) ∧ stS A s 0 x v :=
  st_str "HarborLights$Command" 0 55 hA (st_3 n3 170 (by decide +kernel)) (st_3 n3 171 (by decide +kernel)) (st_3 n3 172 (by decide +kernel)) (st_3 n3 173 (by decide +kernel)) (fun j hj => st_3 n3 (174 + j) ((by decide +kernel : ∀ j, j < sLn 0 → (flatC narrow_1_3)[174 + j]? = some (Cond.eq (.elem (.field (.string "HarborLights$Command" 55) "java/lang/String" "value" "[B") (.int (Int32.ofNat j))) (.int (iI (sCh 0 (j : Int)))))) j hj))
theorem st_s1 {args : Array Value} {s : State} {A : Nat → Prop} (hA : ∀ x : Nat, x < s.heap.size → ¬ A x) (n1 : narrow_1_1.before args s = true) (n2 : narrow_1_2.before args s = true) (n3 : narrow_1_3.before args s = true) : ∃ x v : Nat, (Term.string "HarborLights$Command" 63).eval args s none [] s = some (.ref x) ∧ stS A s 1 x v :=
  st_str "HarborLights$Command" 1 63 hA (st_3 n3 183 (by decide +kernel)) (st_3 n3 184 (by decide +kernel)) (st_3 n3 185 (by decide +kernel)) (st_3 n3 186 (by decide +kernel)) (fun j hj => st_3 n3 (187 + j) ((by decide +kernel : ∀ j, j < sLn 1 → (flatC narrow_1_3)[187 + j]? = some (Cond.eq (.elem (.field (.string "HarborLights$Command" 63) "java/lang/String" "value" "[B") (.int (Int32.ofNat j))) (.int (iI (sCh 1 (j : Int)))))) j hj))
theorem st_s2 {args : Array Value} {s : State} {A : Nat → Prop} (hA : ∀ x : Nat, x < s.heap.size → ¬ A x) (n1 : narrow_1_1.before args s = true) (n2 : narrow_1_2.before args s = true) (n3 : narrow_1_3.before args s = true) : ∃ x v : Nat, (Term.string "HarborLights$Command" 68).eval args s none [] s = some (.ref x) ∧ stS A s 2 x v :=
  st_str "HarborLights$Command" 2 68 hA (st_3 n3 198 (by decide +kernel)) (st_3 n3 199 (by decide +kernel)) (st_3 n3 200 (by decide +kernel)) (st_3 n3 201 (by decide +kernel)) (fun j hj => st_3 n3 (202 + j) ((by decide +kernel : ∀ j, j < sLn 2 → (flatC narrow_1_3)[202 + j]? = some (Cond.eq (.elem (.field (.string "HarborLights$Command" 68) "java/lang/String" "value" "[B") (.int (Int32.ofNat j))) (.int (iI (sCh 2 (j : Int)))))) j hj))
theorem st_s3 {args : Array Value} {s : State} {A : Nat → Prop} (hA : ∀ x : Nat, x < s.heap.size → ¬ A x) (n1 : narrow_1_1.before args s = true) (n2 : narrow_1_2.before args s = true) (n3 : narrow_1_3.before args s = true) : ∃ x v : Nat, (Term.string "HarborLights$Command" 73).eval args s none [] s = some (.ref x) ∧ stS A s 3 x v :=
  st_str "HarborLights$Command" 3 73 hA (st_3 n3 211 (by decide +kernel)) (st_3 n3 212 (by decide +kernel)) (st_3 n3 213 (by decide +kernel)) (st_3 n3 214 (by decide +kernel)) (fun j hj => st_3 n3 (215 + j) ((by decide +kernel : ∀ j, j < sLn 3 → (flatC narrow_1_3)[215 + j]? = some (Cond.eq (.elem (.field (.string "HarborLights$Command" 73) "java/lang/String" "value" "[B") (.int (Int32.ofNat j))) (.int (iI (sCh 3 (j : Int)))))) j hj))
theorem st_s4 {args : Array Value} {s : State} {A : Nat → Prop} (hA : ∀ x : Nat, x < s.heap.size → ¬ A x) (n1 : narrow_1_1.before args s = true) (n2 : narrow_1_2.before args s = true) (n3 : narrow_1_3.before args s = true) : ∃ x v : Nat, (Term.string "HarborLights$Command" 78).eval args s none [] s = some (.ref x) ∧ stS A s 4 x v :=
  st_str "HarborLights$Command" 4 78 hA (st_3 n3 226 (by decide +kernel)) (st_3 n3 227 (by decide +kernel)) (st_3 n3 228 (by decide +kernel)) (st_3 n3 229 (by decide +kernel)) (fun j hj => st_3 n3 (230 + j) ((by decide +kernel : ∀ j, j < sLn 4 → (flatC narrow_1_3)[230 + j]? = some (Cond.eq (.elem (.field (.string "HarborLights$Command" 78) "java/lang/String" "value" "[B") (.int (Int32.ofNat j))) (.int (iI (sCh 4 (j : Int)))))) j hj))
theorem st_s5 {args : Array Value} {s : State} {A : Nat → Prop} (hA : ∀ x : Nat, x < s.heap.size → ¬ A x) (n1 : narrow_1_1.before args s = true) (n2 : narrow_1_2.before args s = true) (n3 : narrow_1_3.before args s = true) : ∃ x v : Nat, (Term.string "HarborLights$Command" 83).eval args s none [] s = some (.ref x) ∧ stS A s 5 x v :=
  st_str "HarborLights$Command" 5 83 hA (st_3 n3 239 (by decide +kernel)) (st_3 n3 240 (by decide +kernel)) (st_3 n3 241 (by decide +kernel)) (st_3 n3 242 (by decide +kernel)) (fun j hj => st_3 n3 (243 + j) ((by decide +kernel : ∀ j, j < sLn 5 → (flatC narrow_1_3)[243 + j]? = some (Cond.eq (.elem (.field (.string "HarborLights$Command" 83) "java/lang/String" "value" "[B") (.int (Int32.ofNat j))) (.int (iI (sCh 5 (j : Int)))))) j hj))
theorem st_s6 {args : Array Value} {s : State} {A : Nat → Prop} (hA : ∀ x : Nat, x < s.heap.size → ¬ A x) (n1 : narrow_1_1.before args s = true) (n2 : narrow_1_2.before args s = true) (n3 : narrow_1_3.before args s = true) : ∃ x v : Nat, (Term.string "HarborLights$Command" 88).eval args s none [] s = some (.ref x) ∧ stS A s 6 x v :=
  st_str "HarborLights$Command" 6 88 hA (st_3 n3 253 (by decide +kernel)) (st_3 n3 254 (by decide +kernel)) (st_3 n3 255 (by decide +kernel)) (st_3 n3 256 (by decide +kernel)) (fun j hj => st_3 n3 (257 + j) ((by decide +kernel : ∀ j, j < sLn 6 → (flatC narrow_1_3)[257 + j]? = some (Cond.eq (.elem (.field (.string "HarborLights$Command" 88) "java/lang/String" "value" "[B") (.int (Int32.ofNat j))) (.int (iI (sCh 6 (j : Int)))))) j hj))
theorem st_s7 {args : Array Value} {s : State} {A : Nat → Prop} (hA : ∀ x : Nat, x < s.heap.size → ¬ A x) (n1 : narrow_1_1.before args s = true) (n2 : narrow_1_2.before args s = true) (n3 : narrow_1_3.before args s = true) : ∃ x v : Nat, (Term.string "HarborLights$Command" 91).eval args s none [] s = some (.ref x) ∧ stS A s 7 x v :=
  st_str "HarborLights$Command" 7 91 hA (st_3 n3 260 (by decide +kernel)) (st_3 n3 261 (by decide +kernel)) (st_3 n3 262 (by decide +kernel)) (st_3 n3 263 (by decide +kernel)) (fun j hj => st_3 n3 (264 + j) ((by decide +kernel : ∀ j, j < sLn 7 → (flatC narrow_1_3)[264 + j]? = some (Cond.eq (.elem (.field (.string "HarborLights$Command" 91) "java/lang/String" "value" "[B") (.int (Int32.ofNat j))) (.int (iI (sCh 7 (j : Int)))))) j hj))
theorem st_s8 {args : Array Value} {s : State} {A : Nat → Prop} (hA : ∀ x : Nat, x < s.heap.size → ¬ A x) (n1 : narrow_1_1.before args s = true) (n2 : narrow_1_2.before args s = true) (n3 : narrow_1_3.before args s = true) : ∃ x v : Nat, (Term.string "HarborLights$Command" 57).eval args s none [] s = some (.ref x) ∧ stS A s 8 x v :=
  st_str "HarborLights$Command" 8 57 hA (st_3 n3 178 (by decide +kernel)) (st_3 n3 179 (by decide +kernel)) (st_3 n3 180 (by decide +kernel)) (st_3 n3 181 (by decide +kernel)) (fun j hj => absurd hj (Nat.not_lt_zero j))
theorem st_s9 {args : Array Value} {s : State} {A : Nat → Prop} (hA : ∀ x : Nat, x < s.heap.size → ¬ A x) (n1 : narrow_1_1.before args s = true) (n2 : narrow_1_2.before args s = true) (n3 : narrow_1_3.before args s = true) : ∃ x v : Nat, (Term.string "HarborLights$Command" 65).eval args s none [] s = some (.ref x) ∧ stS A s 9 x v :=
  st_str "HarborLights$Command" 9 65 hA (st_3 n3 190 (by decide +kernel)) (st_3 n3 191 (by decide +kernel)) (st_3 n3 192 (by decide +kernel)) (st_3 n3 193 (by decide +kernel)) (fun j hj => st_3 n3 (194 + j) ((by decide +kernel : ∀ j, j < sLn 9 → (flatC narrow_1_3)[194 + j]? = some (Cond.eq (.elem (.field (.string "HarborLights$Command" 65) "java/lang/String" "value" "[B") (.int (Int32.ofNat j))) (.int (iI (sCh 9 (j : Int)))))) j hj))
theorem st_s10 {args : Array Value} {s : State} {A : Nat → Prop} (hA : ∀ x : Nat, x < s.heap.size → ¬ A x) (n1 : narrow_1_1.before args s = true) (n2 : narrow_1_2.before args s = true) (n3 : narrow_1_3.before args s = true) : ∃ x v : Nat, (Term.string "HarborLights$Command" 70).eval args s none [] s = some (.ref x) ∧ stS A s 10 x v :=
  st_str "HarborLights$Command" 10 70 hA (st_3 n3 205 (by decide +kernel)) (st_3 n3 206 (by decide +kernel)) (st_3 n3 207 (by decide +kernel)) (st_3 n3 208 (by decide +kernel)) (fun j hj => st_3 n3 (209 + j) ((by decide +kernel : ∀ j, j < sLn 10 → (flatC narrow_1_3)[209 + j]? = some (Cond.eq (.elem (.field (.string "HarborLights$Command" 70) "java/lang/String" "value" "[B") (.int (Int32.ofNat j))) (.int (iI (sCh 10 (j : Int)))))) j hj))
theorem st_s11 {args : Array Value} {s : State} {A : Nat → Prop} (hA : ∀ x : Nat, x < s.heap.size → ¬ A x) (n1 : narrow_1_1.before args s = true) (n2 : narrow_1_2.before args s = true) (n3 : narrow_1_3.before args s = true) : ∃ x v : Nat, (Term.string "HarborLights$Command" 75).eval args s none [] s = some (.ref x) ∧ stS A s 11 x v :=
  st_str "HarborLights$Command" 11 75 hA (st_3 n3 219 (by decide +kernel)) (st_3 n3 220 (by decide +kernel)) (st_3 n3 221 (by decide +kernel)) (st_3 n3 222 (by decide +kernel)) (fun j hj => st_3 n3 (223 + j) ((by decide +kernel : ∀ j, j < sLn 11 → (flatC narrow_1_3)[223 + j]? = some (Cond.eq (.elem (.field (.string "HarborLights$Command" 75) "java/lang/String" "value" "[B") (.int (Int32.ofNat j))) (.int (iI (sCh 11 (j : Int)))))) j hj))
theorem st_s12 {args : Array Value} {s : State} {A : Nat → Prop} (hA : ∀ x : Nat, x < s.heap.size → ¬ A x) (n1 : narrow_1_1.before args s = true) (n2 : narrow_1_2.before args s = true) (n3 : narrow_1_3.before args s = true) : ∃ x v : Nat, (Term.string "HarborLights$Command" 80).eval args s none [] s = some (.ref x) ∧ stS A s 12 x v :=
  st_str "HarborLights$Command" 12 80 hA (st_3 n3 233 (by decide +kernel)) (st_3 n3 234 (by decide +kernel)) (st_3 n3 235 (by decide +kernel)) (st_3 n3 236 (by decide +kernel)) (fun j hj => st_3 n3 (237 + j) ((by decide +kernel : ∀ j, j < sLn 12 → (flatC narrow_1_3)[237 + j]? = some (Cond.eq (.elem (.field (.string "HarborLights$Command" 80) "java/lang/String" "value" "[B") (.int (Int32.ofNat j))) (.int (iI (sCh 12 (j : Int)))))) j hj))
theorem st_s13 {args : Array Value} {s : State} {A : Nat → Prop} (hA : ∀ x : Nat, x < s.heap.size → ¬ A x) (n1 : narrow_1_1.before args s = true) (n2 : narrow_1_2.before args s = true) (n3 : narrow_1_3.before args s = true) : ∃ x v : Nat, (Term.string "HarborLights$Command" 85).eval args s none [] s = some (.ref x) ∧ stS A s 13 x v :=
  st_str "HarborLights$Command" 13 85 hA (st_3 n3 248 (by decide +kernel)) (st_3 n3 249 (by decide +kernel)) (st_3 n3 250 (by decide +kernel)) (st_3 n3 251 (by decide +kernel)) (fun j hj => st_3 n3 (252 + j) ((by decide +kernel : ∀ j, j < sLn 13 → (flatC narrow_1_3)[252 + j]? = some (Cond.eq (.elem (.field (.string "HarborLights$Command" 85) "java/lang/String" "value" "[B") (.int (Int32.ofNat j))) (.int (iI (sCh 13 (j : Int)))))) j hj))
theorem st_s14 {args : Array Value} {s : State} {A : Nat → Prop} (hA : ∀ x : Nat, x < s.heap.size → ¬ A x) (n1 : narrow_1_1.before args s = true) (n2 : narrow_1_2.before args s = true) (n3 : narrow_1_3.before args s = true) : ∃ x v : Nat, (Term.string "HarborLightsLaw" 317).eval args s none [] s = some (.ref x) ∧ stS A s 14 x v :=
  st_str "HarborLightsLaw" 14 317 hA (st_2 n2 279 (by decide +kernel)) (st_2 n2 280 (by decide +kernel)) (st_2 n2 281 (by decide +kernel)) (st_2 n2 282 (by decide +kernel)) (fun j hj => st_2 n2 (283 + j) ((by decide +kernel : ∀ j, j < sLn 14 → (flatC narrow_1_2)[283 + j]? = some (Cond.eq (.elem (.field (.string "HarborLightsLaw" 317) "java/lang/String" "value" "[B") (.int (Int32.ofNat j))) (.int (iI (sCh 14 (j : Int)))))) j hj))
theorem st_s15 {args : Array Value} {s : State} {A : Nat → Prop} (hA : ∀ x : Nat, x < s.heap.size → ¬ A x) (n1 : narrow_1_1.before args s = true) (n2 : narrow_1_2.before args s = true) (n3 : narrow_1_3.before args s = true) : ∃ x v : Nat, (Term.string "HarborLightsLaw" 322).eval args s none [] s = some (.ref x) ∧ stS A s 15 x v :=
  st_str "HarborLightsLaw" 15 322 hA (st_2 n2 284 (by decide +kernel)) (st_2 n2 285 (by decide +kernel)) (st_2 n2 286 (by decide +kernel)) (st_2 n2 287 (by decide +kernel)) (fun j hj => st_2 n2 (288 + j) ((by decide +kernel : ∀ j, j < sLn 15 → (flatC narrow_1_2)[288 + j]? = some (Cond.eq (.elem (.field (.string "HarborLightsLaw" 322) "java/lang/String" "value" "[B") (.int (Int32.ofNat j))) (.int (iI (sCh 15 (j : Int)))))) j hj))
theorem st_s16 {args : Array Value} {s : State} {A : Nat → Prop} (hA : ∀ x : Nat, x < s.heap.size → ¬ A x) (n1 : narrow_1_1.before args s = true) (n2 : narrow_1_2.before args s = true) (n3 : narrow_1_3.before args s = true) : ∃ x v : Nat, (Term.string "HarborLightsLaw" 324).eval args s none [] s = some (.ref x) ∧ stS A s 16 x v :=
  st_str "HarborLightsLaw" 16 324 hA (st_2 n2 289 (by decide +kernel)) (st_2 n2 290 (by decide +kernel)) (st_2 n2 291 (by decide +kernel)) (st_2 n2 292 (by decide +kernel)) (fun j hj => st_2 n2 (293 + j) ((by decide +kernel : ∀ j, j < sLn 16 → (flatC narrow_1_2)[293 + j]? = some (Cond.eq (.elem (.field (.string "HarborLightsLaw" 324) "java/lang/String" "value" "[B") (.int (Int32.ofNat j))) (.int (iI (sCh 16 (j : Int)))))) j hj))
theorem st_s17 {args : Array Value} {s : State} {A : Nat → Prop} (hA : ∀ x : Nat, x < s.heap.size → ¬ A x) (n1 : narrow_1_1.before args s = true) (n2 : narrow_1_2.before args s = true) (n3 : narrow_1_3.before args s = true) : ∃ x v : Nat, (Term.string "HarborLightsLaw" 326).eval args s none [] s = some (.ref x) ∧ stS A s 17 x v :=
  st_str "HarborLightsLaw" 17 326 hA (st_2 n2 294 (by decide +kernel)) (st_2 n2 295 (by decide +kernel)) (st_2 n2 296 (by decide +kernel)) (st_2 n2 297 (by decide +kernel)) (fun j hj => st_2 n2 (298 + j) ((by decide +kernel : ∀ j, j < sLn 17 → (flatC narrow_1_2)[298 + j]? = some (Cond.eq (.elem (.field (.string "HarborLightsLaw" 326) "java/lang/String" "value" "[B") (.int (Int32.ofNat j))) (.int (iI (sCh 17 (j : Int)))))) j hj))
theorem st_s18 {args : Array Value} {s : State} {A : Nat → Prop} (hA : ∀ x : Nat, x < s.heap.size → ¬ A x) (n1 : narrow_1_1.before args s = true) (n2 : narrow_1_2.before args s = true) (n3 : narrow_1_3.before args s = true) : ∃ x v : Nat, (Term.string "HarborLightsLaw" 338).eval args s none [] s = some (.ref x) ∧ stS A s 18 x v :=
  st_str "HarborLightsLaw" 18 338 hA (st_3 n3 23 (by decide +kernel)) (st_3 n3 24 (by decide +kernel)) (st_3 n3 25 (by decide +kernel)) (st_3 n3 26 (by decide +kernel)) (fun j hj => st_3 n3 (27 + j) ((by decide +kernel : ∀ j, j < sLn 18 → (flatC narrow_1_3)[27 + j]? = some (Cond.eq (.elem (.field (.string "HarborLightsLaw" 338) "java/lang/String" "value" "[B") (.int (Int32.ofNat j))) (.int (iI (sCh 18 (j : Int)))))) j hj))
theorem st_s19 {args : Array Value} {s : State} {A : Nat → Prop} (hA : ∀ x : Nat, x < s.heap.size → ¬ A x) (n1 : narrow_1_1.before args s = true) (n2 : narrow_1_2.before args s = true) (n3 : narrow_1_3.before args s = true) : ∃ x v : Nat, (Term.string "HarborLightsLaw" 340).eval args s none [] s = some (.ref x) ∧ stS A s 19 x v :=
  st_str "HarborLightsLaw" 19 340 hA (st_3 n3 28 (by decide +kernel)) (st_3 n3 29 (by decide +kernel)) (st_3 n3 30 (by decide +kernel)) (st_3 n3 31 (by decide +kernel)) (fun j hj => st_3 n3 (32 + j) ((by decide +kernel : ∀ j, j < sLn 19 → (flatC narrow_1_3)[32 + j]? = some (Cond.eq (.elem (.field (.string "HarborLightsLaw" 340) "java/lang/String" "value" "[B") (.int (Int32.ofNat j))) (.int (iI (sCh 19 (j : Int)))))) j hj))
theorem st_s20 {args : Array Value} {s : State} {A : Nat → Prop} (hA : ∀ x : Nat, x < s.heap.size → ¬ A x) (n1 : narrow_1_1.before args s = true) (n2 : narrow_1_2.before args s = true) (n3 : narrow_1_3.before args s = true) : ∃ x v : Nat, (Term.string "HarborLightsLaw" 376).eval args s none [] s = some (.ref x) ∧ stS A s 20 x v :=
  st_str "HarborLightsLaw" 20 376 hA (st_3 n3 37 (by decide +kernel)) (st_3 n3 38 (by decide +kernel)) (st_3 n3 39 (by decide +kernel)) (st_3 n3 40 (by decide +kernel)) (fun j hj => st_3 n3 (41 + j) ((by decide +kernel : ∀ j, j < sLn 20 → (flatC narrow_1_3)[41 + j]? = some (Cond.eq (.elem (.field (.string "HarborLightsLaw" 376) "java/lang/String" "value" "[B") (.int (Int32.ofNat j))) (.int (iI (sCh 20 (j : Int)))))) j hj))
theorem st_s21 {args : Array Value} {s : State} {A : Nat → Prop} (hA : ∀ x : Nat, x < s.heap.size → ¬ A x) (n1 : narrow_1_1.before args s = true) (n2 : narrow_1_2.before args s = true) (n3 : narrow_1_3.before args s = true) : ∃ x v : Nat, (Term.string "HarborLightsLaw" 378).eval args s none [] s = some (.ref x) ∧ stS A s 21 x v :=
  st_str "HarborLightsLaw" 21 378 hA (st_3 n3 45 (by decide +kernel)) (st_3 n3 46 (by decide +kernel)) (st_3 n3 47 (by decide +kernel)) (st_3 n3 48 (by decide +kernel)) (fun j hj => st_3 n3 (49 + j) ((by decide +kernel : ∀ j, j < sLn 21 → (flatC narrow_1_3)[49 + j]? = some (Cond.eq (.elem (.field (.string "HarborLightsLaw" 378) "java/lang/String" "value" "[B") (.int (Int32.ofNat j))) (.int (iI (sCh 21 (j : Int)))))) j hj))
theorem st_s22 {args : Array Value} {s : State} {A : Nat → Prop} (hA : ∀ x : Nat, x < s.heap.size → ¬ A x) (n1 : narrow_1_1.before args s = true) (n2 : narrow_1_2.before args s = true) (n3 : narrow_1_3.before args s = true) : ∃ x v : Nat, (Term.string "HarborLightsLaw" 380).eval args s none [] s = some (.ref x) ∧ stS A s 22 x v :=
  st_str "HarborLightsLaw" 22 380 hA (st_3 n3 60 (by decide +kernel)) (st_3 n3 61 (by decide +kernel)) (st_3 n3 62 (by decide +kernel)) (st_3 n3 63 (by decide +kernel)) (fun j hj => st_3 n3 (64 + j) ((by decide +kernel : ∀ j, j < sLn 22 → (flatC narrow_1_3)[64 + j]? = some (Cond.eq (.elem (.field (.string "HarborLightsLaw" 380) "java/lang/String" "value" "[B") (.int (Int32.ofNat j))) (.int (iI (sCh 22 (j : Int)))))) j hj))
theorem st_s23 {args : Array Value} {s : State} {A : Nat → Prop} (hA : ∀ x : Nat, x < s.heap.size → ¬ A x) (n1 : narrow_1_1.before args s = true) (n2 : narrow_1_2.before args s = true) (n3 : narrow_1_3.before args s = true) : ∃ x v : Nat, (Term.string "HarborLightsLaw" 342).eval args s none [] s = some (.ref x) ∧ stS A s 23 x v :=
  st_str "HarborLightsLaw" 23 342 hA (st_3 n3 33 (by decide +kernel)) (st_3 n3 34 (by decide +kernel)) (st_3 n3 35 (by decide +kernel)) (st_3 n3 36 (by decide +kernel)) (fun j hj => absurd hj (Nat.not_lt_zero j))
set_option maxRecDepth 20000 in
theorem st_cn {args : Array Value} {s : State} {A : Nat → Prop} (hA : ∀ x : Nat, x < s.heap.size → ¬ A x) (hts : ∀ w ∈ lw_tb2, w.before args s = true) (n1 : narrow_1_1.before args s = true) (n2 : narrow_1_2.before args s = true) (n3 : narrow_1_3.before args s = true) {b L : Nat} {xs : Nat → Int32} (hL : L ≤ 260) (hX : va_X b L xs s s.heap) (hbl : b < s.heap.size) : ∃ K : Nat → Nat, K 12 = b ∧ zCn K A s := by
  obtain ⟨a0, v0, e0, z0⟩ := st_s0 (A := A) hA n1 n2 n3
  obtain ⟨a1, v1, e1, z1⟩ := st_s1 (A := A) hA n1 n2 n3
  obtain ⟨a2, v2, e2, z2⟩ := st_s2 (A := A) hA n1 n2 n3
  obtain ⟨a3, v3, e3, z3⟩ := st_s3 (A := A) hA n1 n2 n3
  obtain ⟨a4, v4, e4, z4⟩ := st_s4 (A := A) hA n1 n2 n3
  obtain ⟨a5, v5, e5, z5⟩ := st_s5 (A := A) hA n1 n2 n3
  obtain ⟨a6, v6, e6, z6⟩ := st_s6 (A := A) hA n1 n2 n3
  obtain ⟨a7, v7, e7, z7⟩ := st_s7 (A := A) hA n1 n2 n3
  obtain ⟨a8, v8, e8, z8⟩ := st_s8 (A := A) hA n1 n2 n3
  obtain ⟨a9, v9, e9, z9⟩ := st_s9 (A := A) hA n1 n2 n3
  obtain ⟨a10, v10, e10, z10⟩ := st_s10 (A := A) hA n1 n2 n3
  obtain ⟨a11, v11, e11, z11⟩ := st_s11 (A := A) hA n1 n2 n3
  obtain ⟨a12, v12, e12, z12⟩ := st_s12 (A := A) hA n1 n2 n3
  obtain ⟨a13, v13, e13, z13⟩ := st_s13 (A := A) hA n1 n2 n3
  obtain ⟨a14, v14, e14, z14⟩ := st_s14 (A := A) hA n1 n2 n3
  obtain ⟨a15, v15, e15, z15⟩ := st_s15 (A := A) hA n1 n2 n3
  obtain ⟨a16, v16, e16, z16⟩ := st_s16 (A := A) hA n1 n2 n3
  obtain ⟨a17, v17, e17, z17⟩ := st_s17 (A := A) hA n1 n2 n3
  obtain ⟨a18, v18, e18, z18⟩ := st_s18 (A := A) hA n1 n2 n3
  obtain ⟨a19, v19, e19, z19⟩ := st_s19 (A := A) hA n1 n2 n3
  obtain ⟨a20, v20, e20, z20⟩ := st_s20 (A := A) hA n1 n2 n3
  obtain ⟨a21, v21, e21, z21⟩ := st_s21 (A := A) hA n1 n2 n3
  obtain ⟨a22, v22, e22, z22⟩ := st_s22 (A := A) hA n1 n2 n3
  obtain ⟨a23, v23, e23, z23⟩ := st_s23 (A := A) hA n1 n2 n3
  obtain ⟨c0, x0⟩ := st_ref (st_1 n1 2 (w := .exactly (.static "HarborLights$Command" "PORT" "LHarborLights$Command;") "HarborLights$Command") (by decide +kernel))
  obtain ⟨c1, x1⟩ := st_ref (st_1 n1 243 (w := .exactly (.static "HarborLights$Command" "LEG" "LHarborLights$Command;") "HarborLights$Command") (by decide +kernel))
  obtain ⟨c2, x2⟩ := st_ref (st_1 n1 248 (w := .exactly (.static "HarborLights$Command" "CUT" "LHarborLights$Command;") "HarborLights$Command") (by decide +kernel))
  obtain ⟨c3, x3⟩ := st_ref (st_1 n1 254 (w := .exactly (.static "HarborLights$Command" "SHIP" "LHarborLights$Command;") "HarborLights$Command") (by decide +kernel))
  obtain ⟨c4, x4⟩ := st_ref (st_1 n1 261 (w := .exactly (.static "HarborLights$Command" "PAY" "LHarborLights$Command;") "HarborLights$Command") (by decide +kernel))
  obtain ⟨c5, x5⟩ := st_ref (st_1 n1 269 (w := .exactly (.static "HarborLights$Command" "LEAVE" "LHarborLights$Command;") "HarborLights$Command") (by decide +kernel))
  obtain ⟨c6, x6⟩ := st_ref (st_1 n1 278 (w := .exactly (.static "HarborLights$Command" "FOG" "LHarborLights$Command;") "HarborLights$Command") (by decide +kernel))
  obtain ⟨c7, x7⟩ := st_ref (st_1 n1 288 (w := .exactly (.static "HarborLights$Command" "NIGHT" "LHarborLights$Command;") "HarborLights$Command") (by decide +kernel))
  have w0 := e0
  have w1 := e1
  have w2 := e2
  have w3 := e3
  have w4 := e4
  have w5 := e5
  have w6 := e6
  have w7 := e7
  have w8 := e8
  have w9 := e9
  have w10 := e10
  have w11 := e11
  have w12 := e12
  have w13 := e13
  have g0 : stC A s 0 c0 a0 a8 := st_cmd hA (kw := 55) (kd := 57) (st_1 n1 2 (by decide +kernel)) x0 (st_1 n1 3 (by decide +kernel)) (st_1 n1 4 (by decide +kernel)) w0 (st_1 n1 5 (by decide +kernel)) w8
  have g1 : stC A s 1 c1 a1 a9 := st_cmd hA (kw := 63) (kd := 65) (st_1 n1 243 (by decide +kernel)) x1 (st_1 n1 244 (by decide +kernel)) (st_1 n1 245 (by decide +kernel)) w1 (st_1 n1 246 (by decide +kernel)) w9
  have g2 : stC A s 2 c2 a2 a10 := st_cmd hA (kw := 68) (kd := 70) (st_1 n1 248 (by decide +kernel)) x2 (st_1 n1 249 (by decide +kernel)) (st_1 n1 250 (by decide +kernel)) w2 (st_1 n1 251 (by decide +kernel)) w10
  have g3 : stC A s 3 c3 a3 a11 := st_cmd hA (kw := 73) (kd := 75) (st_1 n1 254 (by decide +kernel)) x3 (st_1 n1 255 (by decide +kernel)) (st_1 n1 256 (by decide +kernel)) w3 (st_1 n1 257 (by decide +kernel)) w11
  have g4 : stC A s 4 c4 a4 a12 := st_cmd hA (kw := 78) (kd := 80) (st_1 n1 261 (by decide +kernel)) x4 (st_1 n1 262 (by decide +kernel)) (st_1 n1 263 (by decide +kernel)) w4 (st_1 n1 264 (by decide +kernel)) w12
  have g5 : stC A s 5 c5 a5 a13 := st_cmd hA (kw := 83) (kd := 85) (st_1 n1 269 (by decide +kernel)) x5 (st_1 n1 270 (by decide +kernel)) (st_1 n1 271 (by decide +kernel)) w5 (st_1 n1 272 (by decide +kernel)) w13
  have g6 : stC A s 6 c6 a6 a13 := st_cmd hA (kw := 88) (kd := 85) (st_1 n1 278 (by decide +kernel)) x6 (st_1 n1 279 (by decide +kernel)) (st_1 n1 280 (by decide +kernel)) w6 (st_1 n1 281 (by decide +kernel)) w13
  have g7 : stC A s 7 c7 a7 a8 := st_cmd hA (kw := 91) (kd := 57) (st_1 n1 288 (by decide +kernel)) x7 (st_1 n1 289 (by decide +kernel)) (st_1 n1 290 (by decide +kernel)) w7 (st_1 n1 291 (by decide +kernel)) w8
  obtain ⟨d1, yd1, td1⟩ := va_Tof (A := A) (s := s) (tm := .static "java/lang/Integer" "DigitOnes" "[B") (ty := .byte) (N := 100) (f := fun j => .int (iI (48 + (j : Int) % 10))) (by decide) (st_1 n1 10 (by decide +kernel)) (va_eqt (st_1 n1 11 (by decide +kernel))) (fun j hj => va_eqt (st_1 n1 (12 + j) ((by decide +kernel : ∀ j, j < 100 → (flatC narrow_1_1)[12 + j]? = some (Cond.eq (.elem (.static "java/lang/Integer" "DigitOnes" "[B") (.int (Int32.ofNat j))) (.int (iI (48 + (j : Int) % 10))))) j hj))) hA
  have sd1 : va_Z "java/lang/Integer" "DigitOnes" "[B" (.ref d1) A s s.heap := va_Zof (hts _ (by decide +kernel)) (hts _ (by decide +kernel)) yd1 hA
  obtain ⟨d0, yd0, td0⟩ := va_Tof (A := A) (s := s) (tm := .static "java/lang/Integer" "DigitTens" "[B") (ty := .byte) (N := 100) (f := fun j => .int (iI (48 + (j : Int) / 10))) (by decide) (st_1 n1 113 (by decide +kernel)) (va_eqt (st_1 n1 114 (by decide +kernel))) (fun j hj => va_eqt (st_1 n1 (115 + j) ((by decide +kernel : ∀ j, j < 100 → (flatC narrow_1_1)[115 + j]? = some (Cond.eq (.elem (.static "java/lang/Integer" "DigitTens" "[B") (.int (Int32.ofNat j))) (.int (iI (48 + (j : Int) / 10))))) j hj))) hA
  have sd0 : va_Z "java/lang/Integer" "DigitTens" "[B" (.ref d0) A s s.heap := va_Zof (hts _ (by decide +kernel)) (hts _ (by decide +kernel)) yd0 hA
  obtain ⟨sm, ysm, tsm⟩ := va_Tof (A := A) (s := s) (tm := .static "HarborLights$1" "$SwitchMap$HarborLights$Command" "[I") (ty := .int) (N := 8) (f := fun j => .int (iI (swV j))) (by decide) (st_1 n1 233 (by decide +kernel)) (va_eqt (st_1 n1 234 (by decide +kernel))) (fun j hj => va_eqt (st_1 n1 (235 + j) ((by decide +kernel : ∀ j, j < 8 → (flatC narrow_1_1)[235 + j]? = some (Cond.eq (.elem (.static "HarborLights$1" "$SwitchMap$HarborLights$Command" "[I") (.int (Int32.ofNat j))) (.int (iI (swV j))))) j hj))) hA
  have ssm : va_Z "HarborLights$1" "$SwitchMap$HarborLights$Command" "[I" (.ref sm) A s s.heap := va_Zof (hts _ (by decide +kernel)) (hts _ (by decide +kernel)) ysm hA
  have hcm : ∀ j : Nat, j < 8 → (Term.elem (.static "HarborLights$Script" "COMMANDS" "[LHarborLights$Command;") (.int (Int32.ofNat j))).eval args s none [] s = some (.ref ([c0, c1, c2, c3, c4, c5, c6, c7].getD j 0)) := by
    intro j hj
    match j, hj with
    | 0, hj => exact va_eqv (u := .static "HarborLights$Command" "PORT" "LHarborLights$Command;") (st_1 n1 224 (by decide +kernel)) x0
    | 1, hj => exact va_eqv (u := .static "HarborLights$Command" "LEG" "LHarborLights$Command;") (st_1 n1 225 (by decide +kernel)) x1
    | 2, hj => exact va_eqv (u := .static "HarborLights$Command" "CUT" "LHarborLights$Command;") (st_1 n1 226 (by decide +kernel)) x2
    | 3, hj => exact va_eqv (u := .static "HarborLights$Command" "SHIP" "LHarborLights$Command;") (st_1 n1 227 (by decide +kernel)) x3
    | 4, hj => exact va_eqv (u := .static "HarborLights$Command" "PAY" "LHarborLights$Command;") (st_1 n1 228 (by decide +kernel)) x4
    | 5, hj => exact va_eqv (u := .static "HarborLights$Command" "LEAVE" "LHarborLights$Command;") (st_1 n1 229 (by decide +kernel)) x5
    | 6, hj => exact va_eqv (u := .static "HarborLights$Command" "FOG" "LHarborLights$Command;") (st_1 n1 230 (by decide +kernel)) x6
    | 7, hj => exact va_eqv (u := .static "HarborLights$Command" "NIGHT" "LHarborLights$Command;") (st_1 n1 231 (by decide +kernel)) x7
    | j + 8, hj => exact absurd hj (by omega)
  obtain ⟨cm, ycm, tcm⟩ := va_Tof (A := A) (s := s) (tm := .static "HarborLights$Script" "COMMANDS" "[LHarborLights$Command;") (ty := (.object "HarborLights$Command")) (N := 8) (f := fun j => .ref ([c0, c1, c2, c3, c4, c5, c6, c7].getD j 0)) (by decide) (st_1 n1 221 (by decide +kernel)) (va_eqt (st_1 n1 222 (by decide +kernel))) hcm hA
  have scm : va_Z "HarborLights$Script" "COMMANDS" "[LHarborLights$Command;" (.ref cm) A s s.heap := va_Zof (hts _ (by decide +kernel)) (hts _ (by decide +kernel)) ycm hA
  have scs : va_Z "java/lang/String" "COMPACT_STRINGS" "Z" (.int (iI 1)) A s s.heap := va_Zof (hts _ (by decide +kernel)) (hts _ (by decide +kernel)) (va_eqt (st_1 n1 6 (by decide +kernel))) hA
  have ssf : va_Zq "jdk/internal/util/Preconditions" "SIOOBE_FORMATTER" "Ljava/util/function/BiFunction;" A s s.heap := va_Zqof (hts _ (by decide +kernel)) (hts _ (by decide +kernel)) (st_1 n1 215 (by decide +kernel)) hA
  have spo : va_Z "HarborLights$Command" "PORT" "LHarborLights$Command;" (.ref c0) A s s.heap := va_Zof (hts _ (by decide +kernel)) (hts _ (by decide +kernel)) x0 hA
  refine ⟨stK [c0, c1, c2, c3, c4, c5, c6, c7, cm, sm, d1, d0, b, L] [a0, a1, a2, a3, a4, a5, a6, a7, a8, a9, a10, a11, a12, a13, a14, a15, a16, a17, a18, a19, a20, a21, a22, a23] [v0, v1, v2, v3, v4, v5, v6, v7, v8, v9, v10, v11, v12, v13, v14, v15, v16, v17, v18, v19, v20, v21, v22, v23], rfl, ⟨⟨scs, ssf, ⟨sd1, td1⟩, ⟨sd0, td0⟩, ⟨ssm, tsm⟩, ⟨scm, ?_⟩⟩, ?_, ?_⟩, ?_, ⟨hL, xs, ?_⟩, ⟨spo, ?_, ?_⟩⟩
  · show va_T (.object "HarborLights$Command") cm 8 (fun j => .ref (stK [c0, c1, c2, c3, c4, c5, c6, c7, cm, sm, d1, d0, b, L] [a0, a1, a2, a3, a4, a5, a6, a7, a8, a9, a10, a11, a12, a13, a14, a15, a16, a17, a18, a19, a20, a21, a22, a23] [v0, v1, v2, v3, v4, v5, v6, v7, v8, v9, v10, v11, v12, v13, v14, v15, v16, v17, v18, v19, v20, v21, v22, v23] j)) A s s.heap
    obtain ⟨ce, h1, h2, h3, h4, h5, h6, h7⟩ := tcm
    refine ⟨ce, h1, h2, h3, h4, h5, fun j hj => ?_, h7⟩
    rw [h6 j hj]
    match j, hj with
    | 0, hj => rfl
    | 1, hj => rfl
    | 2, hj => rfl
    | 3, hj => rfl
    | 4, hj => rfl
    | 5, hj => rfl
    | 6, hj => rfl
    | 7, hj => rfl
    | j + 8, hj => exact absurd hj (by omega)
  · intro i hi
    match i, hi with
    | 0, _ => exact g0
    | 1, _ => exact g1
    | 2, _ => exact g2
    | 3, _ => exact g3
    | 4, _ => exact g4
    | 5, _ => exact g5
    | 6, _ => exact g6
    | 7, _ => exact g7
    | i + 8, hi => exact absurd hi (by omega)
  · intro i hi
    match i, hi with
    | 0, _ => exact z0
    | 1, _ => exact z1
    | 2, _ => exact z2
    | 3, _ => exact z3
    | 4, _ => exact z4
    | 5, _ => exact z5
    | 6, _ => exact z6
    | 7, _ => exact z7
    | 8, _ => exact z8
    | 9, _ => exact z9
    | 10, _ => exact z10
    | 11, _ => exact z11
    | 12, _ => exact z12
    | 13, _ => exact z13
    | 14, _ => exact z14
    | 15, _ => exact z15
    | 16, _ => exact z16
    | 17, _ => exact z17
    | 18, _ => exact z18
    | 19, _ => exact z19
    | 20, _ => exact z20
    | 21, _ => exact z21
    | 22, _ => exact z22
    | 23, _ => exact z23
    | i + 24, hi => exact absurd hi (by omega)
  · exact List.forall_mem_cons.mpr ⟨vk_R.of (hts _ (by decide +kernel)) e14, List.forall_mem_cons.mpr ⟨vk_R.of (hts _ (by decide +kernel)) e15, List.forall_mem_cons.mpr ⟨vk_R.of (hts _ (by decide +kernel)) e16, List.forall_mem_cons.mpr ⟨vk_R.of (hts _ (by decide +kernel)) e17, List.forall_mem_cons.mpr ⟨vk_R.of (hts _ (by decide +kernel)) e18, List.forall_mem_cons.mpr ⟨vk_R.of (hts _ (by decide +kernel)) e19, List.forall_mem_cons.mpr ⟨vk_R.of (hts _ (by decide +kernel)) e23, List.forall_mem_cons.mpr ⟨vk_R.of (hts _ (by decide +kernel)) e20, List.forall_mem_cons.mpr ⟨vk_R.of (hts _ (by decide +kernel)) e21, List.forall_mem_cons.mpr ⟨vk_R.of (hts _ (by decide +kernel)) e22, fun _ h => absurd h List.not_mem_nil⟩⟩⟩⟩⟩⟩⟩⟩⟩⟩
  · obtain ⟨scr, h1, h2, h3, h4, h5⟩ := hX
    exact ⟨scr, h1, h2, h3, Nat.le_of_eq h4.symm, by rw [h4]; rfl, h5, hA b hbl⟩
  · exact va_AO.of (hts _ (by decide +kernel))
  · intro q hq
    exact va_Nw.of rfl (hts _ ((by decide +kernel : ∀ q ∈ nestL, Cond.methodLinkNest q.1 q.2.1 q.2.2 "HarborLights" ∈ lw_tb2) q hq))
theorem st_th {args : Array Value} {s : State} (hts : ∀ w ∈ lw_tb2, w.before args s = true) (n1 : narrow_1_1.before args s = true) (n2 : narrow_1_2.before args s = true) (n3 : narrow_1_3.before args s = true) : zTh s := by
  refine ⟨?_, ?_, ?_, ?_⟩
  · exact List.forall_mem_cons.mpr ⟨(st_ref (tm := .string "HarborLights" 258) (nm := "java/lang/String") (st_2 n2 262 (by decide +kernel))).imp (fun _ h => vk_R.of (hts _ (by decide +kernel)) h), List.forall_mem_cons.mpr ⟨(st_ref (tm := .string "HarborLights" 275) (nm := "java/lang/String") (st_2 n2 231 (by decide +kernel))).imp (fun _ h => vk_R.of (hts _ (by decide +kernel)) h), List.forall_mem_cons.mpr ⟨(st_ref (tm := .string "HarborLights" 288) (nm := "java/lang/String") (st_2 n2 249 (by decide +kernel))).imp (fun _ h => vk_R.of (hts _ (by decide +kernel)) h), List.forall_mem_cons.mpr ⟨(st_ref (tm := .string "HarborLights" 304) (nm := "java/lang/String") (st_3 n3 2 (by decide +kernel))).imp (fun _ h => vk_R.of (hts _ (by decide +kernel)) h), List.forall_mem_cons.mpr ⟨(st_ref (tm := .string "HarborLights" 326) (nm := "java/lang/String") (st_3 n3 73 (by decide +kernel))).imp (fun _ h => vk_R.of (hts _ (by decide +kernel)) h), List.forall_mem_cons.mpr ⟨(st_ref (tm := .string "HarborLights" 341) (nm := "java/lang/String") (st_3 n3 100 (by decide +kernel))).imp (fun _ h => vk_R.of (hts _ (by decide +kernel)) h), List.forall_mem_cons.mpr ⟨(st_ref (tm := .string "HarborLights" 363) (nm := "java/lang/String") (st_3 n3 125 (by decide +kernel))).imp (fun _ h => vk_R.of (hts _ (by decide +kernel)) h), List.forall_mem_cons.mpr ⟨(st_ref (tm := .string "HarborLights" 366) (nm := "java/lang/String") (st_3 n3 145 (by decide +kernel))).imp (fun _ h => vk_R.of (hts _ (by decide +kernel)) h), List.forall_mem_cons.mpr ⟨(st_ref (tm := .string "HarborLights" 378) (nm := "java/lang/String") (st_1 n1 392 (by decide +kernel))).imp (fun _ h => vk_R.of (hts _ (by decide +kernel)) h), List.forall_mem_cons.mpr ⟨(st_ref (tm := .string "HarborLights" 380) (nm := "java/lang/String") (st_2 n2 22 (by decide +kernel))).imp (fun _ h => vk_R.of (hts _ (by decide +kernel)) h), List.forall_mem_cons.mpr ⟨(st_ref (tm := .string "HarborLights" 382) (nm := "java/lang/String") (st_2 n2 52 (by decide +kernel))).imp (fun _ h => vk_R.of (hts _ (by decide +kernel)) h), List.forall_mem_cons.mpr ⟨(st_ref (tm := .string "HarborLights" 386) (nm := "java/lang/String") (st_2 n2 72 (by decide +kernel))).imp (fun _ h => vk_R.of (hts _ (by decide +kernel)) h), List.forall_mem_cons.mpr ⟨(st_ref (tm := .string "HarborLights" 391) (nm := "java/lang/String") (st_2 n2 100 (by decide +kernel))).imp (fun _ h => vk_R.of (hts _ (by decide +kernel)) h), List.forall_mem_cons.mpr ⟨(st_ref (tm := .string "HarborLights" 394) (nm := "java/lang/String") (st_2 n2 146 (by decide +kernel))).imp (fun _ h => vk_R.of (hts _ (by decide +kernel)) h), List.forall_mem_cons.mpr ⟨(st_ref (tm := .string "HarborLights" 400) (nm := "java/lang/String") (st_2 n2 130 (by decide +kernel))).imp (fun _ h => vk_R.of (hts _ (by decide +kernel)) h), List.forall_mem_cons.mpr ⟨(st_ref (tm := .string "HarborLights" 402) (nm := "java/lang/String") (st_2 n2 183 (by decide +kernel))).imp (fun _ h => vk_R.of (hts _ (by decide +kernel)) h), List.forall_mem_cons.mpr ⟨(st_ref (tm := .string "HarborLights" 404) (nm := "java/lang/String") (st_2 n2 163 (by decide +kernel))).imp (fun _ h => vk_R.of (hts _ (by decide +kernel)) h), List.forall_mem_cons.mpr ⟨(st_ref (tm := .string "HarborLights" 410) (nm := "java/lang/String") (st_2 n2 209 (by decide +kernel))).imp (fun _ h => vk_R.of (hts _ (by decide +kernel)) h), fun _ h => absurd h List.not_mem_nil⟩⟩⟩⟩⟩⟩⟩⟩⟩⟩⟩⟩⟩⟩⟩⟩⟩⟩
  · intro x hx
    exact va_Nw.of rfl (hts _ ((by decide +kernel : ∀ x ∈ xDecl, Cond.declares x ∈ lw_tb2) x hx))
  · intro x hx
    exact va_Nw.of rfl (hts _ ((by decide +kernel : ∀ x ∈ xCls, Cond.castable x x ∈ lw_tb2) x hx))
  · intro x hx y hy hne
    rcases (by decide +kernel : ∀ x ∈ xCls, ∀ y ∈ xCat, x ≠ y → (Cond.not (.castable x y) ∈ flatC narrow_1_1 ∨ Cond.not (.castable x y) ∈ flatC narrow_1_2)) x hx y hy hne with h | h
    · exact va_Nc.of (flat_of_before _ n1 _ h)
    · exact va_Nc.of (flat_of_before _ n2 _ h)
theorem st_T {args : Array Value} {s : State} {A : Nat → Prop} (hA : ∀ x : Nat, x < s.heap.size → ¬ A x) (hts : ∀ w ∈ lw_tb2, w.before args s = true) (h : (Jvm.Cond.and given_1 narrow_1).before args s = true) {b L : Nat} {xs : Nat → Int32} (hL : L ≤ 260) (hX : va_X b L xs s s.heap) (hbl : b < s.heap.size) : ∃ K : Nat → Nat, K 12 = b ∧ zT K A s := by
  obtain ⟨n1, n2, n3⟩ := st_nar h
  obtain ⟨K, h2, h1⟩ := st_cn (A := A) hA hts n1 n2 n3 hL hX hbl
  refine ⟨K, h2, st_th hts n1 n2 n3, vx_Zqof (hts _ (by decide +kernel)) (hts _ (by decide +kernel)) ?_ hA, vx_Zqof (hts _ (by decide +kernel)) (hts _ (by decide +kernel)) ?_ hA, h1⟩
  · exact (st_1 n1 7 (by decide +kernel))
  · exact (st_1 n1 8 (by decide +kernel))
theorem st_arr {args : Array Value} {s : State} {ty : FieldType} (h : (Cond.arrayClass ty).before args s = true) : ∃ cA : ClassId, ArrOfT s cA ty ∧ s.vm.findClass ("[" ++ ty.toString) = some cA := by
  obtain ⟨cA, kA, comp, h1, h2, h3⟩ := Cond.arrayClass_spec (args := args) (first := s) (o := none) (s := s) (idx := []) h
  exact ⟨cA, fun n z => ⟨fun k g => (by cases g), kA, h2, comp, h3⟩, h1⟩
theorem st_K {args : Array Value} {s : State} (hts : ∀ w ∈ lw_tb2, w.before args s = true) : ∃ (D : va_G) (tA : Nat → ClassId), zK D tA s := by
  obtain ⟨c0, i0, k0⟩ := u_known (C := RJ0) (T := TJ0) (N := 4) (n := 4) hts inJ0 (hts _ (by decide +kernel))
  obtain ⟨c1, i1, k1⟩ := u_known (C := RJ4) (T := TJ4) (N := 4) (n := 4) hts inJ4 (hts _ (by decide +kernel))
  obtain ⟨c2, i2, k2⟩ := u_known (C := RJx00060) (T := TJx00060) (N := 6) (n := 6) hts inJx00060 (hts _ (by decide +kernel))
  obtain ⟨c3, i3, k3⟩ := u_known (C := RJx7c733) (T := TJx7c733) (N := 6) (n := 6) hts inJx7c733 (hts _ (by decide +kernel))
  obtain ⟨c4, i4, k4⟩ := u_known (C := RX1) (T := TX1) (N := 7) (n := 7) hts inX1 (hts _ (by decide +kernel))
  obtain ⟨c5, i5, k5⟩ := u_known (C := RX3) (T := TX3) (N := 3) (n := 3) hts inX3 (hts _ (by decide +kernel))
  obtain ⟨c6, i6, k6⟩ := u_known (C := RX4) (T := TX4) (N := 3) (n := 3) hts inX4 (hts _ (by decide +kernel))
  obtain ⟨c7, i7, k7⟩ := u_known (C := RX5) (T := TX5) (N := 3) (n := 3) hts inX5 (hts _ (by decide +kernel))
  obtain ⟨c8, i8, k8⟩ := u_known (C := RX6) (T := TX6) (N := 5) (n := 5) hts inX6 (hts _ (by decide +kernel))
  obtain ⟨c9, i9, k9⟩ := u_known (C := RX7) (T := TX7) (N := 5) (n := 5) hts inX7 (hts _ (by decide +kernel))
  obtain ⟨c10, i10, k10⟩ := u_known (C := RX8) (T := TX8) (N := 6) (n := 6) hts inX8 (hts _ (by decide +kernel))
  obtain ⟨c11, i11, k11⟩ := u_known (C := RX9) (T := TX9) (N := 8) (n := 8) hts inX9 (hts _ (by decide +kernel))
  obtain ⟨c12, i12, k12⟩ := u_known (C := RX10) (T := TX10) (N := 9) (n := 9) hts inX10 (hts _ (by decide +kernel))
  obtain ⟨t0, y0, z0⟩ := st_arr (ty := .int) (hts _ (by decide +kernel))
  obtain ⟨t1, y1, z1⟩ := st_arr (ty := .boolean) (hts _ (by decide +kernel))
  obtain ⟨t2, y2, z2⟩ := st_arr (ty := .char) (hts _ (by decide +kernel))
  obtain ⟨t3, y3, z3⟩ := st_arr (ty := .byte) (hts _ (by decide +kernel))
  obtain ⟨t4, y4, z4⟩ := st_arr (ty := .long) (hts _ (by decide +kernel))
  obtain ⟨comp, t6, kA, h1, -, h3, h4, h5⟩ := Cond.arrayOver_spec (args := args) (first := s) (o := none) (s := s) (idx := []) (n := "HarborLights$State") (hts _ (by decide +kernel))
  refine ⟨(fun k => [c0, c1, c2, c3, c4, c5, c6, c7, c8, c9, c10, c11, c12].getD k c0, fun k => [i0, i1, i2, i3, i4, i5, i6, i7, i8, i9, i10, i11, i12].getD k i0), fun k => [t0, t1, t2, t3, t4, t0, t6].getD k t0, fun k q hq => ?_, fun k q hq => ?_⟩
  · match k, hq with
    | 0, hq => cases hq; exact k0
    | 1, hq => cases hq; exact k1
    | 2, hq => cases hq; exact k2
    | 3, hq => cases hq; exact k3
    | 4, hq => cases hq; exact k4
    | 5, hq => cases hq; exact k5
    | 6, hq => cases hq; exact k6
    | 7, hq => cases hq; exact k7
    | 8, hq => cases hq; exact k8
    | 9, hq => cases hq; exact k9
    | 10, hq => cases hq; exact k10
    | 11, hq => cases hq; exact k11
    | 12, hq => cases hq; exact k12
    | k + 13, hq => cases hq
  · match k, hq with
    | 0, hq => cases hq; exact ⟨y0, z0⟩
    | 1, hq => cases hq; exact ⟨y1, z1⟩
    | 2, hq => cases hq; exact ⟨y2, z2⟩
    | 3, hq => cases hq; exact ⟨y3, z3⟩
    | 4, hq => cases hq; exact ⟨y4, z4⟩
    | 5, hq => cases hq; exact ⟨y0, z0⟩
    | 6, hq => cases hq; exact ⟨fun n z => ⟨fun k g => (by cases g), kA, h3, comp, h4⟩, kA, comp, h3, h4, h1, h5⟩
    | k + 7, hq => cases hq
