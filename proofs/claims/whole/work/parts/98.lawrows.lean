/-! ===== the law: its world, its own rows ===== -/
abbrev xObj (ad : Nat → Nat) (hsv mal fai : Int) : va_W := [((ad 0), .inr (12, [.ref (ad 1), .ref (ad 24), .ref (ad 27), .ref (ad 146), .ref (ad 133), .ref (ad 159), .int (iI hsv), .int (iI mal), .int (iI fai)]))]
abbrev xOff (tA : Nat → ClassId) (ad : Nat → Nat) (v : Nat → Int → Int) (shrt : Int → Int) (grp : Int → Int) (seen : Int → Int) (tp : Int → Int) (shr : Int → Int) (need : Int → Int) (ordr : Int → Int) (size : Int) : va_W := bOffice tA (ad 1) (ad 2) (ad 3) (ad 4) (ad 5) (ad 6) (ad 7) (ad 8) (ad 9) (ad 10) (ad 11) (ad 12) (ad 13) (ad 14) (ad 15) (ad 16) (ad 17) (ad 18) (ad 19) (ad 20) (ad 21) (ad 22) (ad 23) (v 0 0) (v 1 0) (v 2) (v 3) (v 4) (v 5) (v 6) (v 7 0) (v 8) (v 9) (v 10) (v 11) (v 12) (v 13 0) (v 14 0) (v 15 0) (v 16 0) (v 17 0) (v 18 0) shrt grp seen tp shr need ordr size
abbrev xScr (tA : Nat → ClassId) (K : Nat → Nat) (ad : Nat → Nat) (pos cmd : Int) (vals txt : Int → Int) (len : Int) : va_W := bScript tA K (ad 24) (ad 25) (ad 26) pos cmd vals txt len
abbrev xHis (tA : Nat → ClassId) (ad : Nat → Nat) (hc hn : Int) (hs : Nat → Nat → Int → Int) : va_W := bHistO tA (ad 27) (ad 28) (ad 29) (ad 30) (ad 31) (ad 32) (ad 33) (ad 34) (ad 35) (ad 36) (ad 37) (ad 38) (ad 39) (ad 40) (ad 41) (ad 42) (ad 43) (ad 44) (ad 45) (ad 46) (ad 47) (ad 48) (ad 49) (ad 50) (ad 51) (ad 52) (ad 53) (ad 54) (ad 55) (ad 56) (ad 57) (ad 58) (ad 59) (ad 60) (ad 61) (ad 62) (ad 63) (ad 64) (ad 65) (ad 66) (ad 67) (ad 68) (ad 69) (ad 70) (ad 71) (ad 72) (ad 73) (ad 74) (ad 75) (ad 76) (ad 77) (ad 78) (ad 79) (ad 80) (ad 81) (ad 82) (ad 83) (ad 84) (ad 85) (ad 86) (ad 87) (ad 88) (ad 89) (ad 90) (ad 91) (ad 92) (ad 93) (ad 94) (ad 95) (ad 96) (ad 97) (ad 98) (ad 99) (ad 100) (ad 101) (ad 102) (ad 103) (ad 104) (ad 105) (ad 106) (ad 107) (ad 108) (ad 109) (ad 110) (ad 111) (ad 112) (ad 113) (ad 114) (ad 115) (ad 116) (ad 117) (ad 118) (ad 119) (ad 120) (ad 121) (ad 122) (ad 123) (ad 124) (ad 125) (ad 126) (ad 127) (ad 128) (ad 129) (ad 130) (ad 131) (ad 132) hc hn hs
abbrev xBef (tA : Nat → ClassId) (ad : Nat → Nat) (bt : Nat → Int → Int) : va_W := bState tA (ad 133) (ad 134) (ad 135) (ad 136) (ad 137) (ad 138) (ad 139) (ad 140) (ad 141) (ad 142) (ad 143) (ad 144) (ad 145) (bt 0 0) (bt 1 0) (bt 2) (bt 3) (bt 4) (bt 5) (bt 6) (bt 7 0) (bt 8) (bt 9) (bt 10) (bt 11) (bt 12) (bt 13 0) (bt 14 0) (bt 15 0) (bt 16 0) (bt 17 0) (bt 18 0)
abbrev xSav (tA : Nat → ClassId) (ad : Nat → Nat) (sv : Nat → Int → Int) : va_W := bState tA (ad 146) (ad 147) (ad 148) (ad 149) (ad 150) (ad 151) (ad 152) (ad 153) (ad 154) (ad 155) (ad 156) (ad 157) (ad 158) (sv 0 0) (sv 1 0) (sv 2) (sv 3) (sv 4) (sv 5) (sv 6) (sv 7 0) (sv 8) (sv 9) (sv 10) (sv 11) (sv 12) (sv 13 0) (sv 14 0) (sv 15 0) (sv 16 0) (sv 17 0) (sv 18 0)
abbrev xLin (tA : Nat → ClassId) (ad : Nat → Nat) (lnb : Int → Int) (lml lct : Int) : va_W := bLine tA (ad 159) (ad 160) lnb lml lct
abbrev xMod (tA : Nat → ClassId) (am : Nat → Nat) (ms : Int → Int) (mbef : Int → Int) (msav : Int → Int) (misv : Int) (mpast : Int → Int) (mpm : Int) (mthr : Int) (mways : Int → Int) (mnds : Int → Int) (mtkp : Int → Int) (mline : Int → Int) (mlm : Int) (mtxt : Int → Int) (mlen : Int) (mat : Int) (mwr : Int) (merr : Int) (mfail : Int) (mcmd : Int → Int) (mcm : Int) : va_W := bModel tA (am 0) (am 1) (am 2) (am 3) (am 4) (am 5) (am 6) (am 7) (am 8) (am 9) (am 10) ms mbef msav misv mpast mpm mthr mways mnds mtkp mline mlm mtxt mlen mat mwr merr mfail mcmd mcm
abbrev xOut (tA : Nat → ClassId) (o : Nat) (og : Int → Int) : va_W := [(o, .inl (tA 4, 1, .inr (.inl (zAl og))))]
abbrev xOud (tA : Nat → ClassId) (od : Nat) (dg : Nat → UInt64) : va_W := [(od, .inl (tA 5, 1, .inr (.inr (.inr (.inl dg)))))]
abbrev xW (tA : Nat → ClassId) (K : Nat → Nat) (ad am : Nat → Nat) (o od : Nat) (v : Nat → Int → Int) (shrt : Int → Int) (grp : Int → Int) (seen : Int → Int) (tp : Int → Int) (shr : Int → Int) (need : Int → Int) (ordr : Int → Int) (size : Int) (pos : Int) (cmd : Int) (vals : Int → Int) (txt : Int → Int) (len : Int) (hc : Int) (hn : Int) (hs : Nat → Nat → Int → Int) (bt : Nat → Int → Int) (sv : Nat → Int → Int) (hsv : Int) (mal : Int) (fai : Int) (lnb : Int → Int) (lml : Int) (lct : Int) (ms : Int → Int) (mbef : Int → Int) (msav : Int → Int) (misv : Int) (mpast : Int → Int) (mpm : Int) (mthr : Int) (mways : Int → Int) (mnds : Int → Int) (mtkp : Int → Int) (mline : Int → Int) (mlm : Int) (mtxt : Int → Int) (mlen : Int) (mat : Int) (mwr : Int) (merr : Int) (mfail : Int) (mcmd : Int → Int) (mcm : Int) (og : Int → Int) (dg : Nat → UInt64) : List va_W := [xOut tA o og, xOud tA od dg, xMod tA am ms mbef msav misv mpast mpm mthr mways mnds mtkp mline mlm mtxt mlen mat mwr merr mfail mcmd mcm, xObj ad hsv mal fai, xOff tA ad v shrt grp seen tp shr need ordr size, xScr tA K ad pos cmd vals txt len, xHis tA ad hc hn hs, xBef tA ad bt, xSav tA ad sv, xLin tA ad lnb lml lct]
def lwA (s : State) : Nat → Prop := fun q => s.heap.size ≤ q
/-- what is to be shown behind a case: the next turn, whatever the numbers are by then -/
def lwK (p : Program) (l : Launch) (e : Env) (s : State) (m : MethodId) (below : List Frame) (meth : Method) (c : Code) (D : va_G) (tA : Nat → ClassId) (K : Nat → Nat) (ad am : Nat → Nat) (o od b : Nat) (i n : Int) (k9 n9 : Nat) : Prop :=
  ∀ (v : Nat → Int → Int) (shrt : Int → Int) (grp : Int → Int) (seen : Int → Int) (tp : Int → Int) (shr : Int → Int) (need : Int → Int) (ordr : Int → Int) (size : Int) (pos : Int) (cmd : Int) (vals : Int → Int) (txt : Int → Int) (len : Int) (hc : Int) (hn : Int) (hs : Nat → Nat → Int → Int) (bt : Nat → Int → Int) (sv : Nat → Int → Int) (hsv : Int) (mal : Int) (fai : Int) (lnb : Int → Int) (lml : Int) (lct : Int) (ms : Int → Int) (mbef : Int → Int) (msav : Int → Int) (misv : Int) (mpast : Int → Int) (mpm : Int) (mthr : Int) (mways : Int → Int) (mnds : Int → Int) (mtkp : Int → Int) (mline : Int → Int) (mlm : Int) (mtxt : Int → Int) (mlen : Int) (mat : Int) (mwr : Int) (merr : Int) (mfail : Int) (mcmd : Int → Int) (mcm : Int) (og : Int → Int) (dg : Nat → UInt64) (H : Heap) (locs : List Loc) (ls : Array Slot), LInv (n + 1) v hs sv pos cmd vals txt len hc hn hsv mal fai lnb lct ms msav misv mpast mpm mline mlm mtxt mlen merr mfail mcmd → va_P D vwCl (xW tA K ad am o od v shrt grp seen tp shr need ordr size pos cmd vals txt len hc hn hs bt sv hsv mal fai lnb lml lct ms mbef msav misv mpast mpm mthr mways mnds mtkp mline mlm mtxt mlen mat mwr merr mfail mcmd mcm og dg).flatten H → va_D (lwA s) (xW tA K ad am o od v shrt grp seen tp shr need ordr size pos cmd vals txt len hc hn hs bt sv hsv mal fai lnb lml lct ms mbef msav misv mpast mpm mthr mways mnds mtkp mline mlm mtxt mlen mat mwr merr mfail mcmd mcm og dg).flatten → va_S (lwA s) s.heap H locs → lv_has ls 9 [(0, .ref b), (1, .ref (ad 0)), (2, .ref (am 0)), (3, .ref o), (4, .ref od), (5, .int (iI i))] → W p l e room_1 s m #[Value.ref b] below meth c H locs (k9 + 20) (n9 + 200) (lw_Z below #[Value.ref b] s) (F0 m 2917 ls [])
def chZ (x : Int) : Int := (((iI x).toUInt32 % 65536).toNat : Int)
theorem chZ_in (x : Int) : 0 ≤ chZ x ∧ chZ x ≤ 65535 := by
  unfold chZ
  have hy : ((iI x).toUInt32 % 65536).toNat = (iI x).toUInt32.toNat % 65536 := by
    rw [UInt32.toNat_mod]; rfl
  rw [hy]
  omega
def xz (xs : Nat → Int32) (k : Int) : Int := (xs k.toNat).toInt
theorem iI_to (y : Int32) : iI y.toInt = y := Int32.ofInt_toInt y
theorem i32_in (y : Int32) : -2147483648 ≤ y.toInt ∧ y.toInt ≤ 2147483647 := by
  have h1 := Int32.le_toInt y
  have h2 := Int32.toInt_lt y
  omega
theorem xz_in (xs : Nat → Int32) (k : Int) : -2147483648 ≤ xz xs k ∧ xz xs k ≤ 2147483647 := i32_in _
theorem cmpZ_s (x : Int) : cmpZ x x = 0 := by
  unfold cmpZ
  rw [if_neg (by omega)]
  first | rw [if_pos rfl] | rw [if_neg (by omega)]
theorem gx_tbl {ws : List Cond} (h : GoodIn wsL_law ws) : GoodIn lw_tb2 ws := fun w hw => ⟨wsL_law_in w (h w hw).1, (h w hw).2⟩
theorem xL_in : GoodIn lw_tb2 xL := goodIn_of _ (by decide +kernel)
theorem gx_wr {own : String} {index : Nat} {y : MethodName} {ws : List Cond} (h : GoodIn wsL_law (va_wsS own index y ws)) : GoodIn lw_tb2 (va_wsS own index y (ws ++ xL)) := by
  intro w hw
  unfold va_wsS at hw
  rcases List.mem_append.mp hw with a | a
  · exact gx_tbl h w (by unfold va_wsS; exact List.mem_append_left _ a)
  · rcases List.mem_append.mp a with a | a
    · exact gx_tbl h w (by unfold va_wsS; exact List.mem_append_right _ a)
    · exact xL_in w a
section LWR
variable {p : Program} {l : Launch} {e : Env} {R : Room} {s : State} {m : MethodId} {args : Array Value} {below : List Frame} {meth : Method} {c : Code} {H : Heap} {locs : List Loc} {cells slots : Nat} {Q : State → Prop}
variable {cc : ByteArray} {pc : Nat} {ls : Array Slot} {rest : List Value} {A : Nat → Prop} {H0 : Heap} {D : va_G} {tA : Nat → ClassId} {ws : va_W}
theorem zz_sld (hx : p.tables.exec = Jvm.exec) (hb : c.code = cc) {b L : Nat} {xs : Nat → Int32} (hX : va_X b L xs s H0) (hbl : b < H0.size) (hbA : ¬ A b) (hS : va_S A H0 H locs) {k : Int} (hk : 0 ≤ k ∧ k < L) (hL : L ≤ 2560) (hd : decode cc pc = .ok (.iaload, 1))
    (kk : W p l e R s m args below meth c H locs cells slots Q (F0 m (pc + 1) ls (.int (iI (xz xs k)) :: rest))) : W p l e R s m args below meth c H locs cells slots Q (F0 m pc ls (.int (iI k) :: .ref b :: rest)) := by
  refine va_sld hx hb hX hbl hbA hS (zin hk (by omega)) hd ?_
  rw [iI_clamp (by omega), ← iI_to (xs k.toNat)]
  exact kk
theorem zz_slen (hx : p.tables.exec = Jvm.exec) (hb : c.code = cc) {b L : Nat} {xs : Nat → Int32} (hX : va_X b L xs s H0) (hbl : b < H0.size) (hbA : ¬ A b) (hS : va_S A H0 H locs) (hd : decode cc pc = .ok (.arraylength, 1))
    (kk : W p l e R s m args below meth c H locs cells slots Q (F0 m (pc + 1) ls (.int (iI (L : Int)) :: rest))) : W p l e R s m args below meth c H locs cells slots Q (F0 m pc ls (.ref b :: rest)) := by
  refine va_slen hx hb hX hbl hbA hS hd ?_
  have e : Int32.ofNat L = iI (L : Int) := by
    show Int32.ofNat L = Int32.ofInt (L : Int)
    first | rfl | exact (Int32.ofInt_eq_ofNat).symm | simp
  rw [e]
  exact kk
theorem and63 (y : Int32) : 0 ≤ (y &&& 63).toInt ∧ (y &&& 63).toInt ≤ 63 := by
  have h : (y.toBitVec &&& 63#32).toNat ≤ 63 := by
    rw [BitVec.toNat_and]
    exact Nat.and_le_right
  have e : (y &&& 63).toInt = ((y.toBitVec &&& 63#32).toNat : Int) := by
    show (y.toBitVec &&& 63#32).toInt = _
    exact BitVec.toInt_eq_toNat_of_lt (by omega)
  rw [e]
  omega
/-- the law's choice of a call: a number of 0 to 63 -/
theorem zz_and63 (hx : p.tables.exec = Jvm.exec) (hb : c.code = cc) {x : Int} (hd : decode cc pc = .ok (.iand, 1))
    (kk : ∀ w : Int, 0 ≤ w → w ≤ 63 → W p l e R s m args below meth c H locs cells slots Q (F0 m (pc + 1) ls (.int (iI w) :: rest))) : W p l e R s m args below meth c H locs cells slots Q (F0 m pc ls (.int (iI 63) :: .int (iI x) :: rest)) := by
  refine lv_iand hx hb hd ?_
  have h := and63 (iI x)
  have h2 := kk (iI x &&& 63).toInt h.1 h.2
  rw [iI_to] at h2
  exact h2
theorem zz_tabIn (hx : p.tables.exec = Jvm.exec) (hb : c.code = cc) {dflt hi : Int} {offs : Array Int} {len : Nat} {x : Int} {off : Int} {tgt : Nat} (hd : decode cc pc = .ok (.tableswitch dflt 0 hi offs, len)) (h1 : 0 ≤ x ∧ x ≤ hi ∧ hi ≤ 63) (ho : offs[x.toNat]? = some off) (ht : (pc : Int) + off = (tgt : Int))
    (k : W p l e R s m args below meth c H locs cells slots Q (F0 m tgt ls rest)) : W p l e R s m args below meth c H locs cells slots Q (F0 m pc ls (.int (iI x) :: rest)) := by
  have e : (iI x).toInt = x := iI_toInt (by omega)
  refine lv_tableIn hx hb hd (by rw [e]; omega) (by rw [e]; omega) ?_ ht k
  rw [e, Int.sub_zero]
  exact ho
theorem zz_tabOut (hx : p.tables.exec = Jvm.exec) (hb : c.code = cc) {dflt hi : Int} {offs : Array Int} {len : Nat} {x : Int} {tgt : Nat} (hd : decode cc pc = .ok (.tableswitch dflt 0 hi offs, len)) (h1 : hi < x ∧ 0 ≤ x ∧ x ≤ 63) (ht : (pc : Int) + dflt = (tgt : Int))
    (k : W p l e R s m args below meth c H locs cells slots Q (F0 m tgt ls rest)) : W p l e R s m args below meth c H locs cells slots Q (F0 m pc ls (.int (iI x) :: rest)) := by
  have e : (iI x).toInt = x := iI_toInt (by omega)
  exact lv_tableOut hx hb hd (by rw [e]; omega) ht k
/-- what a char out of the script is -/
theorem zz_i2cx (hx : p.tables.exec = Jvm.exec) (hb : c.code = cc) {x : Int} (hd : decode cc pc = .ok (.i2c, 1))
    (kk : W p l e R s m args below meth c H locs cells slots Q (F0 m (pc + 1) ls (.int (iI (chZ x)) :: rest))) : W p l e R s m args below meth c H locs cells slots Q (F0 m pc ls (.int (iI x) :: rest)) := by
  refine lv_i2c hx hb hd (v := iI (chZ x)) ?_ kk
  unfold chZ
  generalize (iI x).toUInt32 = y
  apply Int32.toBitVec_inj.mp
  show (y % 65536).toBitVec = BitVec.ofInt 32 (((y % 65536).toNat : Nat) : Int)
  rw [BitVec.ofInt_natCast]
  apply BitVec.eq_of_toNat_eq
  rw [BitVec.toNat_ofNat]
  have := (y % 65536).toNat_lt
  show (y % 65536).toNat = (y % 65536).toNat % 2 ^ 32
  omega
end LWR
