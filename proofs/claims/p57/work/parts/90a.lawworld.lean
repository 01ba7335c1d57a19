/-! ===== p57: the syndicate's world as one list; contracts framed to it ===== -/
abbrev xObj (ad : Nat → Nat) (hsv mal fai : Int) : va_W := [((ad 0), .inr (12, [.ref (ad 1), .ref (ad 24), .ref (ad 27), .ref (ad 146), .ref (ad 133), .ref (ad 159), .int (iI hsv), .int (iI mal), .int (iI fai)]))]
abbrev xOff (tA : Nat → ClassId) (ad : Nat → Nat) (v : Nat → Int → Int) (shrt : Int → Int) (grp : Int → Int) (seen : Int → Int) (tp : Int → Int) (shr : Int → Int) (need : Int → Int) (ordr : Int → Int) (size : Int) : va_W := bOffice tA (ad 1) (ad 2) (ad 3) (ad 4) (ad 5) (ad 6) (ad 7) (ad 8) (ad 9) (ad 10) (ad 11) (ad 12) (ad 13) (ad 14) (ad 15) (ad 16) (ad 17) (ad 18) (ad 19) (ad 20) (ad 21) (ad 22) (ad 23) (v 0 0) (v 1 0) (v 2) (v 3) (v 4) (v 5) (v 6) (v 7 0) (v 8) (v 9) (v 10) (v 11) (v 12) (v 13 0) (v 14 0) (v 15 0) (v 16 0) (v 17 0) (v 18 0) shrt grp seen tp shr need ordr size
abbrev xScr (tA : Nat → ClassId) (K : Nat → Nat) (ad : Nat → Nat) (pos cmd : Int) (vals txt : Int → Int) (len : Int) : va_W := bScript tA K (ad 24) (ad 25) (ad 26) pos cmd vals txt len
abbrev xHis (tA : Nat → ClassId) (ad : Nat → Nat) (hc hn : Int) (hs : Nat → Nat → Int → Int) : va_W := bHistO tA (ad 27) (ad 28) (ad 29) (ad 30) (ad 31) (ad 32) (ad 33) (ad 34) (ad 35) (ad 36) (ad 37) (ad 38) (ad 39) (ad 40) (ad 41) (ad 42) (ad 43) (ad 44) (ad 45) (ad 46) (ad 47) (ad 48) (ad 49) (ad 50) (ad 51) (ad 52) (ad 53) (ad 54) (ad 55) (ad 56) (ad 57) (ad 58) (ad 59) (ad 60) (ad 61) (ad 62) (ad 63) (ad 64) (ad 65) (ad 66) (ad 67) (ad 68) (ad 69) (ad 70) (ad 71) (ad 72) (ad 73) (ad 74) (ad 75) (ad 76) (ad 77) (ad 78) (ad 79) (ad 80) (ad 81) (ad 82) (ad 83) (ad 84) (ad 85) (ad 86) (ad 87) (ad 88) (ad 89) (ad 90) (ad 91) (ad 92) (ad 93) (ad 94) (ad 95) (ad 96) (ad 97) (ad 98) (ad 99) (ad 100) (ad 101) (ad 102) (ad 103) (ad 104) (ad 105) (ad 106) (ad 107) (ad 108) (ad 109) (ad 110) (ad 111) (ad 112) (ad 113) (ad 114) (ad 115) (ad 116) (ad 117) (ad 118) (ad 119) (ad 120) (ad 121) (ad 122) (ad 123) (ad 124) (ad 125) (ad 126) (ad 127) (ad 128) (ad 129) (ad 130) (ad 131) (ad 132) hc hn hs
abbrev xBef (tA : Nat → ClassId) (ad : Nat → Nat) (bt : Nat → Int → Int) : va_W := bState tA (ad 133) (ad 134) (ad 135) (ad 136) (ad 137) (ad 138) (ad 139) (ad 140) (ad 141) (ad 142) (ad 143) (ad 144) (ad 145) (bt 0 0) (bt 1 0) (bt 2) (bt 3) (bt 4) (bt 5) (bt 6) (bt 7 0) (bt 8) (bt 9) (bt 10) (bt 11) (bt 12) (bt 13 0) (bt 14 0) (bt 15 0) (bt 16 0) (bt 17 0) (bt 18 0)
abbrev xSav (tA : Nat → ClassId) (ad : Nat → Nat) (sv : Nat → Int → Int) : va_W := bState tA (ad 146) (ad 147) (ad 148) (ad 149) (ad 150) (ad 151) (ad 152) (ad 153) (ad 154) (ad 155) (ad 156) (ad 157) (ad 158) (sv 0 0) (sv 1 0) (sv 2) (sv 3) (sv 4) (sv 5) (sv 6) (sv 7 0) (sv 8) (sv 9) (sv 10) (sv 11) (sv 12) (sv 13 0) (sv 14 0) (sv 15 0) (sv 16 0) (sv 17 0) (sv 18 0)
abbrev xLin (tA : Nat → ClassId) (ad : Nat → Nat) (lnb : Int → Int) (lml lct : Int) : va_W := bLine tA (ad 159) (ad 160) lnb lml lct
abbrev GL : Type := (Nat → Int → Int) × (Int → Int) × (Int → Int) × (Int → Int) × (Int → Int) × (Int → Int) × (Int → Int) × (Int → Int) × (Int) × (Int) × (Int) × (Int → Int) × (Int → Int) × (Int) × (Int) × (Int) × (Nat → Nat → Int → Int) × (Nat → Int → Int) × (Nat → Int → Int) × (Int) × (Int) × (Int) × (Int → Int) × (Int) × (Int)
abbrev GL_v (g : GL) : Nat → Int → Int := g.1
abbrev GL_shrt (g : GL) : Int → Int := g.2.1
abbrev GL_grp (g : GL) : Int → Int := g.2.2.1
abbrev GL_seen (g : GL) : Int → Int := g.2.2.2.1
abbrev GL_tp (g : GL) : Int → Int := g.2.2.2.2.1
abbrev GL_shr (g : GL) : Int → Int := g.2.2.2.2.2.1
abbrev GL_need (g : GL) : Int → Int := g.2.2.2.2.2.2.1
abbrev GL_ordr (g : GL) : Int → Int := g.2.2.2.2.2.2.2.1
abbrev GL_size (g : GL) : Int := g.2.2.2.2.2.2.2.2.1
abbrev GL_pos (g : GL) : Int := g.2.2.2.2.2.2.2.2.2.1
abbrev GL_cmd (g : GL) : Int := g.2.2.2.2.2.2.2.2.2.2.1
abbrev GL_vals (g : GL) : Int → Int := g.2.2.2.2.2.2.2.2.2.2.2.1
abbrev GL_txt (g : GL) : Int → Int := g.2.2.2.2.2.2.2.2.2.2.2.2.1
abbrev GL_len (g : GL) : Int := g.2.2.2.2.2.2.2.2.2.2.2.2.2.1
abbrev GL_hc (g : GL) : Int := g.2.2.2.2.2.2.2.2.2.2.2.2.2.2.1
abbrev GL_hn (g : GL) : Int := g.2.2.2.2.2.2.2.2.2.2.2.2.2.2.2.1
abbrev GL_hs (g : GL) : Nat → Nat → Int → Int := g.2.2.2.2.2.2.2.2.2.2.2.2.2.2.2.2.1
abbrev GL_bt (g : GL) : Nat → Int → Int := g.2.2.2.2.2.2.2.2.2.2.2.2.2.2.2.2.2.1
abbrev GL_sv (g : GL) : Nat → Int → Int := g.2.2.2.2.2.2.2.2.2.2.2.2.2.2.2.2.2.2.1
abbrev GL_hsv (g : GL) : Int := g.2.2.2.2.2.2.2.2.2.2.2.2.2.2.2.2.2.2.2.1
abbrev GL_mal (g : GL) : Int := g.2.2.2.2.2.2.2.2.2.2.2.2.2.2.2.2.2.2.2.2.1
abbrev GL_fai (g : GL) : Int := g.2.2.2.2.2.2.2.2.2.2.2.2.2.2.2.2.2.2.2.2.2.1
abbrev GL_lnb (g : GL) : Int → Int := g.2.2.2.2.2.2.2.2.2.2.2.2.2.2.2.2.2.2.2.2.2.2.1
abbrev GL_lml (g : GL) : Int := g.2.2.2.2.2.2.2.2.2.2.2.2.2.2.2.2.2.2.2.2.2.2.2.1
abbrev GL_lct (g : GL) : Int := g.2.2.2.2.2.2.2.2.2.2.2.2.2.2.2.2.2.2.2.2.2.2.2.2
abbrev zL (tA : Nat → ClassId) (K : Nat → Nat) (ad : Nat → Nat) (g : GL) : List va_W := [xObj ad (GL_hsv g) (GL_mal g) (GL_fai g), xOff tA ad (GL_v g) (GL_shrt g) (GL_grp g) (GL_seen g) (GL_tp g) (GL_shr g) (GL_need g) (GL_ordr g) (GL_size g), xScr tA K ad (GL_pos g) (GL_cmd g) (GL_vals g) (GL_txt g) (GL_len g), xHis tA ad (GL_hc g) (GL_hn g) (GL_hs g), xBef tA ad (GL_bt g), xSav tA ad (GL_sv g), xLin tA ad (GL_lnb g) (GL_lml g) (GL_lct g)]
def zW (tA : Nat → ClassId) (K : Nat → Nat) (ad : Nat → Nat) (g : GL) : va_W := (zL tA K ad g).flatten
theorem zW_0 (tA : Nat → ClassId) (K : Nat → Nat) (ad : Nat → Nat) (g : GL) : (zW tA K ad g)[0]? = some (ad 0, .inr (12, [.ref (ad 1), .ref (ad 24), .ref (ad 27), .ref (ad 146), .ref (ad 133), .ref (ad 159), .int (iI (GL_hsv g)), .int (iI (GL_mal g)), .int (iI (GL_fai g))])) := rfl

/-! frames -/
section FR
variable {wc : va_W} {L Lc Lr : List va_W} {is : List Nat} {K : Nat → Nat} {D : va_G} {tA : Nat → ClassId} {sz : Nat} {s t : State}
theorem fr_A (c : zCut wc L Lc Lr is) (h : zPre D tA L.flatten sz s) : ∀ q, va_A wc sz q → va_A L.flatten sz q := by
  obtain ⟨hsz, hP, hK, hD⟩ := h
  subst hsz
  have hD0 := c.D (hD.self (sz := s.heap.size))
  exact zap_Fc hD0 (va_S.rf (A := va_A L.flatten s.heap.size) (H0 := s.heap)) (fun q h => Or.inr h)
theorem fr_in (c : zCut wc L Lc Lr is) (h : zPre D tA L.flatten sz s) : zPre D tA wc sz s := by
  obtain ⟨hsz, hP, hK, hD⟩ := h
  exact ⟨hsz, zap_Pc (c.P hP), hK, zap_Dc (c.D hD)⟩
theorem fr_inX (c : zCut wc L Lc Lr is) (h : zPreX K D tA L.flatten sz s) : zPreX K D tA wc sz s :=
  ⟨fr_in c h.1, h.2.at (va_S.rf (A := va_A L.flatten sz) (H0 := s.heap)) (fr_A c h.1) rfl (State.WarmedH.refl s)⟩
theorem fr_out {S : Type} {ws' : S → va_W} {Lc' Lf : S → List va_W} {isF : List Nat} (c : zCut wc L Lc Lr is) (b : zBack ws' Lr Lc' Lf isF) (h : zPre D tA L.flatten sz s) (hF : va_F (va_A wc sz) s t) {u : S} (hB : zB D tA (va_A wc sz) (ws' u) t) : zB D tA (va_A L.flatten sz) (Lf u).flatten t := by
  have hA := fr_A c h
  obtain ⟨hsz, hP, hK, hD⟩ := h
  subst hsz
  obtain ⟨hP1, hK1, hD1⟩ := hB
  obtain ⟨hP2, hD2⟩ := zap_J (c.P hP) (c.D (hD.self (sz := s.heap.size))) hF.2 hA hP1 hD1
  exact ⟨b.P hP2, hK1, b.D hD2⟩
theorem fr_F (c : zCut wc L Lc Lr is) (h : zPre D tA L.flatten sz s) (hF : va_F (va_A wc sz) s t) : va_F (va_A L.flatten sz) s t := ⟨hF.1, fun q hq hn => hF.2 q hq (fun z => hn (fr_A c h q z))⟩
end FR
theorem zCut_1 (w : va_W) : zCut w [w] [w] [] [0] := ⟨(List.append_nil w).symm, rfl, rfl⟩
theorem zBack_1 {S : Type} (w : S → va_W) : zBack w [] (fun u => [w u]) (fun u => [w u]) [0] := ⟨fun u => (List.append_nil (w u)).symm, fun _ => rfl, rfl⟩
section CV
variable {l : Launch} {y : MethodName} {w : List Cond} {rm : Room} {K : Nat → Nat} {D : va_G} {tA : Nat → ClassId} {av : List Value} {wc : va_W} {sz mc ms : Nat} {L Lc Lr : List va_W} {is isF isX : List Nat}
def zHl {S : Type} (l : Launch) (y : MethodName) (w : List Cond) (rm : Room) (K : Nat → Nat) (D : va_G) (tA : Nat → ClassId) (av : List Value) (ws : va_W) (sz : Nat) (post : Int → S → Prop) (ws' : S → va_W) (mc ms : Nat) : Prop :=
  Met l y w rm (va_Pc av (zPreX K D tA ws sz)) (va_Ql (fun r (u : Int × S) => r = lI u.1 ∧ post u.1 u.2) (fun u => zB D tA (va_A ws sz) (ws' u.2)) (va_A ws sz)) mc ms (va_A ws sz)
def zHd {S : Type} (l : Launch) (y : MethodName) (w : List Cond) (rm : Room) (K : Nat → Nat) (D : va_G) (tA : Nat → ClassId) (av : List Value) (ws : va_W) (sz : Nat) (post : UInt64 → S → Prop) (ws' : S → va_W) (mc ms : Nat) : Prop :=
  Met l y w rm (va_Pc av (zPreX K D tA ws sz)) (va_Qd (fun r (u : UInt64 × S) => r = u.1 ∧ post u.1 u.2) (fun u => zB D tA (va_A ws sz) (ws' u.2)) (va_A ws sz)) mc ms (va_A ws sz)
def zHf {S : Type} (l : Launch) (y : MethodName) (w : List Cond) (rm : Room) (K : Nat → Nat) (D : va_G) (tA : Nat → ClassId) (av : List Value) (ws : va_W) (sz : Nat) (post : UInt32 → S → Prop) (ws' : S → va_W) (mc ms : Nat) : Prop :=
  Met l y w rm (va_Pc av (zPreX K D tA ws sz)) (va_Qf (fun r (u : UInt32 × S) => r = u.1 ∧ post u.1 u.2) (fun u => zB D tA (va_A ws sz) (ws' u.2)) (va_A ws sz)) mc ms (va_A ws sz)
theorem zH_M {S T : Type} {post : Int → S → Prop} {ws' : S → va_W} (h : zMi l y w rm D tA av wc sz post ws' mc ms) {Lc' Lf : S → List va_W} (c : zCut wc L Lc Lr is) (b : zBack ws' Lr Lc' Lf isF) {post2 : Int → T → Prop} {w2 : T → va_W} (f : S → T) (hw : ∀ u, (Lf u).flatten = w2 (f u)) (hp : ∀ z u, post z u → post2 z (f u)) : zHi l y w rm K D tA av L.flatten sz post2 w2 mc ms := by
  unfold zMi Met at h
  unfold zHi Met
  refine MetFree.mono h (fun a s q => ⟨q.1, fr_in c q.2.1⟩) (fun _ _ _ _ _ q => q) ?_
  rintro a s o t ⟨ha, hq, hZ⟩ ⟨⟨⟨r, u, ho, ⟨hr, hp1⟩, hB⟩, hF⟩, Lo, hFE, hLo⟩
  refine ⟨⟨⟨r, (u.1, f u.2), ho, ⟨hr, hp _ _ hp1⟩, ?_⟩, fr_F c hq hF⟩, Lo, hFE, fun z hz => fr_A c hq _ (hLo z hz)⟩
  have h2 := fr_out c b hq hF hB
  rw [hw] at h2
  exact h2
theorem zH_C {S T : Type} {post : Int → S → Prop} {ws' : S → va_W} (h : zCi l y w rm K D tA av wc sz post ws' mc ms) {Lc' Lf : S → List va_W} (c : zCut wc L Lc Lr is) (b : zBack ws' Lr Lc' Lf isF) {post2 : Int → T → Prop} {w2 : T → va_W} (f : S → T) (hw : ∀ u, (Lf u).flatten = w2 (f u)) (hp : ∀ z u, post z u → post2 z (f u)) : zHi l y w rm K D tA av L.flatten sz post2 w2 mc ms := by
  unfold zCi Met at h
  unfold zHi Met
  refine MetFree.mono h (fun a s q => ⟨q.1, (fr_inX c q.2).1, (fr_inX c q.2).2.2.2.2⟩) (fun _ _ _ _ _ q => q) ?_
  rintro a s o t ⟨ha, hq, hZ⟩ ⟨⟨⟨r, u, ho, ⟨hr, hp1⟩, hB⟩, hF⟩, Lo, hFE, hLo⟩
  refine ⟨⟨⟨r, (u.1, f u.2), ho, ⟨hr, hp _ _ hp1⟩, ?_⟩, fr_F c hq hF⟩, Lo, hFE, fun z hz => fr_A c hq _ (hLo z hz)⟩
  have h2 := fr_out c b hq hF hB
  rw [hw] at h2
  exact h2
theorem zH_Ml {S T : Type} {post : Int → S → Prop} {ws' : S → va_W} (h : zMl l y w rm D tA av wc sz post ws' mc ms) {Lc' Lf : S → List va_W} (c : zCut wc L Lc Lr is) (b : zBack ws' Lr Lc' Lf isF) {post2 : Int → T → Prop} {w2 : T → va_W} (f : S → T) (hw : ∀ u, (Lf u).flatten = w2 (f u)) (hp : ∀ z u, post z u → post2 z (f u)) : zHl l y w rm K D tA av L.flatten sz post2 w2 mc ms := by
  unfold zMl Met at h
  unfold zHl Met
  refine MetFree.mono h (fun a s q => ⟨q.1, fr_in c q.2.1⟩) (fun _ _ _ _ _ q => q) ?_
  rintro a s o t ⟨ha, hq, hZ⟩ ⟨⟨⟨r, u, ho, ⟨hr, hp1⟩, hB⟩, hF⟩, Lo, hFE, hLo⟩
  refine ⟨⟨⟨r, (u.1, f u.2), ho, ⟨hr, hp _ _ hp1⟩, ?_⟩, fr_F c hq hF⟩, Lo, hFE, fun z hz => fr_A c hq _ (hLo z hz)⟩
  have h2 := fr_out c b hq hF hB
  rw [hw] at h2
  exact h2
/-- a contract that may throw, framed -/
theorem zX_fr {S SX T TX : Type} {post : Int → S → Prop} {ws' : S → va_W} {px : String → SX → Prop} {wx : SX → va_W} (h : zXi l y w rm K D tA av wc sz post ws' px wx mc ms) {Lc' Lf : S → List va_W} {Lx Lfx : SX → List va_W} (c : zCut wc L Lc Lr is) (b : zBack ws' Lr Lc' Lf isF) (bx : zBack wx Lr Lx Lfx isX) {post2 : Int → T → Prop} {w2 : T → va_W} {px2 : String → TX → Prop} {wx2 : TX → va_W} (f : S → T) (fx : SX → TX) (hw : ∀ u, (Lf u).flatten = w2 (f u)) (hwx : ∀ u, (Lfx u).flatten = wx2 (fx u)) (hp : ∀ z u, post z u → post2 z (f u)) (hpx : ∀ E u, px E u → px2 E (fx u)) : zXi l y w rm K D tA av L.flatten sz post2 w2 px2 wx2 mc ms := by
  unfold zXi vx_Met at h
  unfold zXi vx_Met
  refine MetFree.mono h (fun a s q => ⟨q.1, fr_inX c q.2⟩) (fun _ _ _ _ _ q => q) ?_
  rintro a s o t ⟨ha, hq, hZ⟩ (⟨⟨⟨r, u, ho, ⟨hr, hp1⟩, hB⟩, hF⟩, Lo, hFE, hLo⟩ | ⟨q9, ho, E, ce, Lo, ⟨u, hpx1, ⟨hE, hB⟩, hF⟩, h1, h2, h3, h4, h5, h6⟩)
  · refine Or.inl ⟨⟨⟨r, (u.1, f u.2), ho, ⟨hr, hp _ _ hp1⟩, ?_⟩, fr_F c hq hF⟩, Lo, hFE, fun z hz => fr_A c hq _ (hLo z hz)⟩
    have h2 := fr_out c b hq hF hB
    rw [hw] at h2
    exact h2
  · refine Or.inr ⟨q9, ho, E, ce, Lo, ⟨(u.1, fx u.2), hpx _ _ hpx1, ⟨hE, ?_⟩, fr_F c hq hF⟩, h1, h2, h3, h4, h5, fun z hz => fr_A c hq _ (h6 z hz)⟩
    have h9 := fr_out c bx hq hF hB
    rw [hwx] at h9
    exact h9
/-- one that can't throw here -/
theorem zH_X {S SX T : Type} {post : Int → S → Prop} {ws' : S → va_W} {px : String → SX → Prop} {wx : SX → va_W} (h : zXi l y w rm K D tA av wc sz post ws' px wx mc ms) {Lc' Lf : S → List va_W} (c : zCut wc L Lc Lr is) (b : zBack ws' Lr Lc' Lf isF) {post2 : Int → T → Prop} {w2 : T → va_W} (f : S → T) (hw : ∀ u, (Lf u).flatten = w2 (f u)) (hp : ∀ z u, post z u → post2 z (f u)) (hno : ∀ E u, ¬ px E u) : zHi l y w rm K D tA av L.flatten sz post2 w2 mc ms := by
  unfold zXi vx_Met at h
  unfold zHi Met
  refine MetFree.mono h (fun a s q => ⟨q.1, fr_inX c q.2⟩) (fun _ _ _ _ _ q => q) ?_
  rintro a s o t ⟨ha, hq, hZ⟩ (⟨⟨⟨r, u, ho, ⟨hr, hp1⟩, hB⟩, hF⟩, Lo, hFE, hLo⟩ | ⟨q9, ho, E, ce, Lo, ⟨u, hpx1, ⟨hE, hB⟩, hF⟩, h1, h2, h3, h4, h5, h6⟩)
  · refine ⟨⟨⟨r, (u.1, f u.2), ho, ⟨hr, hp _ _ hp1⟩, ?_⟩, fr_F c hq hF⟩, Lo, hFE, fun z hz => fr_A c hq _ (hLo z hz)⟩
    have h2 := fr_out c b hq hF hB
    rw [hw] at h2
    exact h2
  · exact absurd hpx1 (hno _ _)
theorem zH_Xd {S SX T : Type} {post : UInt64 → S → Prop} {ws' : S → va_W} {px : String → SX → Prop} {wx : SX → va_W} (h : zXd l y w rm K D tA av wc sz post ws' px wx mc ms) {Lc' Lf : S → List va_W} (c : zCut wc L Lc Lr is) (b : zBack ws' Lr Lc' Lf isF) {post2 : UInt64 → T → Prop} {w2 : T → va_W} (f : S → T) (hw : ∀ u, (Lf u).flatten = w2 (f u)) (hp : ∀ z u, post z u → post2 z (f u)) (hno : ∀ E u, ¬ px E u) : zHd l y w rm K D tA av L.flatten sz post2 w2 mc ms := by
  unfold zXd vx_Met at h
  unfold zHd Met
  refine MetFree.mono h (fun a s q => ⟨q.1, fr_inX c q.2⟩) (fun _ _ _ _ _ q => q) ?_
  rintro a s o t ⟨ha, hq, hZ⟩ (⟨⟨⟨r, u, ho, ⟨hr, hp1⟩, hB⟩, hF⟩, Lo, hFE, hLo⟩ | ⟨q9, ho, E, ce, Lo, ⟨u, hpx1, ⟨hE, hB⟩, hF⟩, h1, h2, h3, h4, h5, h6⟩)
  · refine ⟨⟨⟨r, (u.1, f u.2), ho, ⟨hr, hp _ _ hp1⟩, ?_⟩, fr_F c hq hF⟩, Lo, hFE, fun z hz => fr_A c hq _ (hLo z hz)⟩
    have h2 := fr_out c b hq hF hB
    rw [hw] at h2
    exact h2
  · exact absurd hpx1 (hno _ _)
theorem zH_Xf {S SX T : Type} {post : UInt32 → S → Prop} {ws' : S → va_W} {px : String → SX → Prop} {wx : SX → va_W} (h : zXf l y w rm K D tA av wc sz post ws' px wx mc ms) {Lc' Lf : S → List va_W} (c : zCut wc L Lc Lr is) (b : zBack ws' Lr Lc' Lf isF) {post2 : UInt32 → T → Prop} {w2 : T → va_W} (f : S → T) (hw : ∀ u, (Lf u).flatten = w2 (f u)) (hp : ∀ z u, post z u → post2 z (f u)) (hno : ∀ E u, ¬ px E u) : zHf l y w rm K D tA av L.flatten sz post2 w2 mc ms := by
  unfold zXf vx_Met at h
  unfold zHf Met
  refine MetFree.mono h (fun a s q => ⟨q.1, fr_inX c q.2⟩) (fun _ _ _ _ _ q => q) ?_
  rintro a s o t ⟨ha, hq, hZ⟩ (⟨⟨⟨r, u, ho, ⟨hr, hp1⟩, hB⟩, hF⟩, Lo, hFE, hLo⟩ | ⟨q9, ho, E, ce, Lo, ⟨u, hpx1, ⟨hE, hB⟩, hF⟩, h1, h2, h3, h4, h5, h6⟩)
  · refine ⟨⟨⟨r, (u.1, f u.2), ho, ⟨hr, hp _ _ hp1⟩, ?_⟩, fr_F c hq hF⟩, Lo, hFE, fun z hz => fr_A c hq _ (hLo z hz)⟩
    have h2 := fr_out c b hq hF hB
    rw [hw] at h2
    exact h2
  · exact absurd hpx1 (hno _ _)
/-- one that can't throw here, over the same world -/
theorem zH_X1 {S SX : Type} {post : Int → S → Prop} {ws' : S → va_W} {px : String → SX → Prop} {wx : SX → va_W} (h : zXi l y w rm K D tA av wc sz post ws' px wx mc ms) (hno : ∀ E u, ¬ px E u) : zHi l y w rm K D tA av wc sz post ws' mc ms := by
  unfold zXi vx_Met at h
  unfold zHi Met
  refine MetFree.mono h (fun a s q => q) (fun _ _ _ _ _ q => q) ?_
  rintro a s o t ⟨ha, hq, hZ⟩ (h1 | ⟨q9, ho, E, ce, Lo, ⟨u, hpx1, ⟨hE, hB⟩, hF⟩, h1, h2, h3, h4, h5, h6⟩)
  · exact h1
  · exact absurd hpx1 (hno _ _)
/-- another post -/
theorem zH_p {S T : Type} {post : Int → S → Prop} {ws' : S → va_W} (h : zHi l y w rm K D tA av wc sz post ws' mc ms) {post2 : Int → T → Prop} {w2 : T → va_W} (f : S → T) (hw : ∀ u, ws' u = w2 (f u)) (hp : ∀ z u, post z u → post2 z (f u)) : zHi l y w rm K D tA av wc sz post2 w2 mc ms := by
  unfold zHi Met at h
  unfold zHi Met
  refine MetFree.mono h (fun a s q => q) (fun _ _ _ _ _ q => q) ?_
  rintro a s o t ⟨ha, hq, hZ⟩ ⟨⟨⟨r, u, ho, ⟨hr, hp1⟩, hB⟩, hF⟩, Lo, hFE, hLo⟩
  refine ⟨⟨⟨r, (u.1, f u.2), ho, ⟨hr, hp _ _ hp1⟩, ?_⟩, hF⟩, Lo, hFE, hLo⟩
  have h2 := hB
  rw [hw] at h2
  exact h2
end CV
