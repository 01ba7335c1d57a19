/-! ===== p57: the law's undone ===== -/
abbrev xSum (tA : Nat → ClassId) (qa : Nat) (f : Nat → Int64) : va_W := [(qa, .inl (tA 4, 9, .inr (.inl f)))]
def UnD (B N : Int) (g : GL) (f : Nat → Int64) (Ls : List (Nat → Int → Int)) (d : Int) : Prop := d = ((Ls.length : Nat) : Int) ∧ HtS g Ls ∧ (∀ x ∈ Ls, OKs B N x) ∧ ∀ (j : Nat) (x : Nat → Int → Int), Ls[j]? = some x → f (Ls.length - 1 - j) = lI (sumV x)
theorem UnD_0 {B N : Int} {g : GL} {f : Nat → Int64} (h : OKG B N g) : UnD B N g f [] 0 := ⟨rfl, HtS_0 h, fun x hx => absurd hx List.not_mem_nil, fun j x hx => by rw [List.getElem?_nil] at hx; cases hx⟩
theorem UnD_rd {B N B' N' : Int} {g g' : GL} {f : Nat → Int64} {Ls : List (Nat → Int → Int)} {d : Int} (h : UnD B N g f Ls d) (r : RDO B' N' g g') : UnD B N g' f Ls d := ⟨h.1, HtS_rd h.2.1 r, h.2.2⟩
theorem UnD_set {B N : Int} {g : GL} {f : Nat → Int64} {Ls : List (Nat → Int → Int)} {d : Int} (h : UnD B N g f Ls d) (x : Int64) : UnD B N g (vp_updL f d.toNat x) Ls d := by
  refine ⟨h.1, h.2.1, h.2.2.1, fun j y hy => ?_⟩
  have hj : j < Ls.length := (List.getElem?_eq_some_iff.mp hy).1
  have h1 := h.1
  unfold vp_updL
  rw [if_neg (by omega)]
  exact h.2.2.2 j y hy
theorem UnD_push {B N B2 N2 : Int} {g g' : GL} {f : Nat → Int64} {Ls : List (Nat → Int → Int)} {d : Int} (h : UnD B N g f Ls d) (hok : OKG B N g) (hp : PSH g g') (hd : d ≤ 7) (hB : B ≤ B2) (hN : N ≤ N2) : UnD B2 N2 g' (vp_updL f d.toNat (lI (sumV (GL_v g)))) (eSv (GL_v g) :: Ls) (d + 1) := by
  have h1 := h.1
  refine ⟨by rw [List.length_cons]; omega, HtS_push hok.2.1 (by omega) h.2.1 hp, fun x hx => ?_, fun j x hx => ?_⟩
  · rcases List.mem_cons.mp hx with e | e
    · rw [e]
      exact OKs_mono (show OKs B N (eSv (GL_v g)) from hok.1) hB hN
    · exact OKs_mono (h.2.2.1 x e) hB hN
  · cases j with
    | zero =>
      rw [List.getElem?_cons_zero] at hx
      have e := Option.some.inj hx
      unfold vp_updL
      rw [List.length_cons, if_pos (by omega), ← e]
      rfl
    | succ j =>
      rw [List.getElem?_cons_succ] at hx
      have hj : j < Ls.length := (List.getElem?_eq_some_iff.mp hx).1
      unfold vp_updL
      rw [List.length_cons, if_neg (by omega), show Ls.length + 1 - 1 - (j + 1) = Ls.length - 1 - j by omega]
      exact h.2.2.2 j x hx
theorem UnD_cons {B N : Int} {g : GL} {f : Nat → Int64} {Ls : List (Nat → Int → Int)} {d : Int} (h : UnD B N g f Ls d) (hd : 0 < d) : ∃ x L, Ls = x :: L := by
  cases Ls with
  | nil => have h1 := h.1; rw [List.length_nil] at h1; omega
  | cons x L => exact ⟨x, L, rfl⟩
theorem UnD_pop {B N : Int} {g g' : GL} {f : Nat → Int64} {x : Nat → Int → Int} {Ls : List (Nat → Int → Int)} {j : Int} (h : UnD B N g f (x :: Ls) (j + 1)) (hH : HtS g' Ls) : UnD B N g' f Ls (j + (-1) + 1) := by
  have h1 := h.1
  rw [List.length_cons] at h1
  refine ⟨by omega, hH, fun y hy => h.2.2.1 y (List.mem_cons_of_mem _ hy), fun i y hy => ?_⟩
  have hi : i < Ls.length := (List.getElem?_eq_some_iff.mp hy).1
  have q := h.2.2.2 (i + 1) y (by rw [List.getElem?_cons_succ]; exact hy)
  rw [List.length_cons, show Ls.length + 1 - 1 - (i + 1) = Ls.length - 1 - i by omega] at q
  exact q
theorem UnD_top {B N : Int} {g : GL} {f : Nat → Int64} {x : Nat → Int → Int} {Ls : List (Nat → Int → Int)} {j : Int} (h : UnD B N g f (x :: Ls) (j + 1)) : f j.toNat = lI (sumV x) := by
  have h1 := h.1
  rw [List.length_cons] at h1
  have q := h.2.2.2 0 x (by rw [List.getElem?_cons_zero])
  rw [List.length_cons, show Ls.length + 1 - 1 - 0 = j.toNat by omega] at q
  exact q
theorem PSH_rd {B N : Int} {g g1 g2 : GL} (r : RDO B N g g1) (h : PSH g1 g2) : PSH g g2 := by
  obtain ⟨-, e0, e1, e2, e3⟩ := r
  obtain ⟨h3, h4, h5⟩ := h
  refine ⟨?_, ?_, ?_⟩
  · rw [h3, e1]
  · rw [h4, e2]
  · rw [h5, e3, e2, e0]
theorem wOp_ap {B N : Int} {g g' : GL} {z : Int} (h0 : 0 ≤ GL_v g 0 0) (h : (z = -1 ∧ RDO B N g g' ∧ GL_v g 0 0 = 10) ∨ (z = GL_v g 0 0 ∧ GL_v g 0 0 < 10 ∧ DID B N g g' ∧ GL_v g' 0 0 = GL_v g 0 0 + 1)) : wOp B N g g' z := by
  rcases h with h | h
  · exact Or.inl ⟨by omega, h.2.1⟩
  · exact Or.inr ⟨by omega, h.2.2.1⟩
theorem ap_z {B N : Int} {g g' : GL} {z : Int} (h0 : 0 ≤ GL_v g 0 0) (h : (z = -1 ∧ RDO B N g g' ∧ GL_v g 0 0 = 10) ∨ (z = GL_v g 0 0 ∧ GL_v g 0 0 < 10 ∧ DID B N g g' ∧ GL_v g' 0 0 = GL_v g 0 0 + 1)) : -20 ≤ z ∧ z ≤ 2000000000 := by
  rcases h with ⟨h, -, -⟩ | ⟨h, h2, -, -⟩ <;> omega
section ZUN
variable {p : Program} {l : Launch} {e : Env} {R : Room} {s : State} {m : MethodId} {args : Array Value} {below : List Frame} {meth : Method} {c : Code} {H : Heap} {locs : List Loc} {cells slots : Nat} {Q : State → Prop}
variable {cc : ByteArray} {pc : Nat} {ls : Array Slot} {rest : List Value} {K : Nat → Nat} {D : va_G} {tA : Nat → ClassId} {L : List va_W} {A : Nat → Prop} {H0 : Heap}
theorem zz_newL (hx : p.tables.exec = Jvm.exec) (hb : c.code = cc) (harr : (Cond.arrayClass .long).before args s = true) (hK : zK D tA s) (hP : va_P D vwCl L.flatten H) (hD : va_D A L.flatten) (hS : va_S A H0 H locs) (hA : ∀ q, H0.size ≤ q → A q)
    (hcells : cells + 1 ≤ R.cells) (hslots : slots + 9 ≤ R.slots) (hd : decode cc pc = .ok (.newarray .long, 2))
    (kk : ∀ (q : Nat) (H1 : Heap), va_P D vwCl (xSum tA q (fun _ => 0) :: L).flatten H1 → va_D A (xSum tA q (fun _ => 0) :: L).flatten → va_S A H0 H1 locs → W p l e R s m args below meth c H1 locs (cells + 1) (slots + 9) Q (F0 m (pc + 2) ls (.ref q :: rest))) : W p l e R s m args below meth c H locs cells slots Q (F0 m pc ls (.int (iI 9) :: rest)) := by
  refine zn_arr (atype := .long) (ty := .long) 4 hx hb harr rfl rfl hK hP hD hS hA (a0 := (9, .inr (.inl (fun _ => 0)))) (N' := 9) (fun _ => rfl) (by decide) (by decide) (by decide) hcells hslots hd (fun q H1 hP1 hD1 hS1 => ?_)
  exact kk q H1 (zn_swP hP1) (zn_swD hD1) hS1
theorem zz_last9 (hx : p.tables.exec = Jvm.exec) (hb : c.code = cc) (hK : zK D tA s) {qa : Nat} {f : Nat → Int64} (hP : va_P D vwCl (xSum tA qa f :: L).flatten H) (hD : va_D A (xSum tA qa f :: L).flatten) (hS : va_S A H0 H locs) {k z : Int} (hk : 0 ≤ k ∧ k < 9) (hd : decode cc pc = .ok (.lastore, 1))
    (kk : ∀ (H1 : Heap) (locs1 : List Loc), va_P D vwCl (xSum tA qa (vp_updL f k.toNat (lI z)) :: L).flatten H1 → va_D A (xSum tA qa (vp_updL f k.toNat (lI z)) :: L).flatten → va_S A H0 H1 locs1 → W p l e R s m args below meth c H1 locs1 cells slots Q (F0 m (pc + 1) ls rest)) : W p l e R s m args below meth c H locs cells slots Q (F0 m pc ls (.long (lI z) :: .int (iI k) :: .ref qa :: rest)) := by
  refine va_last (a := qa) (cA := tA 4) (n := 9) (f := f) hx hb hK hP hD hS 0 4 rfl rfl (zin (k := k) (n := 9) hk (by decide)) hd (fun H1 locs1 hP1 hD1 hS1 => ?_)
  rw [iI_clamp (by omega)] at hP1 hD1
  exact kk H1 locs1 hP1 hD1 hS1
theorem zz_lald9 (hx : p.tables.exec = Jvm.exec) (hb : c.code = cc) (hK : zK D tA s) {qa : Nat} {f : Nat → Int64} (hP : va_P D vwCl (xSum tA qa f :: L).flatten H) {k : Int} {v : Int64} (hk : 0 ≤ k ∧ k < 9) (hv : f k.toNat = v) (hd : decode cc pc = .ok (.laload, 1))
    (kk : W p l e R s m args below meth c H locs cells slots Q (F0 m (pc + 1) ls (.long v :: rest))) : W p l e R s m args below meth c H locs cells slots Q (F0 m pc ls (.int (iI k) :: .ref qa :: rest)) := by
  refine va_lald (a := qa) (cA := tA 4) (n := 9) (f := f) hx hb hK hP 0 4 rfl rfl (zin (k := k) (n := 9) hk (by decide)) hd ?_
  rw [iI_clamp (by omega), hv]
  exact kk
end ZUN
theorem zP_sn {D : va_G} {a b : va_W} {H : Heap} (h : va_P D vwCl [a, b].flatten H) : va_P D vwCl b H := by
  have h1 : va_P D vwCl (a ++ [b].flatten) H := h
  exact zP_o (zap_Pc (zn_swP h1))
theorem zD_sn {A : Nat → Prop} {a b : va_W} (h : va_D A [a, b].flatten) : va_D A b := by
  have h1 : va_D A (a ++ [b].flatten) := h
  exact zD_o (zap_Dc (zn_swD h1))
theorem c_apG (l : Launch) (K : Nat → Nat) (D : va_G) (tA : Nat → ClassId) (a0 a1 : Nat) (sz : Nat) (lml : Int) (f : Int → Int) (tx : List Int) (x : Int) (hx9 : 0 ≤ x ∧ x ≤ 9) (hl : tx.length = 16) (htx : ∀ v ∈ tx, 0 ≤ v ∧ v ≤ 127) : zCr l yJ4_append_bf812 wsJ4_append_bf812 ({ frames := 5, cells := 1, slots := 34, locals := 112 }) K D tA [.ref a0, .int (iI x)] a0 (bSB tA 16 a0 a1 lml f tx) sz (fun (u : Nat) => True) (fun (u : Nat) => bSB tA 34 a0 u lml (zCpy (wrL f 0 tx) z0F 0 0 16) (tx ++ dgL x)) 1 34 := by
  have h := c_J4_append_bf812_G l K D tA a0 a1 sz (wrL f 0 tx) lml x hx9 (fun j j0 j1 => by rw [wrL_tF j j0 (by omega)]; exact tF_in htx j)
  have e : wrL (zCpy (wrL f 0 tx) z0F 0 0 16) 0 tx = zCpy (wrL f 0 tx) z0F 0 0 16 := by
    funext j
    by_cases q : 0 ≤ j ∧ j < 16
    · rw [wrL_tF j q.1 (by omega)]
      unfold zCpy
      rw [if_pos (by omega), show (0 : Int) + (j - 0) = j by omega, wrL_tF j q.1 (by omega)]
    · rw [wrL_out (by omega)]
  have e2 : wrL (zCpy (wrL f 0 tx) z0F 0 0 16) 16 (dgL x) = wrL (zCpy (wrL f 0 tx) z0F 0 0 16) 0 (tx ++ dgL x) := by
    have h3 := wrL_ap (zCpy (wrL f 0 tx) z0F 0 0 16) tx (dgL x)
    rw [e, show ((tx.length : Nat) : Int) = 16 by omega] at h3
    exact h3
  have e3 : (((tx ++ dgL x).length : Nat) : Int) = 17 := by
    have h4 := dgN_1 hx9.1 hx9.2
    unfold dgN at h4
    rw [List.length_append]
    omega
  rw [e2] at h
  show zCr l yJ4_append_bf812 wsJ4_append_bf812 ({ frames := 5, cells := 1, slots := 34, locals := 112 }) K D tA [.ref a0, .int (iI x)] a0 (bLinN tA 16 a0 a1 (wrL f 0 tx) lml ((tx.length : Nat) : Int)) sz (fun (u : Nat) => True) (fun (u : Nat) => bLinN tA 34 a0 u (wrL (zCpy (wrL f 0 tx) z0F 0 0 16) 0 (tx ++ dgL x)) lml (((tx ++ dgL x).length : Nat) : Int)) 1 34
  rw [e3, show ((tx.length : Nat) : Int) = 16 by omega]
  exact h
set_option maxHeartbeats 4000000 in
set_option maxRecDepth 20000 in
theorem q_L_undone {l : Launch} (hst : l.stackTraces = false) {K : Nat → Nat} {D : va_G} {tA : Nat → ClassId} {ad : Nat → Nat} {sz : Nat} {B N : Int} {g : GL} (hB : (0 ≤ B ∧ B ≤ 100000000) ∧ (0 ≤ N ∧ N ≤ 100000)) (hok : OKG B N g) (hB3 : B ≤ 50000000 ∧ N ≤ 50000) : zHi l yL_undone (wsL_undone ++ xL) ({ frames := 11, cells := 30000, slots := 180000, locals := 237 }) K D tA [.ref (K 12), .ref (ad 0)] (zW tA K ad g) sz (fun (z : Int) (g' : GL) => z = 1) (fun g' => zW tA K ad g') 30000 180000 := by
  refine zHi_ofC (cc := cL_undone) (maxL := 8) (by decide) rfl (fun z u h => zbool z (by have h1 : z = 1 := h; omega)) (Nat.le_of_ble_eq_true rfl) ?_
  intro p e s m args below meth c A Q ls hx hb hml hts hown hK hP hD hA hZ hret hl
  obtain ⟨H, hHe⟩ : ∃ H : Heap, H = s.heap := ⟨_, rfl⟩
  have hS : va_S A s.heap H [] := by rw [hHe]; exact va_S.rf
  rw [← hHe] at hP ⊢
  have hP := zP_i hP
  have hD := zD_i hD
  have hr : RDO B N g g := RDO_refl hok
  have hl : lv_has ls 8 [(0, .ref (K 12)), (1, .ref (ad 0))] := hl
  obtain ⟨hokv, hhn, hhc, hln, htx, hva, hcm, hlc, hlb⟩ := id hok
  obtain ⟨hsv, hnv⟩ := id hokv
  obtain ⟨hch, hu, hcc, hsp, hmo, hfg, hrg, hni, hfd, hmt, hld, hbr⟩ := SVk_out (show SVk B N (eSv (GL_v g)) from hsv)
  have hpp : 0 ≤ GL_v g 0 0 ∧ GL_v g 0 0 ≤ 10 := ⟨hch.1, hch.2.1⟩
  have hlg : 0 ≤ GL_v g 1 0 ∧ GL_v g 1 0 ≤ 20 := ⟨hch.2.2.1, hch.2.2.2.1⟩
  refine zz_bipush hx hb dL_undone_0 (by decide) ?_
  refine zz_newL hx hb (hts (.arrayClass .long) (by decide +kernel)) hK hP hD hS hA (by show _ + 1 ≤ 30000; omega) (by show _ + 9 ≤ 180000; omega) dL_undone_2 (fun qs_ H hP hD hS => ?_)
  generalize (fun _ => (0 : Int64) : Nat → Int64) = f0_ at hP hD
  refine lv_astore_n (lv' := [(2, .ref qs_), (0, .ref (K 12)), (1, .ref (ad 0))]) hx hb dL_undone_4 rfl hl (by decide) rfl (fun ls hl => ?_)
  refine zz_iconst hx hb dL_undone_5 ?_
  refine lv_istore_n (lv' := [(3, .int (iI 0)), (2, .ref qs_), (0, .ref (K 12)), (1, .ref (ad 0))]) hx hb dL_undone_6 rfl hl (by decide) rfl (fun ls hl => ?_)
  refine zz_iconst hx hb dL_undone_7 ?_
  refine lv_istore (lv' := [(4, .int (iI 0)), (3, .int (iI 0)), (2, .ref qs_), (0, .ref (K 12)), (1, .ref (ad 0))]) hx hb dL_undone_8 hl (by decide) rfl (fun ls hl => ?_)
  have L10 : ∀ (f9 : Nat) (i_ : Int) (d_ : Int) (f_ : Nat → Int64) (L_ : List (Nat → Int → Int)) (g10 : GL) (k9 : Nat) (n9 : Nat) (H : Heap) (locs : List Loc) (ls : Array Slot), (0 ≤ i_ ∧ i_ ≤ 7 ∧ 0 ≤ d_ ∧ d_ ≤ i_) → (OKG (B + 600000 * d_) (N + 60 * d_) g10) → (UnD (B + 600000 * d_) (N + 60 * d_) g10 f_ L_ d_) → (((k9 : Nat) : Int) ≤ 2 + 2300 * i_ ∧ ((n9 : Nat) : Int) ≤ 6 * (2 + 2300 * i_)) → (7 - i_).toNat < f9 → va_P D vwCl [xSum tA qs_ f_, zW tA K ad g10].flatten H → va_D A [xSum tA qs_ f_, zW tA K ad g10].flatten → va_S A s.heap H locs → lv_has ls 8 [(4, .int (iI i_)), (3, .int (iI d_)), (2, .ref qs_), (0, .ref (K 12)), (1, .ref (ad 0))] → W p l e (headSpec (wsL_undone ++ xL) ({ frames := 11, cells := 30000, slots := 180000, locals := 237 })).room s m args below meth c H locs k9 n9 Q (F0 m 10 ls []) := by
    intro f9
    induction f9 with
    | zero => intro i_ d_ f_ L_ g10 k9 n9 H locs ls hk hok9 hud hk9 hmz; exact absurd hmz (Nat.not_lt_zero _)
    | succ f9 ih10 =>
      intro i_ d_ f_ L_ g10 k9 n9 H locs ls hk hok9 hud hk9 hmz hP hD hS hl
      have hB9 : (0 ≤ (B + 600000 * d_) ∧ (B + 600000 * d_) ≤ 100000000) ∧ (0 ≤ (N + 60 * d_) ∧ (N + 60 * d_) ≤ 100000) := ⟨⟨by omega, by omega⟩, ⟨by omega, by omega⟩⟩
      have hr := RDO_refl hok9
      refine lv_iload hx hb dL_undone_10 (lv_at hl 0 rfl) ?_
      refine zz_bipush hx hb dL_undone_12 (by decide) ?_
      refine zz_icmp_ge (tgt := 341) hx hb dL_undone_14 (by decide) (by omega) (by decide) (fun c_14 => ?_) (fun c_14 => ?_)
      · refine lv_iload_n hx hb dL_undone_341 rfl (lv_at hl 1 rfl) ?_
        refine zz_iconst hx hb dL_undone_342 ?_
        refine zz_isub hx hb dL_undone_343 ?_
        refine lv_istore (lv' := [(4, .int (iI (d_ - 1))), (3, .int (iI d_)), (2, .ref qs_), (0, .ref (K 12)), (1, .ref (ad 0))]) hx hb dL_undone_344 hl (by decide) rfl (fun ls hl => ?_)
        have L346 : ∀ (f9 : Nat) (j_ : Int) (L2 : List (Nat → Int → Int)) (g346 : GL) (k9 : Nat) (n9 : Nat) (H : Heap) (locs : List Loc) (ls : Array Slot), (-1 ≤ j_ ∧ j_ ≤ 6) → (OKG (B + 600000 * d_) (N + 60 * d_) g346) → (UnD (B + 600000 * d_) (N + 60 * d_) g346 f_ L2 (j_ + 1)) → (((k9 : Nat) : Int) ≤ 17000 + 1100 * (7 - j_) ∧ ((n9 : Nat) : Int) ≤ 6 * (17000 + 1100 * (7 - j_))) → (j_ + 1).toNat < f9 → va_P D vwCl [xSum tA qs_ f_, zW tA K ad g346].flatten H → va_D A [xSum tA qs_ f_, zW tA K ad g346].flatten → va_S A s.heap H locs → lv_has ls 8 [(4, .int (iI j_)), (2, .ref qs_), (0, .ref (K 12)), (1, .ref (ad 0))] → W p l e (headSpec (wsL_undone ++ xL) ({ frames := 11, cells := 30000, slots := 180000, locals := 237 })).room s m args below meth c H locs k9 n9 Q (F0 m 346 ls []) := by
          intro f9
          induction f9 with
          | zero => intro j_ L2 g346 k9 n9 H locs ls hj hok8 hud2 hk9 hmz; exact absurd hmz (Nat.not_lt_zero _)
          | succ f9 ih346 =>
            intro j_ L2 g346 k9 n9 H locs ls hj hok8 hud2 hk9 hmz hP hD hS hl
            have hr := RDO_refl hok8
            refine lv_iload hx hb dL_undone_346 (lv_at hl 0 rfl) ?_
            refine zz_if_lt (tgt := 378) hx hb dL_undone_348 (by decide) (by omega) (fun c_348 => ?_) (fun c_348 => ?_)
            · refine zz_iconst hx hb dL_undone_378 ?_
              have hfin : (fun (z : Int) (g' : GL) => z = 1) (1 : Int) g346 := by
                exact rfl
              exact hret (1) g346 H locs _ _ _ _ (by omega) (by omega) dL_undone_379 hfin (zP_sn hP) (zD_sn hD) hS
            · obtain ⟨x9, L3, hL3⟩ := UnD_cons hud2 (by omega)
              subst hL3
              have hxs9 := hud2.2.2.1 x9 List.mem_cons_self
              have hH9 := hud2.2.1
              refine lv_aload_n hx hb dL_undone_351 rfl (lv_at hl 3 rfl) ?_
              refine zh_callSi_ch (As := [.ref (ad 0)]) (rest := []) (L := [xSum tA qs_ f_, zW tA K ad g346]) (Lc := [zW tA K ad g346]) (Lr := [xSum tA qs_ f_]) (Lc' := fun (u : GL) => [zW tA K ad u]) (Lf := fun (u : GL) => [xSum tA qs_ f_, zW tA K ad u]) (is := [1, 0]) (isF := [0, 1]) ⟨hx, hb, hml, hown, hts⟩ (q_L_undob hst hB9 hr.1   hxs9 hH9) (vx_cwSW 1 hts (gx_ww gL_undone_L_undo) rfl rfl rfl (by decide +kernel) ⟨Nat.le_of_ble_eq_true rfl, Nat.le_of_ble_eq_true rfl⟩) hK hP hD hS hA hZ ⟨(List.append_nil _).symm, rfl, (by decide)⟩ ⟨fun _ => (List.append_nil _).symm, fun _ => rfl, (by decide)⟩ rfl rfl hl.1 (Nat.le_of_ble_eq_true rfl) dL_undone_352 (by show _ + 1 ≤ 30000 ∧ _ + 6 ≤ 180000; omega) ?_
              intro z352_1 g352_0 H locs hp9 hP hD hS
              obtain ⟨hok7, hz7, hv9, hst9⟩ := hp9
              have hr := RDO_refl hok7
              refine zz_if_lt (tgt := 370) hx hb dL_undone_355 (by decide) (by omega) (fun c_355 => ?_) (fun c_355 => ?_)
              · exfalso
                omega
              · refine lv_aload_n hx hb dL_undone_358 rfl (lv_at hl 3 rfl) ?_
                refine zt_callSl (As := [.ref (ad 0)]) (rest := []) (L := [xSum tA qs_ f_, zW tA K ad g352_0]) (Lc := [zW tA K ad g352_0]) (Lr := [xSum tA qs_ f_]) (Lc' := fun (u : GL) => [zW tA K ad u]) (Lf := fun (u : GL) => [xSum tA qs_ f_, zW tA K ad u]) (is := [1, 0]) (isF := [0, 1]) ⟨hx, hb, hml, hown, hts⟩ (q_L_sum hst hB9 hr.1  ) (va_cwS 1 hts (gx_ww gL_undone_L_sum) rfl rfl rfl (by decide +kernel) ⟨Nat.le_of_ble_eq_true rfl, Nat.le_of_ble_eq_true rfl⟩) hK hP hD hS hA hZ ⟨(List.append_nil _).symm, rfl, (by decide)⟩ ⟨fun _ => (List.append_nil _).symm, fun _ => rfl, (by decide)⟩ rfl rfl hl.1 (Nat.le_of_ble_eq_true rfl) dL_undone_359 (by show _ + 1000 ≤ 30000 ∧ _ + 6000 ≤ 180000; omega) ?_
                intro z359_3 g359_2 H locs hp9 hP hD hS
                have q359 := hp9.2
                try rw [hr.2.1] at q359
                have hr := RDO_trans hr hp9.1
                clear hp9
                have hz359 : z359_3 = (sumV x9) := by rw [q359, hv9]; exact sumV_e x9
                subst hz359
                refine lv_aload_n hx hb dL_undone_362 rfl (lv_at hl 1 rfl) ?_
                refine lv_iload hx hb dL_undone_363 (lv_at hl 0 rfl) ?_
                refine zz_lald9 (v := lI (sumV x9)) hx hb hK hP (k := j_) ⟨by omega, by omega⟩ (by exact UnD_top hud2) dL_undone_365 ?_
                refine zz_lcmpE hx hb dL_undone_366 ?_
                refine zz_if_eq (tgt := 372) hx hb dL_undone_367 (by decide) (by decide) (fun c_367 => ?_) (fun c_367 => ?_)
                · refine zz_iinc (lv' := [(4, .int (iI (j_ + (-1)))), (2, .ref qs_), (0, .ref (K 12)), (1, .ref (ad 0))]) hx hb dL_undone_372 hl (k := 0) rfl (by decide) rfl (fun ls hl => ?_)
                  refine lv_goto (tgt := 346) hx hb dL_undone_375 (by decide) ?_
                  exact ih346 (j_ + (-1)) L3 g359_2 _ _ _ _ _ (by omega) (by exact hr.1) (by exact UnD_pop hud2 (HtS_rd hst9 hr)) (by omega) (by omega) hP hD hS (lv_sub hl [0, 1, 2, 3] rfl)
                · exact absurd c_367 (by decide)
        exact L346 _ (d_ - 1) L_ g10 _ _ _ _ _ (by omega) (by exact hok9) (by rw [show d_ - 1 + 1 = d_ by omega]; exact hud) (by omega) (Nat.lt_succ_self _) hP hD hS (lv_sub hl [0, 2, 3, 4] rfl)
      · refine lv_aload_n hx hb dL_undone_17 rfl (lv_at hl 3 rfl) ?_
        refine zz_bipush hx hb dL_undone_18 (by decide) ?_
        refine lv_iload hx hb dL_undone_20 (lv_at hl 0 rfl) ?_
        refine zz_iadd hx hb dL_undone_22 ?_
        refine zt_callSi (As := [.ref (K 12), .int (iI (24 + i_))]) (rest := []) (L := [xSum tA qs_ f_, zW tA K ad g10]) (Lc := [zW tA K ad g10]) (Lr := [xSum tA qs_ f_]) (Lc' := fun (u : GL) => [zW tA K ad u]) (Lf := fun (u : GL) => [xSum tA qs_ f_, zW tA K ad u]) (is := [1, 0]) (isF := [0, 1]) ⟨hx, hb, hml, hown, hts⟩ (q_L_cell hst hB9 hr.1 (24 + i_) (by omega) ⟨by omega, by omega⟩) (va_cwS 2 hts (gx_ww gL_undone_L_cell) rfl rfl rfl (by decide +kernel) ⟨Nat.le_of_ble_eq_true rfl, Nat.le_of_ble_eq_true rfl⟩) hK hP hD hS hA hZ ⟨(List.append_nil _).symm, rfl, (by decide)⟩ ⟨fun _ => (List.append_nil _).symm, fun _ => rfl, (by decide)⟩ rfl rfl hl.1 (Nat.le_of_ble_eq_true rfl) dL_undone_23 (by show _ + 0 ≤ 30000 ∧ _ + 0 ≤ 180000; omega) ?_
        intro z23_5 g23_4 H locs hp9 hP hD hS
        have q23 := hp9.2
        try rw [hr.2.1] at q23
        have hr := RDO_trans hr hp9.1
        clear hp9
        refine zz_iconst hx hb dL_undone_26 ?_
        refine zq_iushr (x := z23_5) (y := 1) hx hb dL_undone_27 (by decide) (by decide +kernel) (fun w27_7 hw27_7 => ?_)
        refine lv_istore (lv' := [(5, .int (iI w27_7)), (4, .int (iI i_)), (3, .int (iI d_)), (2, .ref qs_), (0, .ref (K 12)), (1, .ref (ad 0))]) hx hb dL_undone_28 hl (by decide) rfl (fun ls hl => ?_)
        refine lv_iload hx hb dL_undone_30 (lv_at hl 0 rfl) ?_
        refine zz_iconst hx hb dL_undone_32 ?_
        refine zq_iushr (x := w27_7) (y := 4) hx hb dL_undone_33 (by decide) (by decide +kernel) (fun w33_8 hw33_8 => ?_)
        refine lv_istore (lv' := [(6, .int (iI w33_8)), (5, .int (iI w27_7)), (4, .int (iI i_)), (3, .int (iI d_)), (2, .ref qs_), (0, .ref (K 12)), (1, .ref (ad 0))]) hx hb dL_undone_34 hl (by decide) rfl (fun ls hl => ?_)
        refine lv_aload_n hx hb dL_undone_36 rfl (lv_at hl 4 rfl) ?_
        refine lv_iload_n hx hb dL_undone_37 rfl (lv_at hl 3 rfl) ?_
        refine lv_aload_n hx hb dL_undone_38 rfl (lv_at hl 6 rfl) ?_
        refine zt_callSl (As := [.ref (ad 0)]) (rest := [.int (iI d_), .ref qs_]) (L := [xSum tA qs_ f_, zW tA K ad g23_4]) (Lc := [zW tA K ad g23_4]) (Lr := [xSum tA qs_ f_]) (Lc' := fun (u : GL) => [zW tA K ad u]) (Lf := fun (u : GL) => [xSum tA qs_ f_, zW tA K ad u]) (is := [1, 0]) (isF := [0, 1]) ⟨hx, hb, hml, hown, hts⟩ (q_L_sum hst hB9 hr.1  ) (va_cwS 1 hts (gx_ww gL_undone_L_sum) rfl rfl rfl (by decide +kernel) ⟨Nat.le_of_ble_eq_true rfl, Nat.le_of_ble_eq_true rfl⟩) hK hP hD hS hA hZ ⟨(List.append_nil _).symm, rfl, (by decide)⟩ ⟨fun _ => (List.append_nil _).symm, fun _ => rfl, (by decide)⟩ rfl rfl hl.1 (Nat.le_of_ble_eq_true rfl) dL_undone_39 (by show _ + 1000 ≤ 30000 ∧ _ + 6000 ≤ 180000; omega) ?_
        intro z39_9 g39_8 H locs hp9 hP hD hS
        have q39 := hp9.2
        try rw [hr.2.1] at q39
        have hr := RDO_trans hr hp9.1
        clear hp9
        have hz39 : z39_9 = (sumV (GL_v g10)) := by exact q39
        subst hz39
        refine zz_last9 hx hb hK hP hD hS (k := d_) ⟨by omega, by omega⟩ dL_undone_42 (fun H locs hP hD hS => ?_)
        have J304 : ∀ (is_ : Int) (g304 : GL) (k9 : Nat) (n9 : Nat) (H : Heap) (locs : List Loc) (ls : Array Slot), (wOp (B + 600000 * d_) (N + 60 * d_) g39_8 g304 is_) → (-20 ≤ is_ ∧ is_ ≤ 2000000000) → (((k9 : Nat) : Int) ≤ 2 + 2300 * i_ + 1150 ∧ ((n9 : Nat) : Int) ≤ 6 * (2 + 2300 * i_ + 1150)) → va_P D vwCl [xSum tA qs_ (vp_updL f_ d_.toNat (lI (sumV (GL_v g10)))), zW tA K ad g304].flatten H → va_D A [xSum tA qs_ (vp_updL f_ d_.toNat (lI (sumV (GL_v g10)))), zW tA K ad g304].flatten → va_S A s.heap H locs → lv_has ls 8 [(7, .int (iI is_)), (6, .int (iI w33_8)), (5, .int (iI w27_7)), (4, .int (iI i_)), (3, .int (iI d_)), (2, .ref qs_), (0, .ref (K 12)), (1, .ref (ad 0))] → W p l e (headSpec (wsL_undone ++ xL) ({ frames := 11, cells := 30000, slots := 180000, locals := 237 })).room s m args below meth c H locs k9 n9 Q (F0 m 304 ls []) := by
          intro is_ g304 k9 n9 H locs ls hw hzb hk9 hP hD hS hl
          refine lv_iload hx hb dL_undone_304 (lv_at hl 0 rfl) ?_
          refine zz_if_ge (tgt := 322) hx hb dL_undone_306 (by decide) (by omega) (fun c_306 => ?_) (fun c_306 => ?_)
          · refine lv_iload_n hx hb dL_undone_322 rfl (lv_at hl 4 rfl) ?_
            refine lv_iload hx hb dL_undone_323 (lv_at hl 0 rfl) ?_
            refine zz_if_ge (tgt := 332) hx hb dL_undone_325 (by decide) (by omega) (fun c_325 => ?_) (fun c_325 => ?_)
            · have hdid := (hw.resolve_left (fun h => absurd h.1 (by omega))).2
              refine zz_iconst hx hb dL_undone_332 ?_
              refine zz_iadd hx hb dL_undone_333 ?_
              refine lv_istore_n (lv' := [(3, .int (iI (d_ + 1))), (7, .int (iI is_)), (6, .int (iI w33_8)), (5, .int (iI w27_7)), (4, .int (iI i_)), (2, .ref qs_), (0, .ref (K 12)), (1, .ref (ad 0))]) hx hb dL_undone_334 rfl hl (by decide) rfl (fun ls hl => ?_)
              refine zz_iinc (lv' := [(4, .int (iI (i_ + 1))), (3, .int (iI (d_ + 1))), (7, .int (iI is_)), (6, .int (iI w33_8)), (5, .int (iI w27_7)), (2, .ref qs_), (0, .ref (K 12)), (1, .ref (ad 0))]) hx hb dL_undone_335 hl (k := 4) rfl (by decide) rfl (fun ls hl => ?_)
              refine lv_goto (tgt := 10) hx hb dL_undone_338 (by decide) ?_
              exact ih10 (i_ + 1) (d_ + 1) (vp_updL f_ d_.toNat (lI (sumV (GL_v g10)))) (eSv (GL_v g10) :: L_) g304 _ _ _ _ _ (by omega) (by exact OKG_mono hdid.1 (by omega) (by omega)) (by exact UnD_push hud hok9 (PSH_rd hr hdid.2) (by omega) (by omega) (by omega)) (by omega) (by omega) hP hD hS (lv_sub hl [0, 1, 5, 6, 7] rfl)
            · exfalso
              omega
          · have hr := RDO_trans hr (hw.resolve_right (fun h => absurd h.1 (by omega))).2
            refine lv_aload_n hx hb dL_undone_309 rfl (lv_at hl 7 rfl) ?_
            refine zt_callSl (As := [.ref (ad 0)]) (rest := []) (L := [xSum tA qs_ (vp_updL f_ d_.toNat (lI (sumV (GL_v g10)))), zW tA K ad g304]) (Lc := [zW tA K ad g304]) (Lr := [xSum tA qs_ (vp_updL f_ d_.toNat (lI (sumV (GL_v g10))))]) (Lc' := fun (u : GL) => [zW tA K ad u]) (Lf := fun (u : GL) => [xSum tA qs_ (vp_updL f_ d_.toNat (lI (sumV (GL_v g10)))), zW tA K ad u]) (is := [1, 0]) (isF := [0, 1]) ⟨hx, hb, hml, hown, hts⟩ (q_L_sum hst hB9 hr.1  ) (va_cwS 1 hts (gx_ww gL_undone_L_sum) rfl rfl rfl (by decide +kernel) ⟨Nat.le_of_ble_eq_true rfl, Nat.le_of_ble_eq_true rfl⟩) hK hP hD hS hA hZ ⟨(List.append_nil _).symm, rfl, (by decide)⟩ ⟨fun _ => (List.append_nil _).symm, fun _ => rfl, (by decide)⟩ rfl rfl hl.1 (Nat.le_of_ble_eq_true rfl) dL_undone_310 (by show _ + 1000 ≤ 30000 ∧ _ + 6000 ≤ 180000; omega) ?_
            intro z310_11 g310_10 H locs hp9 hP hD hS
            have q310 := hp9.2
            try rw [hr.2.1] at q310
            have hr := RDO_trans hr hp9.1
            clear hp9
            have hz310 : z310_11 = (sumV (GL_v g10)) := by exact q310
            subst hz310
            refine lv_aload_n hx hb dL_undone_313 rfl (lv_at hl 5 rfl) ?_
            refine lv_iload_n hx hb dL_undone_314 rfl (lv_at hl 4 rfl) ?_
            refine zz_lald9 (v := lI (sumV (GL_v g10))) hx hb hK hP (k := d_) ⟨by omega, by omega⟩ (by exact if_pos rfl) dL_undone_315 ?_
            refine zz_lcmpE hx hb dL_undone_316 ?_
            refine zz_if_eq (tgt := 322) hx hb dL_undone_317 (by decide) (by decide) (fun c_317 => ?_) (fun c_317 => ?_)
            · refine lv_iload_n hx hb dL_undone_322 rfl (lv_at hl 4 rfl) ?_
              refine lv_iload hx hb dL_undone_323 (lv_at hl 0 rfl) ?_
              refine zz_if_ge (tgt := 332) hx hb dL_undone_325 (by decide) (by omega) (fun c_325 => ?_) (fun c_325 => ?_)
              · exfalso
                omega
              · refine zz_iconst hx hb dL_undone_328 ?_
                refine lv_goto (tgt := 333) hx hb dL_undone_329 (by decide) ?_
                refine zz_iadd hx hb dL_undone_333 ?_
                refine lv_istore_n (lv' := [(3, .int (iI (d_ + 0))), (7, .int (iI is_)), (6, .int (iI w33_8)), (5, .int (iI w27_7)), (4, .int (iI i_)), (2, .ref qs_), (0, .ref (K 12)), (1, .ref (ad 0))]) hx hb dL_undone_334 rfl hl (by decide) rfl (fun ls hl => ?_)
                refine zz_iinc (lv' := [(4, .int (iI (i_ + 1))), (3, .int (iI (d_ + 0))), (7, .int (iI is_)), (6, .int (iI w33_8)), (5, .int (iI w27_7)), (2, .ref qs_), (0, .ref (K 12)), (1, .ref (ad 0))]) hx hb dL_undone_335 hl (k := 4) rfl (by decide) rfl (fun ls hl => ?_)
                refine lv_goto (tgt := 10) hx hb dL_undone_338 (by decide) ?_
                exact ih10 (i_ + 1) (d_ + 0) (vp_updL f_ d_.toNat (lI (sumV (GL_v g10)))) L_ g310_10 _ _ _ _ _ (by omega) (by rw [Int.add_zero]; exact hr.1) (by rw [Int.add_zero]; exact UnD_set (UnD_rd hud hr) _) (by omega) (by omega) hP hD hS (lv_sub hl [0, 1, 5, 6, 7] rfl)
            · exact absurd c_317 (by decide)
        refine lv_iload hx hb dL_undone_43 (lv_at hl 1 rfl) ?_
        refine zz_bipush hx hb dL_undone_45 (by decide) ?_
        refine zz_irem hx hb dL_undone_47 (by omega) (by decide) ?_
        rcases (show (w27_7 % 10) = 0 ∨ (w27_7 % 10) = 1 ∨ (w27_7 % 10) = 2 ∨ (w27_7 % 10) = 3 ∨ (w27_7 % 10) = 4 ∨ (w27_7 % 10) = 5 ∨ (w27_7 % 10) = 6 ∨ (w27_7 % 10) = 7 ∨ ((w27_7 % 10) < 0 ∨ 7 < (w27_7 % 10)) by omega) with c_48 | c_48 | c_48 | c_48 | c_48 | c_48 | c_48 | c_48 | c_48
        · refine zz_tsw (k := 0) (tgt := 96) hx hb dL_undone_48 c_48 (by decide) (by decide) (by decide) rfl (by decide) ?_
          refine lv_aload_n hx hb dL_undone_96 rfl (lv_at hl 6 rfl) ?_
          refine zh_callSi_ch (As := [.ref (ad 0)]) (rest := []) (L := [xSum tA qs_ (vp_updL f_ d_.toNat (lI (sumV (GL_v g10)))), zW tA K ad g39_8]) (Lc := [zW tA K ad g39_8]) (Lr := [xSum tA qs_ (vp_updL f_ d_.toNat (lI (sumV (GL_v g10))))]) (Lc' := fun (u : GL) => [zW tA K ad u]) (Lf := fun (u : GL) => [xSum tA qs_ (vp_updL f_ d_.toNat (lI (sumV (GL_v g10)))), zW tA K ad u]) (is := [1, 0]) (isF := [0, 1]) ⟨hx, hb, hml, hown, hts⟩ (q_L_addPort hst hB9 hr.1  ) (vx_cwSW 1 hts (gx_ww gL_undone_L_addPort) rfl rfl rfl (by decide +kernel) ⟨Nat.le_of_ble_eq_true rfl, Nat.le_of_ble_eq_true rfl⟩) hK hP hD hS hA hZ ⟨(List.append_nil _).symm, rfl, (by decide)⟩ ⟨fun _ => (List.append_nil _).symm, fun _ => rfl, (by decide)⟩ rfl rfl hl.1 (Nat.le_of_ble_eq_true rfl) dL_undone_97 (by show _ + 1 ≤ 30000 ∧ _ + 6 ≤ 180000; omega) ?_
          intro z97_13 g97_12 H locs hp9 hP hD hS
          have hw := wOp_ap hr.1.1.1.1.1 hp9
          have hzb := ap_z hr.1.1.1.1.1 hp9
          refine lv_istore (lv' := [(7, .int (iI z97_13)), (6, .int (iI w33_8)), (5, .int (iI w27_7)), (4, .int (iI i_)), (3, .int (iI d_)), (2, .ref qs_), (0, .ref (K 12)), (1, .ref (ad 0))]) hx hb dL_undone_100 hl (by decide) rfl (fun ls hl => ?_)
          refine lv_goto (tgt := 304) hx hb dL_undone_102 (by decide) ?_
          exact J304 z97_13 g97_12 _ _ _ _ _ (by exact hw) (by exact hzb) (by omega) hP hD hS (lv_sub hl [0, 1, 2, 3, 4, 5, 6, 7] rfl)
        · refine zz_tsw (k := 1) (tgt := 105) hx hb dL_undone_48 c_48 (by decide) (by decide) (by decide) rfl (by decide) ?_
          refine lv_aload_n hx hb dL_undone_105 rfl (lv_at hl 6 rfl) ?_
          refine lv_iload hx hb dL_undone_106 (lv_at hl 0 rfl) ?_
          refine zz_bipush hx hb dL_undone_108 (by decide) ?_
          refine zz_irem hx hb dL_undone_110 (by omega) (by decide) ?_
          refine lv_iload hx hb dL_undone_111 (lv_at hl 0 rfl) ?_
          refine zz_iconst hx hb dL_undone_113 ?_
          refine zq_iushr (x := w33_8) (y := 4) hx hb dL_undone_114 (by decide) (by decide +kernel) (fun w114_15 hw114_15 => ?_)
          refine zz_bipush hx hb dL_undone_115 (by decide) ?_
          refine zz_irem hx hb dL_undone_117 (by omega) (by decide) ?_
          refine lv_iload hx hb dL_undone_118 (lv_at hl 0 rfl) ?_
          refine zz_bipush hx hb dL_undone_120 (by decide) ?_
          refine zq_iushr (x := w33_8) (y := 8) hx hb dL_undone_122 (by decide) (by decide +kernel) (fun w122_16 hw122_16 => ?_)
          refine zz_bipush hx hb dL_undone_123 (by decide) ?_
          refine zz_irem hx hb dL_undone_125 (by omega) (by decide) ?_
          refine lv_iload hx hb dL_undone_126 (lv_at hl 0 rfl) ?_
          refine zz_bipush hx hb dL_undone_128 (by decide) ?_
          refine zq_iushr (x := w33_8) (y := 15) hx hb dL_undone_130 (by decide) (by decide +kernel) (fun w130_17 hw130_17 => ?_)
          refine zz_bipush hx hb dL_undone_131 (by decide) ?_
          refine zz_irem hx hb dL_undone_133 (by omega) (by decide) ?_
          refine zh_callSi_ch (As := [.ref (ad 0), .int (iI (w33_8 % 9)), .int (iI (w114_15 % 9)), .int (iI (w122_16 % 101)), .int (iI (w130_17 % 22))]) (rest := []) (L := [xSum tA qs_ (vp_updL f_ d_.toNat (lI (sumV (GL_v g10)))), zW tA K ad g39_8]) (Lc := [zW tA K ad g39_8]) (Lr := [xSum tA qs_ (vp_updL f_ d_.toNat (lI (sumV (GL_v g10))))]) (Lc' := fun (u : GL) => [zW tA K ad u]) (Lf := fun (u : GL) => [xSum tA qs_ (vp_updL f_ d_.toNat (lI (sumV (GL_v g10)))), zW tA K ad u]) (is := [1, 0]) (isF := [0, 1]) ⟨hx, hb, hml, hown, hts⟩ (q_L_addLegb hst hB9 hr.1 (w33_8 % 9) (w114_15 % 9) (w122_16 % 101) (w130_17 % 22) (by omega) (by omega) (by omega) (by omega)) (vx_cwSW 5 hts (gx_ww gL_undone_L_addLeg) rfl rfl rfl (by decide +kernel) ⟨Nat.le_of_ble_eq_true rfl, Nat.le_of_ble_eq_true rfl⟩) hK hP hD hS hA hZ ⟨(List.append_nil _).symm, rfl, (by decide)⟩ ⟨fun _ => (List.append_nil _).symm, fun _ => rfl, (by decide)⟩ rfl rfl hl.1 (Nat.le_of_ble_eq_true rfl) dL_undone_134 (by show _ + 1 ≤ 30000 ∧ _ + 6 ≤ 180000; omega) ?_
          intro z134_18 g134_17 H locs hp9 hP hD hS
          have hw := (hp9.1 : wOp (B + 600000 * d_) (N + 60 * d_) _ _ _)
          have hzb := hp9.2.2.1
          refine lv_istore (lv' := [(7, .int (iI z134_18)), (6, .int (iI w33_8)), (5, .int (iI w27_7)), (4, .int (iI i_)), (3, .int (iI d_)), (2, .ref qs_), (0, .ref (K 12)), (1, .ref (ad 0))]) hx hb dL_undone_137 hl (by decide) rfl (fun ls hl => ?_)
          refine lv_goto (tgt := 304) hx hb dL_undone_139 (by decide) ?_
          exact J304 z134_18 g134_17 _ _ _ _ _ (by exact hw) (by exact hzb) (by omega) hP hD hS (lv_sub hl [0, 1, 2, 3, 4, 5, 6, 7] rfl)
        · refine zz_tsw (k := 2) (tgt := 142) hx hb dL_undone_48 c_48 (by decide) (by decide) (by decide) rfl (by decide) ?_
          refine lv_aload_n hx hb dL_undone_142 rfl (lv_at hl 6 rfl) ?_
          refine lv_iload hx hb dL_undone_143 (lv_at hl 0 rfl) ?_
          refine zz_bipush hx hb dL_undone_145 (by decide) ?_
          refine zz_irem hx hb dL_undone_147 (by omega) (by decide) ?_
          refine lv_iload hx hb dL_undone_148 (lv_at hl 0 rfl) ?_
          refine zz_iconst hx hb dL_undone_150 ?_
          refine zq_iushr (x := w33_8) (y := 4) hx hb dL_undone_151 (by decide) (by decide +kernel) (fun w151_20 hw151_20 => ?_)
          refine zz_bipush hx hb dL_undone_152 (by decide) ?_
          refine zz_irem hx hb dL_undone_154 (by omega) (by decide) ?_
          refine zh_callSi_ch (As := [.ref (ad 0), .int (iI (w33_8 % 9)), .int (iI (w151_20 % 9))]) (rest := []) (L := [xSum tA qs_ (vp_updL f_ d_.toNat (lI (sumV (GL_v g10)))), zW tA K ad g39_8]) (Lc := [zW tA K ad g39_8]) (Lr := [xSum tA qs_ (vp_updL f_ d_.toNat (lI (sumV (GL_v g10))))]) (Lc' := fun (u : GL) => [zW tA K ad u]) (Lf := fun (u : GL) => [xSum tA qs_ (vp_updL f_ d_.toNat (lI (sumV (GL_v g10)))), zW tA K ad u]) (is := [1, 0]) (isF := [0, 1]) ⟨hx, hb, hml, hown, hts⟩ (q_L_removeLegb hst hB9 hr.1 (w33_8 % 9) (w151_20 % 9) (by omega) (by omega)) (vx_cwSW 3 hts (gx_ww gL_undone_L_removeLeg) rfl rfl rfl (by decide +kernel) ⟨Nat.le_of_ble_eq_true rfl, Nat.le_of_ble_eq_true rfl⟩) hK hP hD hS hA hZ ⟨(List.append_nil _).symm, rfl, (by decide)⟩ ⟨fun _ => (List.append_nil _).symm, fun _ => rfl, (by decide)⟩ rfl rfl hl.1 (Nat.le_of_ble_eq_true rfl) dL_undone_155 (by show _ + 1 ≤ 30000 ∧ _ + 6 ≤ 180000; omega) ?_
          intro z155_21 g155_20 H locs hp9 hP hD hS
          have hw := (hp9.1 : wOp (B + 600000 * d_) (N + 60 * d_) _ _ _)
          have hzb := hp9.2.2.1
          refine lv_istore (lv' := [(7, .int (iI z155_21)), (6, .int (iI w33_8)), (5, .int (iI w27_7)), (4, .int (iI i_)), (3, .int (iI d_)), (2, .ref qs_), (0, .ref (K 12)), (1, .ref (ad 0))]) hx hb dL_undone_158 hl (by decide) rfl (fun ls hl => ?_)
          refine lv_goto (tgt := 304) hx hb dL_undone_160 (by decide) ?_
          exact J304 z155_21 g155_20 _ _ _ _ _ (by exact hw) (by exact hzb) (by omega) hP hD hS (lv_sub hl [0, 1, 2, 3, 4, 5, 6, 7] rfl)
        · refine zz_tsw (k := 3) (tgt := 163) hx hb dL_undone_48 c_48 (by decide) (by decide) (by decide) rfl (by decide) ?_
          refine lv_aload_n hx hb dL_undone_163 rfl (lv_at hl 6 rfl) ?_
          refine lv_iload hx hb dL_undone_164 (lv_at hl 0 rfl) ?_
          refine zz_bipush hx hb dL_undone_166 (by decide) ?_
          refine zz_irem hx hb dL_undone_168 (by omega) (by decide) ?_
          refine lv_iload hx hb dL_undone_169 (lv_at hl 0 rfl) ?_
          refine zz_iconst hx hb dL_undone_171 ?_
          refine zq_iushr (x := w33_8) (y := 4) hx hb dL_undone_172 (by decide) (by decide +kernel) (fun w172_23 hw172_23 => ?_)
          refine zz_bipush hx hb dL_undone_173 (by decide) ?_
          refine zz_irem hx hb dL_undone_175 (by omega) (by decide) ?_
          refine lv_iload hx hb dL_undone_176 (lv_at hl 0 rfl) ?_
          refine zz_bipush hx hb dL_undone_178 (by decide) ?_
          refine zq_iushr (x := w33_8) (y := 8) hx hb dL_undone_180 (by decide) (by decide +kernel) (fun w180_24 hw180_24 => ?_)
          refine zz_sipush hx hb dL_undone_181 (by decide) ?_
          refine zz_irem hx hb dL_undone_184 (by omega) (by decide) ?_
          refine zh_callSi_ch (As := [.ref (ad 0), .int (iI (w33_8 % 9)), .int (iI (w172_23 % 9)), .int (iI (w180_24 % 10001))]) (rest := []) (L := [xSum tA qs_ (vp_updL f_ d_.toNat (lI (sumV (GL_v g10)))), zW tA K ad g39_8]) (Lc := [zW tA K ad g39_8]) (Lr := [xSum tA qs_ (vp_updL f_ d_.toNat (lI (sumV (GL_v g10))))]) (Lc' := fun (u : GL) => [zW tA K ad u]) (Lf := fun (u : GL) => [xSum tA qs_ (vp_updL f_ d_.toNat (lI (sumV (GL_v g10)))), zW tA K ad u]) (is := [1, 0]) (isF := [0, 1]) ⟨hx, hb, hml, hown, hts⟩ (q_L_subscribeb hst hB9 hr.1 (w33_8 % 9) (w172_23 % 9) (w180_24 % 10001) (by omega) (by omega) (by omega)) (vx_cwSW 4 hts (gx_ww gL_undone_L_subscribe) rfl rfl rfl (by decide +kernel) ⟨Nat.le_of_ble_eq_true rfl, Nat.le_of_ble_eq_true rfl⟩) hK hP hD hS hA hZ ⟨(List.append_nil _).symm, rfl, (by decide)⟩ ⟨fun _ => (List.append_nil _).symm, fun _ => rfl, (by decide)⟩ rfl rfl hl.1 (Nat.le_of_ble_eq_true rfl) dL_undone_185 (by show _ + 1 ≤ 30000 ∧ _ + 6 ≤ 180000; omega) ?_
          intro z185_25 g185_24 H locs hp9 hP hD hS
          have hw := (hp9.1 : wOp (B + 600000 * d_) (N + 60 * d_) _ _ _)
          have hzb := hp9.2.2.1
          refine lv_istore (lv' := [(7, .int (iI z185_25)), (6, .int (iI w33_8)), (5, .int (iI w27_7)), (4, .int (iI i_)), (3, .int (iI d_)), (2, .ref qs_), (0, .ref (K 12)), (1, .ref (ad 0))]) hx hb dL_undone_188 hl (by decide) rfl (fun ls hl => ?_)
          refine lv_goto (tgt := 304) hx hb dL_undone_190 (by decide) ?_
          exact J304 z185_25 g185_24 _ _ _ _ _ (by exact hw) (by exact hzb) (by omega) hP hD hS (lv_sub hl [0, 1, 2, 3, 4, 5, 6, 7] rfl)
        · refine zz_tsw (k := 4) (tgt := 193) hx hb dL_undone_48 c_48 (by decide) (by decide) (by decide) rfl (by decide) ?_
          refine lv_aload_n hx hb dL_undone_193 rfl (lv_at hl 6 rfl) ?_
          refine lv_iload hx hb dL_undone_194 (lv_at hl 0 rfl) ?_
          refine zz_bipush hx hb dL_undone_196 (by decide) ?_
          refine zz_irem hx hb dL_undone_198 (by omega) (by decide) ?_
          refine zh_callSi_ch (As := [.ref (ad 0), .int (iI (w33_8 % 7))]) (rest := []) (L := [xSum tA qs_ (vp_updL f_ d_.toNat (lI (sumV (GL_v g10)))), zW tA K ad g39_8]) (Lc := [zW tA K ad g39_8]) (Lr := [xSum tA qs_ (vp_updL f_ d_.toNat (lI (sumV (GL_v g10))))]) (Lc' := fun (u : GL) => [zW tA K ad u]) (Lf := fun (u : GL) => [xSum tA qs_ (vp_updL f_ d_.toNat (lI (sumV (GL_v g10)))), zW tA K ad u]) (is := [1, 0]) (isF := [0, 1]) ⟨hx, hb, hml, hown, hts⟩ (q_L_leavesb hst hB9 hr.1 (w33_8 % 7) (by omega)) (vx_cwSW 2 hts (gx_ww gL_undone_L_leaves) rfl rfl rfl (by decide +kernel) ⟨Nat.le_of_ble_eq_true rfl, Nat.le_of_ble_eq_true rfl⟩) hK hP hD hS hA hZ ⟨(List.append_nil _).symm, rfl, (by decide)⟩ ⟨fun _ => (List.append_nil _).symm, fun _ => rfl, (by decide)⟩ rfl rfl hl.1 (Nat.le_of_ble_eq_true rfl) dL_undone_199 (by show _ + 1 ≤ 30000 ∧ _ + 6 ≤ 180000; omega) ?_
          intro z199_27 g199_26 H locs hp9 hP hD hS
          have hw := (hp9.1 : wOp (B + 600000 * d_) (N + 60 * d_) _ _ _)
          have hzb := hp9.2.2.1
          refine lv_istore (lv' := [(7, .int (iI z199_27)), (6, .int (iI w33_8)), (5, .int (iI w27_7)), (4, .int (iI i_)), (3, .int (iI d_)), (2, .ref qs_), (0, .ref (K 12)), (1, .ref (ad 0))]) hx hb dL_undone_202 hl (by decide) rfl (fun ls hl => ?_)
          refine lv_goto (tgt := 304) hx hb dL_undone_204 (by decide) ?_
          exact J304 z199_27 g199_26 _ _ _ _ _ (by exact hw) (by exact hzb) (by omega) hP hD hS (lv_sub hl [0, 1, 2, 3, 4, 5, 6, 7] rfl)
        · refine zz_tsw (k := 5) (tgt := 207) hx hb dL_undone_48 c_48 (by decide) (by decide) (by decide) rfl (by decide) ?_
          refine lv_aload_n hx hb dL_undone_207 rfl (lv_at hl 6 rfl) ?_
          refine lv_iload hx hb dL_undone_208 (lv_at hl 0 rfl) ?_
          refine zz_bipush hx hb dL_undone_210 (by decide) ?_
          refine zz_irem hx hb dL_undone_212 (by omega) (by decide) ?_
          refine lv_iload hx hb dL_undone_213 (lv_at hl 0 rfl) ?_
          refine zz_iconst hx hb dL_undone_215 ?_
          refine zq_iushr (x := w33_8) (y := 4) hx hb dL_undone_216 (by decide) (by decide +kernel) (fun w216_29 hw216_29 => ?_)
          refine zz_sipush hx hb dL_undone_217 (by decide) ?_
          refine zz_irem hx hb dL_undone_220 (by omega) (by decide) ?_
          refine zh_callSi_ch (As := [.ref (ad 0), .int (iI (w33_8 % 7)), .int (iI (w216_29 % 10001))]) (rest := []) (L := [xSum tA qs_ (vp_updL f_ d_.toNat (lI (sumV (GL_v g10)))), zW tA K ad g39_8]) (Lc := [zW tA K ad g39_8]) (Lr := [xSum tA qs_ (vp_updL f_ d_.toNat (lI (sumV (GL_v g10))))]) (Lc' := fun (u : GL) => [zW tA K ad u]) (Lf := fun (u : GL) => [xSum tA qs_ (vp_updL f_ d_.toNat (lI (sumV (GL_v g10)))), zW tA K ad u]) (is := [1, 0]) (isF := [0, 1]) ⟨hx, hb, hml, hown, hts⟩ (q_L_depositb hst hB9 hr.1 (w33_8 % 7) (w216_29 % 10001) (by omega) (by omega)) (vx_cwSW 3 hts (gx_ww gL_undone_L_deposit) rfl rfl rfl (by decide +kernel) ⟨Nat.le_of_ble_eq_true rfl, Nat.le_of_ble_eq_true rfl⟩) hK hP hD hS hA hZ ⟨(List.append_nil _).symm, rfl, (by decide)⟩ ⟨fun _ => (List.append_nil _).symm, fun _ => rfl, (by decide)⟩ rfl rfl hl.1 (Nat.le_of_ble_eq_true rfl) dL_undone_221 (by show _ + 1 ≤ 30000 ∧ _ + 6 ≤ 180000; omega) ?_
          intro z221_30 g221_29 H locs hp9 hP hD hS
          have hw := (hp9.1 : wOp (B + 600000 * d_) (N + 60 * d_) _ _ _)
          have hzb := hp9.2.2.1
          refine lv_istore (lv' := [(7, .int (iI z221_30)), (6, .int (iI w33_8)), (5, .int (iI w27_7)), (4, .int (iI i_)), (3, .int (iI d_)), (2, .ref qs_), (0, .ref (K 12)), (1, .ref (ad 0))]) hx hb dL_undone_224 hl (by decide) rfl (fun ls hl => ?_)
          refine lv_goto (tgt := 304) hx hb dL_undone_226 (by decide) ?_
          exact J304 z221_30 g221_29 _ _ _ _ _ (by exact hw) (by exact hzb) (by omega) hP hD hS (lv_sub hl [0, 1, 2, 3, 4, 5, 6, 7] rfl)
        · refine zz_tsw (k := 6) (tgt := 229) hx hb dL_undone_48 c_48 (by decide) (by decide) (by decide) rfl (by decide) ?_
          refine lv_aload_n hx hb dL_undone_229 rfl (lv_at hl 6 rfl) ?_
          refine lv_iload hx hb dL_undone_230 (lv_at hl 0 rfl) ?_
          refine zz_bipush hx hb dL_undone_232 (by decide) ?_
          refine zz_irem hx hb dL_undone_234 (by omega) (by decide) ?_
          refine zh_callSi_ch (As := [.ref (ad 0), .int (iI (w33_8 % 11))]) (rest := []) (L := [xSum tA qs_ (vp_updL f_ d_.toNat (lI (sumV (GL_v g10)))), zW tA K ad g39_8]) (Lc := [zW tA K ad g39_8]) (Lr := [xSum tA qs_ (vp_updL f_ d_.toNat (lI (sumV (GL_v g10))))]) (Lc' := fun (u : GL) => [zW tA K ad u]) (Lf := fun (u : GL) => [xSum tA qs_ (vp_updL f_ d_.toNat (lI (sumV (GL_v g10)))), zW tA K ad u]) (is := [1, 0]) (isF := [0, 1]) ⟨hx, hb, hml, hown, hts⟩ (q_L_setFogb hst hB9 hr.1 (w33_8 % 11) (by omega)) (vx_cwSW 2 hts (gx_ww gL_undone_L_setFog) rfl rfl rfl (by decide +kernel) ⟨Nat.le_of_ble_eq_true rfl, Nat.le_of_ble_eq_true rfl⟩) hK hP hD hS hA hZ ⟨(List.append_nil _).symm, rfl, (by decide)⟩ ⟨fun _ => (List.append_nil _).symm, fun _ => rfl, (by decide)⟩ rfl rfl hl.1 (Nat.le_of_ble_eq_true rfl) dL_undone_235 (by show _ + 1 ≤ 30000 ∧ _ + 6 ≤ 180000; omega) ?_
          intro z235_32 g235_31 H locs hp9 hP hD hS
          have hw := (hp9.1 : wOp (B + 600000 * d_) (N + 60 * d_) _ _ _)
          have hzb := hp9.2.2.1
          refine lv_istore (lv' := [(7, .int (iI z235_32)), (6, .int (iI w33_8)), (5, .int (iI w27_7)), (4, .int (iI i_)), (3, .int (iI d_)), (2, .ref qs_), (0, .ref (K 12)), (1, .ref (ad 0))]) hx hb dL_undone_238 hl (by decide) rfl (fun ls hl => ?_)
          refine lv_goto (tgt := 304) hx hb dL_undone_240 (by decide) ?_
          exact J304 z235_32 g235_31 _ _ _ _ _ (by exact hw) (by exact hzb) (by omega) hP hD hS (lv_sub hl [0, 1, 2, 3, 4, 5, 6, 7] rfl)
        · refine zz_tsw (k := 7) (tgt := 243) hx hb dL_undone_48 c_48 (by decide) (by decide) (by decide) rfl (by decide) ?_
          refine lv_aload_n hx hb dL_undone_243 rfl (lv_at hl 6 rfl) ?_
          refine zt_new (ci := 1) (fs := [.null, .int (iI 0), .int (iI 0), .int (iI 0)]) (C := RJ4) (T := TJ4) (N := 4) (L := [xSum tA qs_ (vp_updL f_ d_.toNat (lI (sumV (GL_v g10)))), zW tA K ad g39_8]) (rest := [.ref (ad 0)]) ⟨hx, hb, hml, hown, hts⟩ (by decide +kernel) tyJ4 tyJ4_ok (hts (.classLink RL 310 RJ4) (by decide +kernel)) (hts (.instantiable RJ4 4) (by decide +kernel)) (hts (.initialized RJ4) (by decide +kernel)) rfl (fun j hj => by rcases (show j = 0 ∨ j = 1 ∨ j = 2 ∨ j = 3 by omega) with rfl | rfl | rfl | rfl <;> rfl) (fun q sz => c_J4_init_da8c8 l K D tA q sz) (cwI 0 hts (goodIn_wid gL_undone_J4_init_da8c8) rfl rfl rfl (hts (.initialized RJ4) (by decide +kernel)) (hts (.methodLink RL 312 yJ4_init_da8c8) (by decide +kernel)) (hts (.instanceMethod yJ4_init_da8c8) (by decide +kernel)) rfl (by decide +kernel) ⟨Nat.le_of_ble_eq_true rfl, Nat.le_of_ble_eq_true rfl⟩) hK hP hD hS hA hZ.2.2.2 hl.1 dL_undone_244 dL_undone_247 dL_undone_248 (by show _ + 1 + 1 ≤ 30000 ∧ _ + 4 + 16 ≤ 180000; omega) (Nat.le_of_ble_eq_true rfl) ?_
          intro q244_33 u H locs hp9 hP hD hS
          generalize u.getD 0 0 = a244_33 at hP hD
          have hP : va_P D vwCl [xSum tA qs_ (vp_updL f_ d_.toNat (lI (sumV (GL_v g10)))), zW tA K ad g39_8, bLine tA q244_33 a244_33 z0F 0 0].flatten H := hP
          have hD : va_D A [xSum tA qs_ (vp_updL f_ d_.toNat (lI (sumV (GL_v g10)))), zW tA K ad g39_8, bLine tA q244_33 a244_33 z0F 0 0].flatten := hD
          rw [sb_new] at hP hD
          refine zz_ldcwS hx hb hown (hZ.2.2.2.2.1 (376, "fog ", 20) (by decide)) dL_undone_251 ?_
          refine zc_callVr_ch (As := [.ref (K (100 + 20))]) (rest := [.ref (ad 0)]) (L := [xSum tA qs_ (vp_updL f_ d_.toNat (lI (sumV (GL_v g10)))), zW tA K ad g39_8, bSB tA 16 q244_33 a244_33 0 z0F []]) (Lc := [bSB tA 16 q244_33 a244_33 0 z0F []]) (Lr := [xSum tA qs_ (vp_updL f_ d_.toNat (lI (sumV (GL_v g10)))), zW tA K ad g39_8]) (Lc' := fun (u : Unit) => [bSB tA 16 q244_33 a244_33 0 z0F ([] ++ sTx.getD 20 [])]) (Lf := fun (u : Unit) => [xSum tA qs_ (vp_updL f_ d_.toNat (lI (sumV (GL_v g10)))), zW tA K ad g39_8, bSB tA 16 q244_33 a244_33 0 z0F ([] ++ sTx.getD 20 [])]) (is := [2, 0, 1]) (isF := [0, 1, 2]) ⟨hx, hb, hml, hown, hts⟩ (c_apK l K D tA q244_33 a244_33 H.size 0 z0F ([]) 16 20 (by decide) (by decide) (by rw [show sLn 20 = 4 from rfl]; simp only [List.length_append, List.length_cons, List.length_nil]; omega)) (cwV 1 hts (goodIn_wid gL_undone_J4_append_15ec4) rfl rfl rfl (by decide +kernel) ⟨Nat.le_of_ble_eq_true rfl, Nat.le_of_ble_eq_true rfl⟩) hK hP hD hS hA hZ.2.2.2 ⟨rfl, rfl, (by decide)⟩ ⟨fun _ => rfl, fun _ => rfl, (by decide)⟩ (ci := 1) (q0 := 0) rfl rfl rfl rfl rfl hl.1 (Nat.le_of_ble_eq_true rfl) dL_undone_254 (by show _ + 0 ≤ 30000 ∧ _ + 0 ≤ 180000; omega) ?_
          intro u H locs hp9 hP hD hS
          have hP : va_P D vwCl [xSum tA qs_ (vp_updL f_ d_.toNat (lI (sumV (GL_v g10)))), zW tA K ad g39_8, bSB tA 16 q244_33 a244_33 0 z0F ([] ++ [102, 111, 103, 32])].flatten H := hP
          have hD : va_D A [xSum tA qs_ (vp_updL f_ d_.toNat (lI (sumV (GL_v g10)))), zW tA K ad g39_8, bSB tA 16 q244_33 a244_33 0 z0F ([] ++ [102, 111, 103, 32])].flatten := hD
          refine lv_iload hx hb dL_undone_257 (lv_at hl 0 rfl) ?_
          refine zz_bipush hx hb dL_undone_259 (by decide) ?_
          refine zz_irem hx hb dL_undone_261 (by omega) (by decide) ?_
          have hd1 := dgN_1 (x := (w33_8 % 10)) (by omega) (by omega)
          unfold dgN at hd1
          refine zc_callVr_ch (As := [.int (iI (w33_8 % 10))]) (rest := [.ref (ad 0)]) (L := [xSum tA qs_ (vp_updL f_ d_.toNat (lI (sumV (GL_v g10)))), zW tA K ad g39_8, bSB tA 16 q244_33 a244_33 0 z0F ([] ++ [102, 111, 103, 32])]) (Lc := [bSB tA 16 q244_33 a244_33 0 z0F ([] ++ [102, 111, 103, 32])]) (Lr := [xSum tA qs_ (vp_updL f_ d_.toNat (lI (sumV (GL_v g10)))), zW tA K ad g39_8]) (Lc' := fun (u : Unit) => [bSB tA 16 q244_33 a244_33 0 z0F (([] ++ [102, 111, 103, 32]) ++ dgL (w33_8 % 10))]) (Lf := fun (u : Unit) => [xSum tA qs_ (vp_updL f_ d_.toNat (lI (sumV (GL_v g10)))), zW tA K ad g39_8, bSB tA 16 q244_33 a244_33 0 z0F (([] ++ [102, 111, 103, 32]) ++ dgL (w33_8 % 10))]) (is := [2, 0, 1]) (isF := [0, 1, 2]) ⟨hx, hb, hml, hown, hts⟩ (c_apI l K D tA q244_33 a244_33 H.size 0 z0F ([] ++ [102, 111, 103, 32]) (w33_8 % 10) (by omega) (by omega) (by unfold dgN; simp only [List.length_append, List.length_cons, List.length_nil]; omega)) (cwV 1 hts (goodIn_wid gL_undone_J4_append_bf812) rfl rfl rfl (by decide +kernel) ⟨Nat.le_of_ble_eq_true rfl, Nat.le_of_ble_eq_true rfl⟩) hK hP hD hS hA hZ.2.2.2 ⟨rfl, rfl, (by decide)⟩ ⟨fun _ => rfl, fun _ => rfl, (by decide)⟩ (ci := 1) (q0 := 0) rfl rfl rfl rfl rfl hl.1 (Nat.le_of_ble_eq_true rfl) dL_undone_262 (by show _ + 0 ≤ 30000 ∧ _ + 0 ≤ 180000; omega) ?_
          intro u H locs hp9 hP hD hS
          have hP : va_P D vwCl [xSum tA qs_ (vp_updL f_ d_.toNat (lI (sumV (GL_v g10)))), zW tA K ad g39_8, bSB tA 16 q244_33 a244_33 0 z0F (([] ++ [102, 111, 103, 32]) ++ dgL (w33_8 % 10))].flatten H := hP
          have hD : va_D A [xSum tA qs_ (vp_updL f_ d_.toNat (lI (sumV (GL_v g10)))), zW tA K ad g39_8, bSB tA 16 q244_33 a244_33 0 z0F (([] ++ [102, 111, 103, 32]) ++ dgL (w33_8 % 10))].flatten := hD
          refine zz_ldcwS hx hb hown (hZ.2.2.2.2.1 (378, ";night;pay ", 21) (by decide)) dL_undone_265 ?_
          refine zc_callVr_ch (As := [.ref (K (100 + 21))]) (rest := [.ref (ad 0)]) (L := [xSum tA qs_ (vp_updL f_ d_.toNat (lI (sumV (GL_v g10)))), zW tA K ad g39_8, bSB tA 16 q244_33 a244_33 0 z0F (([] ++ [102, 111, 103, 32]) ++ dgL (w33_8 % 10))]) (Lc := [bSB tA 16 q244_33 a244_33 0 z0F (([] ++ [102, 111, 103, 32]) ++ dgL (w33_8 % 10))]) (Lr := [xSum tA qs_ (vp_updL f_ d_.toNat (lI (sumV (GL_v g10)))), zW tA K ad g39_8]) (Lc' := fun (u : Unit) => [bSB tA 16 q244_33 a244_33 0 z0F ((([] ++ [102, 111, 103, 32]) ++ dgL (w33_8 % 10)) ++ sTx.getD 21 [])]) (Lf := fun (u : Unit) => [xSum tA qs_ (vp_updL f_ d_.toNat (lI (sumV (GL_v g10)))), zW tA K ad g39_8, bSB tA 16 q244_33 a244_33 0 z0F ((([] ++ [102, 111, 103, 32]) ++ dgL (w33_8 % 10)) ++ sTx.getD 21 [])]) (is := [2, 0, 1]) (isF := [0, 1, 2]) ⟨hx, hb, hml, hown, hts⟩ (c_apK l K D tA q244_33 a244_33 H.size 0 z0F (([] ++ [102, 111, 103, 32]) ++ dgL (w33_8 % 10)) 16 21 (by decide) (by decide) (by rw [show sLn 21 = 11 from rfl]; simp only [List.length_append, List.length_cons, List.length_nil]; omega)) (cwV 1 hts (goodIn_wid gL_undone_J4_append_15ec4) rfl rfl rfl (by decide +kernel) ⟨Nat.le_of_ble_eq_true rfl, Nat.le_of_ble_eq_true rfl⟩) hK hP hD hS hA hZ.2.2.2 ⟨rfl, rfl, (by decide)⟩ ⟨fun _ => rfl, fun _ => rfl, (by decide)⟩ (ci := 1) (q0 := 0) rfl rfl rfl rfl rfl hl.1 (Nat.le_of_ble_eq_true rfl) dL_undone_268 (by show _ + 0 ≤ 30000 ∧ _ + 0 ≤ 180000; omega) ?_
          intro u H locs hp9 hP hD hS
          have hP : va_P D vwCl [xSum tA qs_ (vp_updL f_ d_.toNat (lI (sumV (GL_v g10)))), zW tA K ad g39_8, bSB tA 16 q244_33 a244_33 0 z0F ((([] ++ [102, 111, 103, 32]) ++ dgL (w33_8 % 10)) ++ [59, 110, 105, 103, 104, 116, 59, 112, 97, 121, 32])].flatten H := hP
          have hD : va_D A [xSum tA qs_ (vp_updL f_ d_.toNat (lI (sumV (GL_v g10)))), zW tA K ad g39_8, bSB tA 16 q244_33 a244_33 0 z0F ((([] ++ [102, 111, 103, 32]) ++ dgL (w33_8 % 10)) ++ [59, 110, 105, 103, 104, 116, 59, 112, 97, 121, 32])].flatten := hD
          refine lv_iload hx hb dL_undone_271 (lv_at hl 0 rfl) ?_
          refine zz_iconst hx hb dL_undone_273 ?_
          refine zq_iushr (x := w33_8) (y := 4) hx hb dL_undone_274 (by decide) (by decide +kernel) (fun w274_35 hw274_35 => ?_)
          refine zz_bipush hx hb dL_undone_275 (by decide) ?_
          refine zz_irem hx hb dL_undone_277 (by omega) (by decide) ?_
          have hd2 := dgN_1 (x := (w274_35 % 6)) (by omega) (by omega)
          unfold dgN at hd2
          refine zc_callVr_ch (As := [.int (iI (w274_35 % 6))]) (rest := [.ref (ad 0)]) (L := [xSum tA qs_ (vp_updL f_ d_.toNat (lI (sumV (GL_v g10)))), zW tA K ad g39_8, bSB tA 16 q244_33 a244_33 0 z0F ((([] ++ [102, 111, 103, 32]) ++ dgL (w33_8 % 10)) ++ [59, 110, 105, 103, 104, 116, 59, 112, 97, 121, 32])]) (Lc := [bSB tA 16 q244_33 a244_33 0 z0F ((([] ++ [102, 111, 103, 32]) ++ dgL (w33_8 % 10)) ++ [59, 110, 105, 103, 104, 116, 59, 112, 97, 121, 32])]) (Lr := [xSum tA qs_ (vp_updL f_ d_.toNat (lI (sumV (GL_v g10)))), zW tA K ad g39_8]) (Lc' := fun (u : Nat) => [bSB tA 34 q244_33 u 0 (zCpy (wrL z0F 0 ((([] ++ [102, 111, 103, 32]) ++ dgL (w33_8 % 10)) ++ [59, 110, 105, 103, 104, 116, 59, 112, 97, 121, 32])) z0F 0 0 16) (((([] ++ [102, 111, 103, 32]) ++ dgL (w33_8 % 10)) ++ [59, 110, 105, 103, 104, 116, 59, 112, 97, 121, 32]) ++ dgL (w274_35 % 6))]) (Lf := fun (u : Nat) => [xSum tA qs_ (vp_updL f_ d_.toNat (lI (sumV (GL_v g10)))), zW tA K ad g39_8, bSB tA 34 q244_33 u 0 (zCpy (wrL z0F 0 ((([] ++ [102, 111, 103, 32]) ++ dgL (w33_8 % 10)) ++ [59, 110, 105, 103, 104, 116, 59, 112, 97, 121, 32])) z0F 0 0 16) (((([] ++ [102, 111, 103, 32]) ++ dgL (w33_8 % 10)) ++ [59, 110, 105, 103, 104, 116, 59, 112, 97, 121, 32]) ++ dgL (w274_35 % 6))]) (is := [2, 0, 1]) (isF := [0, 1, 2]) ⟨hx, hb, hml, hown, hts⟩ (c_apG l K D tA q244_33 a244_33 H.size 0 z0F ((([] ++ [102, 111, 103, 32]) ++ dgL (w33_8 % 10)) ++ [59, 110, 105, 103, 104, 116, 59, 112, 97, 121, 32]) (w274_35 % 6) (by omega) (by simp only [List.length_append, List.length_cons, List.length_nil]; omega) (by repeat' first | exact ch_0 | exact ch_dg _ | exact ch_1 (by decide) | exact ch_lit (by decide) | refine ch_app ?_ ?_)) (cwV 1 hts (goodIn_wid gL_undone_J4_append_bf812) rfl rfl rfl (by decide +kernel) ⟨Nat.le_of_ble_eq_true rfl, Nat.le_of_ble_eq_true rfl⟩) hK hP hD hS hA hZ.2.2.2 ⟨rfl, rfl, (by decide)⟩ ⟨fun _ => rfl, fun _ => rfl, (by decide)⟩ (ci := 1) (q0 := 0) rfl rfl rfl rfl rfl hl.1 (Nat.le_of_ble_eq_true rfl) dL_undone_278 (by show _ + 1 ≤ 30000 ∧ _ + 34 ≤ 180000; omega) ?_
          intro u278_35 H locs hp9 hP hD hS
          have hP : va_P D vwCl [xSum tA qs_ (vp_updL f_ d_.toNat (lI (sumV (GL_v g10)))), zW tA K ad g39_8, bSB tA 34 q244_33 u278_35 0 (zCpy (wrL z0F 0 ((([] ++ [102, 111, 103, 32]) ++ dgL (w33_8 % 10)) ++ [59, 110, 105, 103, 104, 116, 59, 112, 97, 121, 32])) z0F 0 0 16) (((([] ++ [102, 111, 103, 32]) ++ dgL (w33_8 % 10)) ++ [59, 110, 105, 103, 104, 116, 59, 112, 97, 121, 32]) ++ dgL (w274_35 % 6))].flatten H := hP
          have hD : va_D A [xSum tA qs_ (vp_updL f_ d_.toNat (lI (sumV (GL_v g10)))), zW tA K ad g39_8, bSB tA 34 q244_33 u278_35 0 (zCpy (wrL z0F 0 ((([] ++ [102, 111, 103, 32]) ++ dgL (w33_8 % 10)) ++ [59, 110, 105, 103, 104, 116, 59, 112, 97, 121, 32])) z0F 0 0 16) (((([] ++ [102, 111, 103, 32]) ++ dgL (w33_8 % 10)) ++ [59, 110, 105, 103, 104, 116, 59, 112, 97, 121, 32]) ++ dgL (w274_35 % 6))].flatten := hD
          obtain ⟨f278_35, hf9⟩ : ∃ f9 : Int → Int, f9 = (zCpy (wrL z0F 0 ((([] ++ [102, 111, 103, 32]) ++ dgL (w33_8 % 10)) ++ [59, 110, 105, 103, 104, 116, 59, 112, 97, 121, 32])) z0F 0 0 16) := ⟨_, rfl⟩
          rw [← hf9] at hP hD
          refine zz_ldcwS hx hb hown (hZ.2.2.2.2.1 (380, " 75;night", 22) (by decide)) dL_undone_281 ?_
          refine zc_callVr_ch (As := [.ref (K (100 + 22))]) (rest := [.ref (ad 0)]) (L := [xSum tA qs_ (vp_updL f_ d_.toNat (lI (sumV (GL_v g10)))), zW tA K ad g39_8, bSB tA 34 q244_33 u278_35 0 f278_35 (((([] ++ [102, 111, 103, 32]) ++ dgL (w33_8 % 10)) ++ [59, 110, 105, 103, 104, 116, 59, 112, 97, 121, 32]) ++ dgL (w274_35 % 6))]) (Lc := [bSB tA 34 q244_33 u278_35 0 f278_35 (((([] ++ [102, 111, 103, 32]) ++ dgL (w33_8 % 10)) ++ [59, 110, 105, 103, 104, 116, 59, 112, 97, 121, 32]) ++ dgL (w274_35 % 6))]) (Lr := [xSum tA qs_ (vp_updL f_ d_.toNat (lI (sumV (GL_v g10)))), zW tA K ad g39_8]) (Lc' := fun (u : Unit) => [bSB tA 34 q244_33 u278_35 0 f278_35 ((((([] ++ [102, 111, 103, 32]) ++ dgL (w33_8 % 10)) ++ [59, 110, 105, 103, 104, 116, 59, 112, 97, 121, 32]) ++ dgL (w274_35 % 6)) ++ sTx.getD 22 [])]) (Lf := fun (u : Unit) => [xSum tA qs_ (vp_updL f_ d_.toNat (lI (sumV (GL_v g10)))), zW tA K ad g39_8, bSB tA 34 q244_33 u278_35 0 f278_35 ((((([] ++ [102, 111, 103, 32]) ++ dgL (w33_8 % 10)) ++ [59, 110, 105, 103, 104, 116, 59, 112, 97, 121, 32]) ++ dgL (w274_35 % 6)) ++ sTx.getD 22 [])]) (is := [2, 0, 1]) (isF := [0, 1, 2]) ⟨hx, hb, hml, hown, hts⟩ (c_apK l K D tA q244_33 u278_35 H.size 0 f278_35 (((([] ++ [102, 111, 103, 32]) ++ dgL (w33_8 % 10)) ++ [59, 110, 105, 103, 104, 116, 59, 112, 97, 121, 32]) ++ dgL (w274_35 % 6)) 34 22 (by decide) (by decide) (by rw [show sLn 22 = 9 from rfl]; simp only [List.length_append, List.length_cons, List.length_nil]; omega)) (cwV 1 hts (goodIn_wid gL_undone_J4_append_15ec4) rfl rfl rfl (by decide +kernel) ⟨Nat.le_of_ble_eq_true rfl, Nat.le_of_ble_eq_true rfl⟩) hK hP hD hS hA hZ.2.2.2 ⟨rfl, rfl, (by decide)⟩ ⟨fun _ => rfl, fun _ => rfl, (by decide)⟩ (ci := 1) (q0 := 0) rfl rfl rfl rfl rfl hl.1 (Nat.le_of_ble_eq_true rfl) dL_undone_284 (by show _ + 0 ≤ 30000 ∧ _ + 0 ≤ 180000; omega) ?_
          intro u H locs hp9 hP hD hS
          have hP : va_P D vwCl [xSum tA qs_ (vp_updL f_ d_.toNat (lI (sumV (GL_v g10)))), zW tA K ad g39_8, bSB tA 34 q244_33 u278_35 0 f278_35 ((((([] ++ [102, 111, 103, 32]) ++ dgL (w33_8 % 10)) ++ [59, 110, 105, 103, 104, 116, 59, 112, 97, 121, 32]) ++ dgL (w274_35 % 6)) ++ [32, 55, 53, 59, 110, 105, 103, 104, 116])].flatten H := hP
          have hD : va_D A [xSum tA qs_ (vp_updL f_ d_.toNat (lI (sumV (GL_v g10)))), zW tA K ad g39_8, bSB tA 34 q244_33 u278_35 0 f278_35 ((((([] ++ [102, 111, 103, 32]) ++ dgL (w33_8 % 10)) ++ [59, 110, 105, 103, 104, 116, 59, 112, 97, 121, 32]) ++ dgL (w274_35 % 6)) ++ [32, 55, 53, 59, 110, 105, 103, 104, 116])].flatten := hD
          refine zc_callVA_ch (As := []) (rest := [.ref (ad 0)]) (L := [xSum tA qs_ (vp_updL f_ d_.toNat (lI (sumV (GL_v g10)))), zW tA K ad g39_8, bSB tA 34 q244_33 u278_35 0 f278_35 ((((([] ++ [102, 111, 103, 32]) ++ dgL (w33_8 % 10)) ++ [59, 110, 105, 103, 104, 116, 59, 112, 97, 121, 32]) ++ dgL (w274_35 % 6)) ++ [32, 55, 53, 59, 110, 105, 103, 104, 116])]) (Lc := [bSB tA 34 q244_33 u278_35 0 f278_35 ((((([] ++ [102, 111, 103, 32]) ++ dgL (w33_8 % 10)) ++ [59, 110, 105, 103, 104, 116, 59, 112, 97, 121, 32]) ++ dgL (w274_35 % 6)) ++ [32, 55, 53, 59, 110, 105, 103, 104, 116])]) (Lr := [xSum tA qs_ (vp_updL f_ d_.toNat (lI (sumV (GL_v g10)))), zW tA K ad g39_8]) (Lc' := fun (u : Nat × Nat) => [bSB tA 34 q244_33 u278_35 0 f278_35 ((((([] ++ [102, 111, 103, 32]) ++ dgL (w33_8 % 10)) ++ [59, 110, 105, 103, 104, 116, 59, 112, 97, 121, 32]) ++ dgL (w274_35 % 6)) ++ [32, 55, 53, 59, 110, 105, 103, 104, 116]), bStr tA u.1 u.2 ((((([] ++ [102, 111, 103, 32]) ++ dgL (w33_8 % 10)) ++ [59, 110, 105, 103, 104, 116, 59, 112, 97, 121, 32]) ++ dgL (w274_35 % 6)) ++ [32, 55, 53, 59, 110, 105, 103, 104, 116])]) (Lf := fun (u : Nat × Nat) => [xSum tA qs_ (vp_updL f_ d_.toNat (lI (sumV (GL_v g10)))), zW tA K ad g39_8, bStr tA u.1 u.2 ((((([] ++ [102, 111, 103, 32]) ++ dgL (w33_8 % 10)) ++ [59, 110, 105, 103, 104, 116, 59, 112, 97, 121, 32]) ++ dgL (w274_35 % 6)) ++ [32, 55, 53, 59, 110, 105, 103, 104, 116])]) (is := [2, 0, 1]) (isF := [0, 1, 3]) ⟨hx, hb, hml, hown, hts⟩ (c_toS l K D tA q244_33 u278_35 H.size 0 f278_35 ((((([] ++ [102, 111, 103, 32]) ++ dgL (w33_8 % 10)) ++ [59, 110, 105, 103, 104, 116, 59, 112, 97, 121, 32]) ++ dgL (w274_35 % 6)) ++ [32, 55, 53, 59, 110, 105, 103, 104, 116]) 34 (by repeat' first | exact ch_0 | exact ch_dg _ | exact ch_1 (by decide) | exact ch_lit (by decide) | refine ch_app ?_ ?_) (by decide) (by simp only [List.length_append, List.length_cons, List.length_nil]; omega)) (cwV 0 hts (goodIn_wid gL_undone_J4_toString_0e30d) rfl rfl rfl (by decide +kernel) ⟨Nat.le_of_ble_eq_true rfl, Nat.le_of_ble_eq_true rfl⟩) hK hP hD hS hA hZ.2.2.2 ⟨rfl, rfl, (by decide)⟩ ⟨fun _ => rfl, fun _ => rfl, (by decide)⟩ (ci := 1) (q0 := 0) rfl rfl rfl rfl rfl hl.1 (Nat.le_of_ble_eq_true rfl) dL_undone_287 (by show _ + 2 ≤ 30000 ∧ _ + 68 ≤ 180000; omega) ?_
          intro u H locs hp9 hP hD hS
          obtain ⟨s287_36, v287_36⟩ := u
          have hP : va_P D vwCl [xSum tA qs_ (vp_updL f_ d_.toNat (lI (sumV (GL_v g10)))), zW tA K ad g39_8, bStr tA s287_36 v287_36 ((((([] ++ [102, 111, 103, 32]) ++ dgL (w33_8 % 10)) ++ [59, 110, 105, 103, 104, 116, 59, 112, 97, 121, 32]) ++ dgL (w274_35 % 6)) ++ [32, 55, 53, 59, 110, 105, 103, 104, 116])].flatten H := hP
          have hD : va_D A [xSum tA qs_ (vp_updL f_ d_.toNat (lI (sumV (GL_v g10)))), zW tA K ad g39_8, bStr tA s287_36 v287_36 ((((([] ++ [102, 111, 103, 32]) ++ dgL (w33_8 % 10)) ++ [59, 110, 105, 103, 104, 116, 59, 112, 97, 121, 32]) ++ dgL (w274_35 % 6)) ++ [32, 55, 53, 59, 110, 105, 103, 104, 116])].flatten := hD
          refine zt_callSi (As := [.ref (ad 0), .ref s287_36]) (rest := []) (L := [xSum tA qs_ (vp_updL f_ d_.toNat (lI (sumV (GL_v g10)))), zW tA K ad g39_8, bStr tA s287_36 v287_36 ((((([] ++ [102, 111, 103, 32]) ++ dgL (w33_8 % 10)) ++ [59, 110, 105, 103, 104, 116, 59, 112, 97, 121, 32]) ++ dgL (w274_35 % 6)) ++ [32, 55, 53, 59, 110, 105, 103, 104, 116])]) (Lc := [zW tA K ad g39_8, bStr tA s287_36 v287_36 ((((([] ++ [102, 111, 103, 32]) ++ dgL (w33_8 % 10)) ++ [59, 110, 105, 103, 104, 116, 59, 112, 97, 121, 32]) ++ dgL (w274_35 % 6)) ++ [32, 55, 53, 59, 110, 105, 103, 104, 116])]) (Lr := [xSum tA qs_ (vp_updL f_ d_.toNat (lI (sumV (GL_v g10))))]) (Lc' := fun (u : GL) => [zW tA K ad u]) (Lf := fun (u : GL) => [xSum tA qs_ (vp_updL f_ d_.toNat (lI (sumV (GL_v g10)))), zW tA K ad u]) (is := [1, 2, 0]) (isF := [0, 1]) ⟨hx, hb, hml, hown, hts⟩ (q_L_executeb hst hB9 hr.1 s287_36 v287_36 ((((([] ++ [102, 111, 103, 32]) ++ dgL (w33_8 % 10)) ++ [59, 110, 105, 103, 104, 116, 59, 112, 97, 121, 32]) ++ dgL (w274_35 % 6)) ++ [32, 55, 53, 59, 110, 105, 103, 104, 116]) (by repeat' first | exact ch_0 | exact ch_dg _ | exact ch_1 (by decide) | exact ch_lit (by decide) | refine ch_app ?_ ?_) (by simp only [List.length_append, List.length_cons, List.length_nil]; omega)) (va_cwS 2 hts (gx_ww gL_undone_L_execute) rfl rfl rfl (by decide +kernel) ⟨Nat.le_of_ble_eq_true rfl, Nat.le_of_ble_eq_true rfl⟩) hK hP hD hS hA hZ ⟨rfl, rfl, (by decide)⟩ ⟨fun _ => (List.append_nil _).symm, fun _ => rfl, (by decide)⟩ rfl rfl hl.1 (Nat.le_of_ble_eq_true rfl) dL_undone_290 (by show _ + 66 ≤ 30000 ∧ _ + 396 ≤ 180000; omega) ?_
          intro z290_37 g290_37 H locs hp9 hP hD hS
          have hw := hp9.1
          have hzb := hp9.2
          refine lv_istore (lv' := [(7, .int (iI z290_37)), (6, .int (iI w33_8)), (5, .int (iI w27_7)), (4, .int (iI i_)), (3, .int (iI d_)), (2, .ref qs_), (0, .ref (K 12)), (1, .ref (ad 0))]) hx hb dL_undone_293 hl (by decide) rfl (fun ls hl => ?_)
          refine lv_goto (tgt := 304) hx hb dL_undone_295 (by decide) ?_
          exact J304 z290_37 g290_37 _ _ _ _ _ (by exact hw) (by exact hzb) (by omega) hP hD hS (lv_sub hl [0, 1, 2, 3, 4, 5, 6, 7] rfl)
        · refine zz_tswD (tgt := 298) hx hb dL_undone_48 c_48 (by omega) (by decide) ?_
          refine lv_aload_n hx hb dL_undone_298 rfl (lv_at hl 6 rfl) ?_
          refine zt_callVi (As := []) (rest := []) (L := [xSum tA qs_ (vp_updL f_ d_.toNat (lI (sumV (GL_v g10)))), zW tA K ad g39_8]) (Lc := [zW tA K ad g39_8]) (Lr := [xSum tA qs_ (vp_updL f_ d_.toNat (lI (sumV (GL_v g10))))]) (Lc' := fun (u : GL) => [zW tA K ad u]) (Lf := fun (u : GL) => [xSum tA qs_ (vp_updL f_ d_.toNat (lI (sumV (GL_v g10)))), zW tA K ad u]) (is := [1, 0]) (isF := [0, 1]) ⟨hx, hb, hml, hown, hts⟩ (q_X10_nightb hst hB9 hr.1  ) (cwV 0 hts (goodIn_wid gL_undone_X10_night) rfl rfl rfl (by decide +kernel) ⟨Nat.le_of_ble_eq_true rfl, Nat.le_of_ble_eq_true rfl⟩) hK hP hD hS hA hZ ⟨(List.append_nil _).symm, rfl, (by decide)⟩ ⟨fun _ => (List.append_nil _).symm, fun _ => rfl, (by decide)⟩ (ci := 12) (q0 := 0) rfl rfl (zW_0 tA K ad g39_8) rfl rfl hl.1 (Nat.le_of_ble_eq_true rfl) dL_undone_299 (by show _ + 0 ≤ 30000 ∧ _ + 0 ≤ 180000; omega) ?_
          intro z299_39 g299_38 H locs hp9 hP hD hS
          have hw := (Or.inr ⟨hp9.2.2.1, hp9.1⟩ : wOp (B + 600000 * d_) (N + 60 * d_) _ _ z299_39)
          have hzb := (⟨Int.le_trans (by decide) hp9.2.2.1, hp9.2.2.2⟩ : -20 ≤ z299_39 ∧ z299_39 ≤ 2000000000)
          refine lv_istore (lv' := [(7, .int (iI z299_39)), (6, .int (iI w33_8)), (5, .int (iI w27_7)), (4, .int (iI i_)), (3, .int (iI d_)), (2, .ref qs_), (0, .ref (K 12)), (1, .ref (ad 0))]) hx hb dL_undone_302 hl (by decide) rfl (fun ls hl => ?_)
          exact J304 z299_39 g299_38 _ _ _ _ _ (by exact hw) (by exact hzb) (by omega) hP hD hS (lv_sub hl [0, 1, 2, 3, 4, 5, 6, 7] rfl)
  exact L10 _ 0 0 f0_ ([]) g _ _ _ _ _ (by omega) (by exact OKG_mono hok (by omega) (by omega)) (by exact UnD_0 (OKG_mono hok (by omega) (by omega))) (by omega) (Nat.lt_succ_self _) hP hD hS (lv_sub hl [0, 1, 2, 3, 4] rfl)
