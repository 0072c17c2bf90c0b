/-- private static long commonDivisor(long, long); of Tableaufloor$Fraction -/
abbrev rmX2_commonDivisor : Room := { frames := 0, cells := 0, slots := 0, locals := 0 }
def fX2_commonDivisor_45 (x4 : Int64) : Option (Int64) :=
  some (x4)
def fX2_commonDivisor_9 : Nat → Int64 → Int64 → Int32 → Option (Int64)
  | 0, _, _, _ => none
  | n + 1, x4, x6, x8 =>
    (if (200 : Int32) ≤ x8 then
      (fX2_commonDivisor_45 x4)
    else
      (if x6 = (0 : Int64) then
        (fX2_commonDivisor_45 x4)
      else
        (if x6 = 0 then none else
          (zlet (x4 - x4 / x6 * x6) (fun v29 =>
          (zlet (x8 + 1) (fun v39 =>
          (fX2_commonDivisor_9 n x6 v29 v39))))))))
def fX2_commonDivisor (x0 : Int64) (x2 : Int64) : Option (Int64) :=
  (fX2_commonDivisor_9 6000 x0 x2 (0 : Int32))
theorem bX2_commonDivisor_45 {C : zCtx} (X : zFx C cX2_commonDivisor 11 RX2 rmX2_commonDivisor (some .long)) {x4 : Int64} {out : Int64} (hQ : zHl C out [] 0 0) (h : fX2_commonDivisor_45 x4 = some out) : zG C 11 [] 0 0 [] 45 [(4, .long x4)] [] := by
  unfold fX2_commonDivisor_45 at h
  refine z_lload X dX2_commonDivisor_45 0 rfl ?_
  cases h
  exact z_lret X hQ dX2_commonDivisor_47 rfl [] rfl (by decide) (by decide)
theorem bX2_commonDivisor_9 {C : zCtx} (X : zFx C cX2_commonDivisor 11 RX2 rmX2_commonDivisor (some .long)) {out : Int64} (hQ : zHl C out [] 0 0) : ∀ (n : Nat) (x4 : Int64) (x6 : Int64) (x8 : Int32), fX2_commonDivisor_9 n x4 x6 x8 = some out → zG C 11 [] 0 0 [] 9 [(4, .long x4), (6, .long x6), (8, .int x8)] [] := by
  intro n
  induction n with
  | zero =>
    intro x4 x6 x8 h
    rw [fX2_commonDivisor_9] at h
    exact zno h
  | succ n ih =>
    intro x4 x6 x8 h
    rw [fX2_commonDivisor_9] at h
    refine z_iload X dX2_commonDivisor_9 2 rfl ?_
    refine z_sipush (v := (200 : Int32)) X dX2_commonDivisor_11 rfl ?_
    refine z_icmp_ge (tgt := 45) X dX2_commonDivisor_14 (by decide) (fun c14 => ?_) (fun c14 => ?_)
    · replace h := zif_t h c14
      exact z_at (pc2 := 45) (lv2 := [(4, .long x4)]) (st2 := []) (ws2 := []) rfl rfl rfl [0] rfl (bX2_commonDivisor_45 X hQ  h)
    · replace h := zif_f h c14
      refine z_lload X dX2_commonDivisor_17 1 rfl ?_
      refine z_lconst (v := (0 : Int64)) X dX2_commonDivisor_19 rfl ?_
      refine z_lcmp_eq (tgt := 45) X dX2_commonDivisor_20 dX2_commonDivisor_21 (by decide) (fun c20 => ?_) (fun c20 => ?_)
      · replace h := zif_t h c20
        exact z_at (pc2 := 45) (lv2 := [(4, .long x4)]) (st2 := []) (ws2 := []) rfl rfl rfl [0] rfl (bX2_commonDivisor_45 X hQ  h)
      · replace h := zif_f h c20
        refine z_lload X dX2_commonDivisor_24 0 rfl ?_
        refine z_lload X dX2_commonDivisor_26 1 rfl ?_
        have g28 : ¬ x6 = 0 := fun e => by rw [if_pos e] at h; exact zno h
        replace h := zif_f h g28
        refine z_lrem X dX2_commonDivisor_28 g28 ?_
        obtain ⟨v29, ev29, h⟩ := zlet_of h
        refine z_topl ev29 ?_
        refine z_lstore (lv2 := [(9, .long v29), (4, .long x4), (6, .long x6), (8, .int x8)]) X dX2_commonDivisor_29 (by decide) rfl ?_
        refine z_lload X dX2_commonDivisor_31 2 rfl ?_
        refine z_lstore (lv2 := [(4, .long x6), (9, .long v29), (6, .long x6), (8, .int x8)]) X dX2_commonDivisor_33 (by decide) rfl ?_
        refine z_lload X dX2_commonDivisor_35 1 rfl ?_
        refine z_lstore (lv2 := [(6, .long v29), (4, .long x6), (9, .long v29), (8, .int x8)]) X dX2_commonDivisor_37 (by decide) rfl ?_
        obtain ⟨v39, ev39, h⟩ := zlet_of h
        refine z_iinc (v := v39) (lv2 := [(8, .int v39), (6, .long v29), (4, .long x6), (9, .long v29)]) X dX2_commonDivisor_39 (k := 3) rfl (by rw [ev39]; rfl) (by decide) rfl ?_
        refine z_goto (tgt := 9) X dX2_commonDivisor_42 (by decide) ?_
        exact z_at (pc2 := 9) (lv2 := [(4, .long x6), (6, .long v29), (8, .int v39)]) (st2 := []) (ws2 := []) rfl rfl rfl [2, 1, 0] rfl (ih x6 v29 v39 h)
theorem bX2_commonDivisor_0 {C : zCtx} (X : zFx C cX2_commonDivisor 11 RX2 rmX2_commonDivisor (some .long)) {x0 : Int64} {x2 : Int64} {out : Int64} (hQ : zHl C out [] 0 0) (h : fX2_commonDivisor x0 x2 = some out) : zG C 11 [] 0 0 [] 0 [(0, .long x0), (2, .long x2)] [] := by
  unfold fX2_commonDivisor at h
  refine z_lload_n X dX2_commonDivisor_0 0 rfl ?_
  refine z_lstore (lv2 := [(4, .long x0), (0, .long x0), (2, .long x2)]) X dX2_commonDivisor_1 (by decide) rfl ?_
  refine z_lload_n X dX2_commonDivisor_3 2 rfl ?_
  refine z_lstore (lv2 := [(6, .long x2), (4, .long x0), (0, .long x0), (2, .long x2)]) X dX2_commonDivisor_4 (by decide) rfl ?_
  refine z_iconst (v := (0 : Int32)) X dX2_commonDivisor_6 rfl ?_
  refine z_istore (lv2 := [(8, .int (0 : Int32)), (6, .long x2), (4, .long x0), (0, .long x0), (2, .long x2)]) X dX2_commonDivisor_7 (by decide) rfl ?_
  exact z_at (pc2 := 9) (lv2 := [(4, .long x0), (6, .long x2), (8, .int (0 : Int32))]) (st2 := []) (ws2 := []) rfl rfl rfl [2, 1, 0] rfl (bX2_commonDivisor_9 X hQ  6000 x0 x2 (0 : Int32) h)
theorem metX2_commonDivisor (l : Launch) (D : va_G) (T : Nat → ClassId) {x0 : Int64} {x2 : Int64} {out : Int64} (hf : fX2_commonDivisor x0 x2 = some out) (sz : Nat) : Met l yX2_commonDivisor (zws yX2_commonDivisor cX2_commonDivisor 11 (some .long)) rmX2_commonDivisor (zPc D T [.long x0, .long x2] [] sz) (zQl D out [] (zA [] sz)) 0 0 (zA [] sz) :=
  zMet (D := D) (T := T) (av := [.long x0, .long x2]) (ws := fun T => []) (wm := fun T => []) (lv0 := [(0, .long x0), (2, .long x2)]) [] (Qc := fun D T A => zQl D out [] A) (by decide +kernel) rfl (Nat.le_of_ble_eq_true rfl) rfl (fun C X hQ => bX2_commonDivisor_0 X hQ hf) sz
/-- void put(long, long); of Tableaufloor$Fraction -/
abbrev rmX2_put : Room := { frames := 1, cells := 0, slots := 0, locals := 30 }
def fX2_put_53 (sO : zSt) (y1 : Int64) : Option (zSt) :=
  (zlet (zsl sO 1 y1) (fun sO53 =>
    some (sO53)))
def fX2_put_34 (sO : zSt) (x3 : Int64) (x5 : Int64) (y1 : Int64) : Option (zSt) :=
  (zlet (zsl sO 0 y1) (fun sO34 =>
    (if x5 ≤ (1 : Int64) then
    (fX2_put_53 sO34 x3)
  else
    (if x5 = 0 then none else
      (fX2_put_53 sO34 (x3 / x5))))))
def fX2_put_12 (sO : zSt) (x1 : Int64) (x3 : Int64) (y0 : Int64) : Option (zSt) :=
  ((fX2_commonDivisor y0 x3).bind (fun o13 =>
    (if o13 ≤ (1 : Int64) then
    (fX2_put_34 sO x3 o13 x1)
  else
    (if o13 = 0 then none else
      (fX2_put_34 sO x3 o13 (x1 / o13))))))
def fX2_put (sO : zSt) (x1 : Int64) (x3 : Int64) : Option (zSt) :=
  (if (0 : Int64) ≤ x1 then
    (fX2_put_12 sO x1 x3 x1)
  else
    (fX2_put_12 sO x1 x3 (-x1)))
theorem bX2_put_53 {C : zCtx} (X : zFx C cX2_put 7 RX2 rmX2_put none) {aO : Nat → Nat} {sO : zSt} {y1 : Int64} {out : zSt} (hQ : zHv C [wX2 (zcT C) aO out] 0 0) (h : fX2_put_53 sO y1 = some out) : zG C 7 [0] 0 0 [wX2 (zcT C) aO sO] 53 [] [.long y1, .ref (aO 0)] := by
  unfold fX2_put_53 at h
  obtain ⟨sO53, esO53, h⟩ := zlet_of h
  refine z_put (ws2 := [wX2 (zcT C) aO sO53]) X 0 0 3 1 ziX2 rfl tyX2 tyX2_ok nmX2 (by decide) zw363 rfl rfl (ty := .long) (by decide +kernel) rfl rfl (by show 1 < 2; decide) dX2_put_53 rfl rfl (by decide) (w2 := wX2 (zcT C) aO sO53) (by rw [esO53]; rfl) rfl ?_
  cases h
  exact z_vret X hQ dX2_put_56 [0] rfl (by decide) (by decide)
theorem bX2_put_34 {C : zCtx} (X : zFx C cX2_put 7 RX2 rmX2_put none) {aO : Nat → Nat} {sO : zSt} {x3 : Int64} {x5 : Int64} {y1 : Int64} {out : zSt} (hQ : zHv C [wX2 (zcT C) aO out] 0 0) (h : fX2_put_34 sO x3 x5 y1 = some out) : zG C 7 [0] 0 0 [wX2 (zcT C) aO sO] 34 [(0, .ref (aO 0)), (3, .long x3), (5, .long x5)] [.long y1, .ref (aO 0)] := by
  unfold fX2_put_34 at h
  obtain ⟨sO34, esO34, h⟩ := zlet_of h
  refine z_put (ws2 := [wX2 (zcT C) aO sO34]) X 0 0 3 0 ziX2 rfl tyX2 tyX2_ok nmX2 (by decide) zw361 rfl rfl (ty := .long) (by decide +kernel) rfl rfl (by show 0 < 2; decide) dX2_put_34 rfl rfl (by decide) (w2 := wX2 (zcT C) aO sO34) (by rw [esO34]; rfl) rfl ?_
  refine z_aload_n X dX2_put_37 0 rfl ?_
  refine z_lload X dX2_put_38 2 rfl ?_
  refine z_lconst (v := (1 : Int64)) X dX2_put_40 rfl ?_
  refine z_lcmp_le (tgt := 52) X dX2_put_41 dX2_put_42 (by decide) (fun c41 => ?_) (fun c41 => ?_)
  · replace h := zif_t h c41
    refine z_lload_n X dX2_put_52 1 rfl ?_
    exact z_at (pc2 := 53) (lv2 := []) (st2 := [.long x3, .ref (aO 0)]) (ws2 := [wX2 (zcT C) aO sO34]) rfl rfl rfl [] rfl (bX2_put_53 X hQ  h)
  · replace h := zif_f h c41
    refine z_lload_n X dX2_put_45 1 rfl ?_
    refine z_lload X dX2_put_46 2 rfl ?_
    have g48 : ¬ x5 = 0 := fun e => by rw [if_pos e] at h; exact zno h
    replace h := zif_f h g48
    refine z_ldiv X dX2_put_48 g48 ?_
    refine z_goto (tgt := 53) X dX2_put_49 (by decide) ?_
    exact z_at (pc2 := 53) (lv2 := []) (st2 := [.long (x3 / x5), .ref (aO 0)]) (ws2 := [wX2 (zcT C) aO sO34]) rfl rfl rfl [] rfl (bX2_put_53 X hQ  h)
theorem bX2_put_12 {C : zCtx} (X : zFx C cX2_put 7 RX2 rmX2_put none) {aO : Nat → Nat} {sO : zSt} {x1 : Int64} {x3 : Int64} {y0 : Int64} {out : zSt} (hQ : zHv C [wX2 (zcT C) aO out] 0 0) (h : fX2_put_12 sO x1 x3 y0 = some out) : zG C 7 [0] 0 0 [wX2 (zcT C) aO sO] 12 [(0, .ref (aO 0)), (1, .long x1), (3, .long x3)] [.long y0] := by
  unfold fX2_put_12 at h
  refine z_lload_n X dX2_put_12 2 rfl ?_
  obtain ⟨o13, ho13, h⟩ := zbind_of h
  refine z_callSl (st := []) (ws2 := [wX2 (zcT C) aO sO]) X (metX2_commonDivisor (zcl C) (zcD C) (zcT C)  ho13) zmX2_commonDivisor zw1103 dX2_put_13 [] rfl rfl [] rfl (by decide) trivial rfl rfl rfl (Nat.le_of_ble_eq_true rfl) rfl rfl ⟨Nat.le_of_ble_eq_true rfl, Nat.le_of_ble_eq_true rfl⟩ ⟨Nat.le_of_ble_eq_true rfl, Nat.le_of_ble_eq_true rfl⟩ ?_
  refine z_lstore (lv2 := [(5, .long o13), (0, .ref (aO 0)), (1, .long x1), (3, .long x3)]) X dX2_put_16 (by decide) rfl ?_
  refine z_aload_n X dX2_put_18 1 rfl ?_
  refine z_lload X dX2_put_19 0 rfl ?_
  refine z_lconst (v := (1 : Int64)) X dX2_put_21 rfl ?_
  refine z_lcmp_le (tgt := 33) X dX2_put_22 dX2_put_23 (by decide) (fun c22 => ?_) (fun c22 => ?_)
  · replace h := zif_t h c22
    refine z_lload_n X dX2_put_33 2 rfl ?_
    exact z_at (pc2 := 34) (lv2 := [(0, .ref (aO 0)), (3, .long x3), (5, .long o13)]) (st2 := [.long x1, .ref (aO 0)]) (ws2 := [wX2 (zcT C) aO sO]) rfl rfl rfl [1, 3, 0] rfl (bX2_put_34 X hQ  h)
  · replace h := zif_f h c22
    refine z_lload_n X dX2_put_26 2 rfl ?_
    refine z_lload X dX2_put_27 0 rfl ?_
    have g29 : ¬ o13 = 0 := fun e => by rw [if_pos e] at h; exact zno h
    replace h := zif_f h g29
    refine z_ldiv X dX2_put_29 g29 ?_
    refine z_goto (tgt := 34) X dX2_put_30 (by decide) ?_
    exact z_at (pc2 := 34) (lv2 := [(0, .ref (aO 0)), (3, .long x3), (5, .long o13)]) (st2 := [.long (x1 / o13), .ref (aO 0)]) (ws2 := [wX2 (zcT C) aO sO]) rfl rfl rfl [1, 3, 0] rfl (bX2_put_34 X hQ  h)
theorem bX2_put_0 {C : zCtx} (X : zFx C cX2_put 7 RX2 rmX2_put none) {aO : Nat → Nat} {sO : zSt} {x1 : Int64} {x3 : Int64} {out : zSt} (hQ : zHv C [wX2 (zcT C) aO out] 0 0) (h : fX2_put sO x1 x3 = some out) : zG C 7 [0] 0 0 [wX2 (zcT C) aO sO] 0 [(0, .ref (aO 0)), (1, .long x1), (3, .long x3)] [] := by
  unfold fX2_put at h
  refine z_lload_n X dX2_put_0 1 rfl ?_
  refine z_lconst (v := (0 : Int64)) X dX2_put_1 rfl ?_
  refine z_lcmp_ge (tgt := 11) X dX2_put_2 dX2_put_3 (by decide) (fun c2 => ?_) (fun c2 => ?_)
  · replace h := zif_t h c2
    refine z_lload_n X dX2_put_11 1 rfl ?_
    exact z_at (pc2 := 12) (lv2 := [(0, .ref (aO 0)), (1, .long x1), (3, .long x3)]) (st2 := [.long x1]) (ws2 := [wX2 (zcT C) aO sO]) rfl rfl rfl [0, 1, 2] rfl (bX2_put_12 X hQ  h)
  · replace h := zif_f h c2
    refine z_lload_n X dX2_put_6 1 rfl ?_
    refine z_lneg X dX2_put_7 ?_
    refine z_goto (tgt := 12) X dX2_put_8 (by decide) ?_
    exact z_at (pc2 := 12) (lv2 := [(0, .ref (aO 0)), (1, .long x1), (3, .long x3)]) (st2 := [.long (-x1)]) (ws2 := [wX2 (zcT C) aO sO]) rfl rfl rfl [0, 1, 2] rfl (bX2_put_12 X hQ  h)
theorem metX2_put (l : Launch) (D : va_G) (T : Nat → ClassId) (aO : Nat → Nat) {sO : zSt} {x1 : Int64} {x3 : Int64} {out : zSt} (hf : fX2_put sO x1 x3 = some out) (sz : Nat) : Met l yX2_put (zws yX2_put cX2_put 7 none) rmX2_put (zPc D T [.ref (aO 0), .long x1, .long x3] [wX2 T aO sO] sz) (zQv D [wX2 T aO out] (zA [wX2 T aO sO] sz)) 0 0 (zA [wX2 T aO sO] sz) :=
  zMet (D := D) (T := T) (av := [.ref (aO 0), .long x1, .long x3]) (ws := fun T => [wX2 T aO sO]) (wm := fun T => [wX2 T aO sO]) (lv0 := [(0, .ref (aO 0)), (1, .long x1), (3, .long x3)]) [0] (Qc := fun D T A => zQv D [wX2 T aO out] A) (by decide +kernel) rfl (Nat.le_of_ble_eq_true rfl) rfl (fun C X hQ => bX2_put_0 X hQ hf) sz
