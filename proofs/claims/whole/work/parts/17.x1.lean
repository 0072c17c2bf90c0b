/-- private void putCell(int, int, long); of Tableaufloor$Dictionary -/
abbrev rmX1_putCell : Room := { frames := 0, cells := 0, slots := 0, locals := 0 }
def fX1_putCell_30 (sO : zSt) : Option (zSt) :=
  some (sO)
def fX1_putCell (sO : zSt) (x1 : Int32) (x2 : Int32) (x3 : Int64) : Option (zSt) :=
  (zlet ((x1 * (4 : Int32)) + x2) (fun v5 =>
    (if v5 < 0 then
    (fX1_putCell_30 sO)
  else
    (if (84 : Int32) ≤ v5 then
      (fX1_putCell_30 sO)
    else
      (if zin v5 84 = true then
        (zlet (zsb sO 0 (vp_updL (zgb sO 0) (v5).toNatClampNeg x3)) (fun sO29 =>
        (fX1_putCell_30 sO29))) else none)))))
theorem bX1_putCell_30 {C : zCtx} (X : zFx C cX1_putCell 6 RX1 rmX1_putCell none) {aO : Nat → Nat} {sO : zSt} {out : zSt} (hQ : zHv C [wX1 (zcT C) aO out] 0 0) (h : fX1_putCell_30 sO = some out) : zG C 6 [0] 0 0 [wX1 (zcT C) aO sO] 30 [] [] := by
  unfold fX1_putCell_30 at h
  cases h
  exact z_vret X hQ dX1_putCell_30 [0] rfl (by decide) (by decide)
theorem bX1_putCell_0 {C : zCtx} (X : zFx C cX1_putCell 6 RX1 rmX1_putCell none) {aO : Nat → Nat} {sO : zSt} {x1 : Int32} {x2 : Int32} {x3 : Int64} {out : zSt} (hQ : zHv C [wX1 (zcT C) aO out] 0 0) (h : fX1_putCell sO x1 x2 x3 = some out) : zG C 6 [0] 0 0 [wX1 (zcT C) aO sO] 0 [(0, .ref (aO 0)), (1, .int x1), (2, .int x2), (3, .long x3)] [] := by
  unfold fX1_putCell at h
  refine z_iload_n X dX1_putCell_0 1 rfl ?_
  refine z_iconst (v := (4 : Int32)) X dX1_putCell_1 rfl ?_
  refine z_imul X dX1_putCell_2 ?_
  refine z_iload_n X dX1_putCell_3 2 rfl ?_
  refine z_iadd X dX1_putCell_4 ?_
  obtain ⟨v5, ev5, h⟩ := zlet_of h
  refine z_topi ev5 ?_
  refine z_istore (lv2 := [(5, .int v5), (0, .ref (aO 0)), (1, .int x1), (2, .int x2), (3, .long x3)]) X dX1_putCell_5 (by decide) rfl ?_
  refine z_iload X dX1_putCell_7 0 rfl ?_
  refine z_if_lt (tgt := 30) X dX1_putCell_9 (by decide) (fun c9 => ?_) (fun c9 => ?_)
  · replace h := zif_t h c9
    exact z_at (pc2 := 30) (lv2 := []) (st2 := []) (ws2 := [wX1 (zcT C) aO sO]) rfl rfl rfl [] rfl (bX1_putCell_30 X hQ  h)
  · replace h := zif_f h c9
    refine z_iload X dX1_putCell_12 0 rfl ?_
    refine z_aload_n X dX1_putCell_14 1 rfl ?_
    refine z_get (v := .ref (aO 1)) X 0 0 2 0 ziX1 rfl (by decide) zw192 rfl dX1_putCell_15 rfl rfl rfl ?_
    refine z_alen (v := (84 : Int32)) X 0 1 2 rfl rfl dX1_putCell_18 rfl rfl ?_
    refine z_icmp_ge (tgt := 30) X dX1_putCell_19 (by decide) (fun c19 => ?_) (fun c19 => ?_)
    · replace h := zif_t h c19
      exact z_at (pc2 := 30) (lv2 := []) (st2 := []) (ws2 := [wX1 (zcT C) aO sO]) rfl rfl rfl [] rfl (bX1_putCell_30 X hQ  h)
    · replace h := zif_f h c19
      refine z_aload_n X dX1_putCell_22 1 rfl ?_
      refine z_get (v := .ref (aO 1)) X 0 0 2 0 ziX1 rfl (by decide) zw192 rfl dX1_putCell_23 rfl rfl rfl ?_
      refine z_iload X dX1_putCell_26 0 rfl ?_
      refine z_lload_n X dX1_putCell_28 4 rfl ?_
      obtain ⟨g29, h⟩ := zgd_of h
      obtain ⟨sO29, esO29, h⟩ := zlet_of h
      refine z_last (ws2 := [wX1 (zcT C) aO sO29]) X 0 1 g29 dX1_putCell_29 rfl rfl (by decide) (w2 := wX1 (zcT C) aO sO29) (by rw [esO29]; rfl) rfl ?_
      exact z_at (pc2 := 30) (lv2 := []) (st2 := []) (ws2 := [wX1 (zcT C) aO sO29]) rfl rfl rfl [] rfl (bX1_putCell_30 X hQ  h)
theorem metX1_putCell (l : Launch) (D : va_G) (T : Nat → ClassId) (aO : Nat → Nat) {sO : zSt} {x1 : Int32} {x2 : Int32} {x3 : Int64} {out : zSt} (hf : fX1_putCell sO x1 x2 x3 = some out) (sz : Nat) : Met l yX1_putCell (zws yX1_putCell cX1_putCell 6 none) rmX1_putCell (zPc D T [.ref (aO 0), .int x1, .int x2, .long x3] [wX1 T aO sO] sz) (zQv D [wX1 T aO out] (zA [wX1 T aO sO] sz)) 0 0 (zA [wX1 T aO sO] sz) :=
  zMet (D := D) (T := T) (av := [.ref (aO 0), .int x1, .int x2, .long x3]) (ws := fun T => [wX1 T aO sO]) (wm := fun T => [wX1 T aO sO]) (lv0 := [(0, .ref (aO 0)), (1, .int x1), (2, .int x2), (3, .long x3)]) [0] (Qc := fun D T A => zQv D [wX1 T aO out] A) (by decide +kernel) rfl (Nat.le_of_ble_eq_true rfl) rfl (fun C X hQ => bX1_putCell_0 X hQ hf) sz
/-- private void putLine(Tableaufloor$Program, Tableaufloor$Sides, int); of Tableaufloor$Dictionary -/
abbrev rmX1_putLine : Room := { frames := 1, cells := 0, slots := 0, locals := 25 }
def fX1_putLine_16 (sP : zSt) (sS : zSt) : Nat → zSt → Int32 → Int32 → Int64 → Int32 → Option (zSt)
  | 0, _, _, _, _, _ => none
  | n + 1, sO, x3, x4, x5, x7 =>
    (if (3 : Int32) ≤ x7 then
      ((fX1_putCell sO x3 (3 : Int32) x5).bind (fun o67 =>
        some (o67)))
    else
      ((fX7_slopeOf sS x4 x7).bind (fun o27 =>
        ((fX1_putCell sO x3 x7 o27).bind (fun o38 =>
        ((fX5_leastOf sP x7).bind (fun o48 =>
        (zlet (x5 + (o27 * ((o48).toInt64))) (fun v54 =>
        (zlet (x7 + 1) (fun v56 =>
        (fX1_putLine_16 sP sS n o38 x3 x4 v54 v56))))))))))))
def fX1_putLine (sO : zSt) (sP : zSt) (sS : zSt) (x3 : Int32) : Option (zSt) :=
  (zlet ((3 : Int32) + x3) (fun v3 =>
    ((fX7_constantOf sS v3).bind (fun o8 =>
    (fX1_putLine_16 sP sS 6000 sO x3 v3 o8 (0 : Int32))))))
theorem bX1_putLine_16 {C : zCtx} (X : zFx C cX1_putLine 10 RX1 rmX1_putLine none) {aO : Nat → Nat} {aP : Nat → Nat} {aS : Nat → Nat} {sP : zSt} {sS : zSt} {out : zSt} (hQ : zHv C [wX1 (zcT C) aO out] 0 0) : ∀ (n : Nat) (sO : zSt) (x3 : Int32) (x4 : Int32) (x5 : Int64) (x7 : Int32), fX1_putLine_16 sP sS n sO x3 x4 x5 x7 = some out → zG C 10 [0] 0 0 [wX1 (zcT C) aO sO, wX5 (zcT C) aP sP, wX7 (zcT C) aS sS] 16 [(0, .ref (aO 0)), (1, .ref (aP 0)), (2, .ref (aS 0)), (3, .int x3), (4, .int x4), (5, .long x5), (7, .int x7)] [] := by
  intro n
  induction n with
  | zero =>
    intro sO x3 x4 x5 x7 h
    rw [fX1_putLine_16] at h
    exact zno h
  | succ n ih =>
    intro sO x3 x4 x5 x7 h
    rw [fX1_putLine_16] at h
    refine z_iload X dX1_putLine_16 6 rfl ?_
    refine z_iconst (v := (3 : Int32)) X dX1_putLine_18 rfl ?_
    refine z_icmp_ge (tgt := 62) X dX1_putLine_19 (by decide) (fun c19 => ?_) (fun c19 => ?_)
    · replace h := zif_t h c19
      refine z_aload_n X dX1_putLine_62 0 rfl ?_
      refine z_iload_n X dX1_putLine_63 3 rfl ?_
      refine z_iconst (v := (3 : Int32)) X dX1_putLine_64 rfl ?_
      refine z_lload X dX1_putLine_65 5 rfl ?_
      obtain ⟨o67, ho67, h⟩ := zbind_of h
      refine z_callVv (st := []) (ws2 := [wX1 (zcT C) aO o67, wX5 (zcT C) aP sP, wX7 (zcT C) aS sS]) X (metX1_putCell (zcl C) (zcD C) (zcT C) aO ho67) zmX1_putCell zw561 dX1_putLine_67 0 0 2 rfl rfl rfl rfl [0] rfl rfl [0] rfl (by decide) ⟨zsX1 , trivial⟩ rfl rfl rfl (Nat.le_of_ble_eq_true rfl) rfl rfl ⟨Nat.le_of_ble_eq_true rfl, Nat.le_of_ble_eq_true rfl⟩ ⟨Nat.le_of_ble_eq_true rfl, Nat.le_of_ble_eq_true rfl⟩ ?_
      cases h
      exact z_vret X hQ dX1_putLine_70 [0] rfl (by decide) (by decide)
    · replace h := zif_f h c19
      refine z_aload_n X dX1_putLine_22 2 rfl ?_
      refine z_iload X dX1_putLine_23 4 rfl ?_
      refine z_iload X dX1_putLine_25 6 rfl ?_
      obtain ⟨o27, ho27, h⟩ := zbind_of h
      refine z_callVl (st := []) (ws2 := [wX1 (zcT C) aO sO, wX5 (zcT C) aP sP, wX7 (zcT C) aS sS]) X (metX7_slopeOf (zcl C) (zcD C) (zcT C) aS ho27) zmX7_slopeOf zw557 dX1_putLine_27 2 0 8 rfl rfl rfl rfl [2] rfl rfl [] rfl (by decide) trivial rfl rfl rfl (Nat.le_of_ble_eq_true rfl) rfl rfl ⟨Nat.le_of_ble_eq_true rfl, Nat.le_of_ble_eq_true rfl⟩ ⟨Nat.le_of_ble_eq_true rfl, Nat.le_of_ble_eq_true rfl⟩ ?_
      refine z_lstore (lv2 := [(8, .long o27), (0, .ref (aO 0)), (1, .ref (aP 0)), (2, .ref (aS 0)), (3, .int x3), (4, .int x4), (5, .long x5), (7, .int x7)]) X dX1_putLine_30 (by decide) rfl ?_
      refine z_aload_n X dX1_putLine_32 1 rfl ?_
      refine z_iload_n X dX1_putLine_33 4 rfl ?_
      refine z_iload X dX1_putLine_34 7 rfl ?_
      refine z_lload X dX1_putLine_36 0 rfl ?_
      obtain ⟨o38, ho38, h⟩ := zbind_of h
      refine z_callVv (st := []) (ws2 := [wX1 (zcT C) aO o38, wX5 (zcT C) aP sP, wX7 (zcT C) aS sS]) X (metX1_putCell (zcl C) (zcD C) (zcT C) aO ho38) zmX1_putCell zw561 dX1_putLine_38 0 0 2 rfl rfl rfl rfl [0] rfl rfl [0] rfl (by decide) ⟨zsX1 , trivial⟩ rfl rfl rfl (Nat.le_of_ble_eq_true rfl) rfl rfl ⟨Nat.le_of_ble_eq_true rfl, Nat.le_of_ble_eq_true rfl⟩ ⟨Nat.le_of_ble_eq_true rfl, Nat.le_of_ble_eq_true rfl⟩ ?_
      refine z_lload X dX1_putLine_41 6 rfl ?_
      refine z_lload X dX1_putLine_43 0 rfl ?_
      refine z_aload_n X dX1_putLine_45 2 rfl ?_
      refine z_iload X dX1_putLine_46 7 rfl ?_
      obtain ⟨o48, ho48, h⟩ := zbind_of h
      refine z_callVi (st := [.long o27, .long x5]) (ws2 := [wX1 (zcT C) aO o38, wX5 (zcT C) aP sP, wX7 (zcT C) aS sS]) X (metX5_leastOf (zcl C) (zcD C) (zcT C) aP ho48) zmX5_leastOf zw565 dX1_putLine_48 1 0 6 rfl rfl rfl rfl [1] rfl rfl [] rfl (by decide) trivial rfl rfl rfl (Nat.le_of_ble_eq_true rfl) rfl rfl ⟨Nat.le_of_ble_eq_true rfl, Nat.le_of_ble_eq_true rfl⟩ ⟨Nat.le_of_ble_eq_true rfl, Nat.le_of_ble_eq_true rfl⟩ ?_
      refine z_i2l X dX1_putLine_51 ?_
      refine z_lmul X dX1_putLine_52 ?_
      refine z_ladd X dX1_putLine_53 ?_
      obtain ⟨v54, ev54, h⟩ := zlet_of h
      refine z_topl ev54 ?_
      refine z_lstore (lv2 := [(5, .long v54), (8, .long o27), (0, .ref (aO 0)), (1, .ref (aP 0)), (2, .ref (aS 0)), (3, .int x3), (4, .int x4), (7, .int x7)]) X dX1_putLine_54 (by decide) rfl ?_
      obtain ⟨v56, ev56, h⟩ := zlet_of h
      refine z_iinc (v := v56) (lv2 := [(7, .int v56), (5, .long v54), (8, .long o27), (0, .ref (aO 0)), (1, .ref (aP 0)), (2, .ref (aS 0)), (3, .int x3), (4, .int x4)]) X dX1_putLine_56 (k := 7) rfl (by rw [ev56]; rfl) (by decide) rfl ?_
      refine z_goto (tgt := 16) X dX1_putLine_59 (by decide) ?_
      exact z_at (pc2 := 16) (lv2 := [(0, .ref (aO 0)), (1, .ref (aP 0)), (2, .ref (aS 0)), (3, .int x3), (4, .int x4), (5, .long v54), (7, .int v56)]) (st2 := []) (ws2 := [wX1 (zcT C) aO o38, wX5 (zcT C) aP sP, wX7 (zcT C) aS sS]) rfl rfl rfl [3, 4, 5, 6, 7, 1, 0] rfl (ih o38 x3 x4 v54 v56 h)
theorem bX1_putLine_0 {C : zCtx} (X : zFx C cX1_putLine 10 RX1 rmX1_putLine none) {aO : Nat → Nat} {aP : Nat → Nat} {aS : Nat → Nat} {sO : zSt} {sP : zSt} {sS : zSt} {x3 : Int32} {out : zSt} (hQ : zHv C [wX1 (zcT C) aO out] 0 0) (h : fX1_putLine sO sP sS x3 = some out) : zG C 10 [0] 0 0 [wX1 (zcT C) aO sO, wX5 (zcT C) aP sP, wX7 (zcT C) aS sS] 0 [(0, .ref (aO 0)), (1, .ref (aP 0)), (2, .ref (aS 0)), (3, .int x3)] [] := by
  unfold fX1_putLine at h
  refine z_iconst (v := (3 : Int32)) X dX1_putLine_0 rfl ?_
  refine z_iload_n X dX1_putLine_1 3 rfl ?_
  refine z_iadd X dX1_putLine_2 ?_
  obtain ⟨v3, ev3, h⟩ := zlet_of h
  refine z_topi ev3 ?_
  refine z_istore (lv2 := [(4, .int v3), (0, .ref (aO 0)), (1, .ref (aP 0)), (2, .ref (aS 0)), (3, .int x3)]) X dX1_putLine_3 (by decide) rfl ?_
  refine z_aload_n X dX1_putLine_5 3 rfl ?_
  refine z_iload X dX1_putLine_6 0 rfl ?_
  obtain ⟨o8, ho8, h⟩ := zbind_of h
  refine z_callVl (st := []) (ws2 := [wX1 (zcT C) aO sO, wX5 (zcT C) aP sP, wX7 (zcT C) aS sS]) X (metX7_constantOf (zcl C) (zcD C) (zcT C) aS ho8) zmX7_constantOf zw553 dX1_putLine_8 2 0 8 rfl rfl rfl rfl [2] rfl rfl [] rfl (by decide) trivial rfl rfl rfl (Nat.le_of_ble_eq_true rfl) rfl rfl ⟨Nat.le_of_ble_eq_true rfl, Nat.le_of_ble_eq_true rfl⟩ ⟨Nat.le_of_ble_eq_true rfl, Nat.le_of_ble_eq_true rfl⟩ ?_
  refine z_lstore (lv2 := [(5, .long o8), (4, .int v3), (0, .ref (aO 0)), (1, .ref (aP 0)), (2, .ref (aS 0)), (3, .int x3)]) X dX1_putLine_11 (by decide) rfl ?_
  refine z_iconst (v := (0 : Int32)) X dX1_putLine_13 rfl ?_
  refine z_istore (lv2 := [(7, .int (0 : Int32)), (5, .long o8), (4, .int v3), (0, .ref (aO 0)), (1, .ref (aP 0)), (2, .ref (aS 0)), (3, .int x3)]) X dX1_putLine_14 (by decide) rfl ?_
  exact z_at (pc2 := 16) (lv2 := [(0, .ref (aO 0)), (1, .ref (aP 0)), (2, .ref (aS 0)), (3, .int x3), (4, .int v3), (5, .long o8), (7, .int (0 : Int32))]) (st2 := []) (ws2 := [wX1 (zcT C) aO sO, wX5 (zcT C) aP sP, wX7 (zcT C) aS sS]) rfl rfl rfl [3, 4, 5, 6, 2, 1, 0] rfl (bX1_putLine_16 X hQ  6000 sO x3 v3 o8 (0 : Int32) h)
theorem metX1_putLine (l : Launch) (D : va_G) (T : Nat → ClassId) (aO : Nat → Nat) (aP : Nat → Nat) (aS : Nat → Nat) {sO : zSt} {sP : zSt} {sS : zSt} {x3 : Int32} {out : zSt} (hf : fX1_putLine sO sP sS x3 = some out) (sz : Nat) : Met l yX1_putLine (zws yX1_putLine cX1_putLine 10 none) rmX1_putLine (zPc D T [.ref (aO 0), .ref (aP 0), .ref (aS 0), .int x3] [wX1 T aO sO, wX5 T aP sP, wX7 T aS sS] sz) (zQv D [wX1 T aO out] (zA [wX1 T aO sO] sz)) 0 0 (zA [wX1 T aO sO] sz) :=
  zMet (D := D) (T := T) (av := [.ref (aO 0), .ref (aP 0), .ref (aS 0), .int x3]) (ws := fun T => [wX1 T aO sO, wX5 T aP sP, wX7 T aS sS]) (wm := fun T => [wX1 T aO sO]) (lv0 := [(0, .ref (aO 0)), (1, .ref (aP 0)), (2, .ref (aS 0)), (3, .int x3)]) [0] (Qc := fun D T A => zQv D [wX1 T aO out] A) (by decide +kernel) rfl (Nat.le_of_ble_eq_true rfl) rfl (fun C X hQ => bX1_putLine_0 X hQ hf) sz
/-- static int goalOfAim(int); of Tableaufloor$Dictionary -/
abbrev rmX1_goalOfAim : Room := { frames := 0, cells := 0, slots := 0, locals := 0 }
def fX1_goalOfAim (x0 : Int32) : Option (Int32) :=
  some (((15 : Int32) + x0))
theorem bX1_goalOfAim_0 {C : zCtx} (X : zFx C cX1_goalOfAim 1 RX1 rmX1_goalOfAim (some .int)) {x0 : Int32} {out : Int32} (hQ : zHi C out [] 0 0) (h : fX1_goalOfAim x0 = some out) : zG C 1 [] 0 0 [] 0 [(0, .int x0)] [] := by
  unfold fX1_goalOfAim at h
  refine z_bipush (v := (15 : Int32)) X dX1_goalOfAim_0 rfl ?_
  refine z_iload_n X dX1_goalOfAim_2 0 rfl ?_
  refine z_iadd X dX1_goalOfAim_3 ?_
  cases h
  exact z_iret X hQ dX1_goalOfAim_4 rfl [] rfl (by decide) (by decide)
theorem metX1_goalOfAim (l : Launch) (D : va_G) (T : Nat → ClassId) {x0 : Int32} {out : Int32} (hf : fX1_goalOfAim x0 = some out) (sz : Nat) : Met l yX1_goalOfAim (zws yX1_goalOfAim cX1_goalOfAim 1 (some .int)) rmX1_goalOfAim (zPc D T [.int x0] [] sz) (zQi D out [] (zA [] sz)) 0 0 (zA [] sz) :=
  zMet (D := D) (T := T) (av := [.int x0]) (ws := fun T => []) (wm := fun T => []) (lv0 := [(0, .int x0)]) [] (Qc := fun D T A => zQi D out [] A) (by decide +kernel) rfl (Nat.le_of_ble_eq_true rfl) rfl (fun C X hQ => bX1_goalOfAim_0 X hQ hf) sz
/-- private void putAimGoal(Tableaufloor$Program, int); of Tableaufloor$Dictionary -/
abbrev rmX1_putAimGoal : Room := { frames := 1, cells := 0, slots := 0, locals := 25 }
def fX1_putAimGoal_38 (sP : zSt) (k2 : zSt → Int32 → Int32 → Option (zSt)) (sO : zSt) (x2 : Int32) (x3 : Int32) (y1 : Int32) (y2 : Int32) (y3 : Int64) : Option (zSt) :=
  ((fX1_putCell sO y1 y2 y3).bind (fun o38 =>
    (zlet (x3 + 1) (fun v41 =>
    (k2 o38 x2 v41)))))
def fX1_putAimGoal_2 (sP : zSt) : Nat → zSt → Int32 → Int32 → Option (zSt)
  | 0, _, _, _ => none
  | n + 1, sO, x2, x3 =>
    (if (3 : Int32) ≤ x3 then
      ((fX1_goalOfAim x2).bind (fun o49 =>
        ((fX1_putCell sO o49 (3 : Int32) (0 : Int64)).bind (fun o54 =>
        some (o54)))))
    else
      ((fX1_goalOfAim x2).bind (fun o9 =>
        (if (zgi sP 11) ≤ x2 then
        (fX1_putAimGoal_38 sP (fX1_putAimGoal_2 sP n) sO x2 x3 o9 x3 (0 : Int64))
      else
        ((fX5_directionOf sP x2).bind (fun o23 =>
          ((fX5_aimCoefficient sP x2 x3).bind (fun o29 =>
          (fX1_putAimGoal_38 sP (fX1_putAimGoal_2 sP n) sO x2 x3 o9 x3 (((o23 * o29)).toInt64))))))))))
def fX1_putAimGoal (sO : zSt) (sP : zSt) (x2 : Int32) : Option (zSt) :=
  (fX1_putAimGoal_2 sP 6000 sO x2 (0 : Int32))
theorem bX1_putAimGoal_38 {C : zCtx} (X : zFx C cX1_putAimGoal 4 RX1 rmX1_putAimGoal none) {aO : Nat → Nat} {aP : Nat → Nat} {sP : zSt} {k2 : zSt → Int32 → Int32 → Option (zSt)} {sO : zSt} {x2 : Int32} {x3 : Int32} {y1 : Int32} {y2 : Int32} {y3 : Int64} {out : zSt} (hQ : zHv C [wX1 (zcT C) aO out] 0 0) (hk2 : ∀ (sO : zSt) (x2 : Int32) (x3 : Int32), k2 sO x2 x3 = some out → zG C 4 [0] 0 0 [wX1 (zcT C) aO sO, wX5 (zcT C) aP sP] 2 [(0, .ref (aO 0)), (1, .ref (aP 0)), (2, .int x2), (3, .int x3)] []) (h : fX1_putAimGoal_38 sP k2 sO x2 x3 y1 y2 y3 = some out) : zG C 4 [0] 0 0 [wX1 (zcT C) aO sO, wX5 (zcT C) aP sP] 38 [(0, .ref (aO 0)), (1, .ref (aP 0)), (2, .int x2), (3, .int x3)] [.long y3, .int y2, .int y1, .ref (aO 0)] := by
  unfold fX1_putAimGoal_38 at h
  obtain ⟨o38, ho38, h⟩ := zbind_of h
  refine z_callVv (st := []) (ws2 := [wX1 (zcT C) aO o38, wX5 (zcT C) aP sP]) X (metX1_putCell (zcl C) (zcD C) (zcT C) aO ho38) zmX1_putCell zw561 dX1_putAimGoal_38 0 0 2 rfl rfl rfl rfl [0] rfl rfl [0] rfl (by decide) ⟨zsX1 , trivial⟩ rfl rfl rfl (Nat.le_of_ble_eq_true rfl) rfl rfl ⟨Nat.le_of_ble_eq_true rfl, Nat.le_of_ble_eq_true rfl⟩ ⟨Nat.le_of_ble_eq_true rfl, Nat.le_of_ble_eq_true rfl⟩ ?_
  obtain ⟨v41, ev41, h⟩ := zlet_of h
  refine z_iinc (v := v41) (lv2 := [(3, .int v41), (0, .ref (aO 0)), (1, .ref (aP 0)), (2, .int x2)]) X dX1_putAimGoal_41 (k := 3) rfl (by rw [ev41]; rfl) (by decide) rfl ?_
  refine z_goto (tgt := 2) X dX1_putAimGoal_44 (by decide) ?_
  exact z_at (pc2 := 2) (lv2 := [(0, .ref (aO 0)), (1, .ref (aP 0)), (2, .int x2), (3, .int v41)]) (st2 := []) (ws2 := [wX1 (zcT C) aO o38, wX5 (zcT C) aP sP]) rfl rfl rfl [1, 2, 3, 0] rfl (hk2 o38 x2 v41 h)
theorem bX1_putAimGoal_2 {C : zCtx} (X : zFx C cX1_putAimGoal 4 RX1 rmX1_putAimGoal none) {aO : Nat → Nat} {aP : Nat → Nat} {sP : zSt} {out : zSt} (hQ : zHv C [wX1 (zcT C) aO out] 0 0) : ∀ (n : Nat) (sO : zSt) (x2 : Int32) (x3 : Int32), fX1_putAimGoal_2 sP n sO x2 x3 = some out → zG C 4 [0] 0 0 [wX1 (zcT C) aO sO, wX5 (zcT C) aP sP] 2 [(0, .ref (aO 0)), (1, .ref (aP 0)), (2, .int x2), (3, .int x3)] [] := by
  intro n
  induction n with
  | zero =>
    intro sO x2 x3 h
    rw [fX1_putAimGoal_2] at h
    exact zno h
  | succ n ih =>
    intro sO x2 x3 h
    rw [fX1_putAimGoal_2] at h
    refine z_iload_n X dX1_putAimGoal_2 3 rfl ?_
    refine z_iconst (v := (3 : Int32)) X dX1_putAimGoal_3 rfl ?_
    refine z_icmp_ge (tgt := 47) X dX1_putAimGoal_4 (by decide) (fun c4 => ?_) (fun c4 => ?_)
    · replace h := zif_t h c4
      refine z_aload_n X dX1_putAimGoal_47 0 rfl ?_
      refine z_iload_n X dX1_putAimGoal_48 2 rfl ?_
      obtain ⟨o49, ho49, h⟩ := zbind_of h
      refine z_callSi (st := [.ref (aO 0)]) (ws2 := [wX1 (zcT C) aO sO, wX5 (zcT C) aP sP]) X (metX1_goalOfAim (zcl C) (zcD C) (zcT C)  ho49) zmX1_goalOfAim zw570 dX1_putAimGoal_49 [] rfl rfl [] rfl (by decide) trivial rfl rfl rfl (Nat.le_of_ble_eq_true rfl) rfl rfl ⟨Nat.le_of_ble_eq_true rfl, Nat.le_of_ble_eq_true rfl⟩ ⟨Nat.le_of_ble_eq_true rfl, Nat.le_of_ble_eq_true rfl⟩ ?_
      refine z_iconst (v := (3 : Int32)) X dX1_putAimGoal_52 rfl ?_
      refine z_lconst (v := (0 : Int64)) X dX1_putAimGoal_53 rfl ?_
      obtain ⟨o54, ho54, h⟩ := zbind_of h
      refine z_callVv (st := []) (ws2 := [wX1 (zcT C) aO o54, wX5 (zcT C) aP sP]) X (metX1_putCell (zcl C) (zcD C) (zcT C) aO ho54) zmX1_putCell zw561 dX1_putAimGoal_54 0 0 2 rfl rfl rfl rfl [0] rfl rfl [0] rfl (by decide) ⟨zsX1 , trivial⟩ rfl rfl rfl (Nat.le_of_ble_eq_true rfl) rfl rfl ⟨Nat.le_of_ble_eq_true rfl, Nat.le_of_ble_eq_true rfl⟩ ⟨Nat.le_of_ble_eq_true rfl, Nat.le_of_ble_eq_true rfl⟩ ?_
      cases h
      exact z_vret X hQ dX1_putAimGoal_57 [0] rfl (by decide) (by decide)
    · replace h := zif_f h c4
      refine z_aload_n X dX1_putAimGoal_7 0 rfl ?_
      refine z_iload_n X dX1_putAimGoal_8 2 rfl ?_
      obtain ⟨o9, ho9, h⟩ := zbind_of h
      refine z_callSi (st := [.ref (aO 0)]) (ws2 := [wX1 (zcT C) aO sO, wX5 (zcT C) aP sP]) X (metX1_goalOfAim (zcl C) (zcD C) (zcT C)  ho9) zmX1_goalOfAim zw570 dX1_putAimGoal_9 [] rfl rfl [] rfl (by decide) trivial rfl rfl rfl (Nat.le_of_ble_eq_true rfl) rfl rfl ⟨Nat.le_of_ble_eq_true rfl, Nat.le_of_ble_eq_true rfl⟩ ⟨Nat.le_of_ble_eq_true rfl, Nat.le_of_ble_eq_true rfl⟩ ?_
      refine z_iload_n X dX1_putAimGoal_12 3 rfl ?_
      refine z_iload_n X dX1_putAimGoal_13 2 rfl ?_
      refine z_aload_n X dX1_putAimGoal_14 1 rfl ?_
      refine z_getN (v := .int (zgi sP 11)) X 1 0 6 11 ziX5 rfl (by decide) zw70 rfl dX1_putAimGoal_15 rfl rfl rfl ?_
      refine z_icmp_ge (tgt := 37) X dX1_putAimGoal_18 (by decide) (fun c18 => ?_) (fun c18 => ?_)
      · replace h := zif_t h c18
        refine z_lconst (v := (0 : Int64)) X dX1_putAimGoal_37 rfl ?_
        exact z_at (pc2 := 38) (lv2 := [(0, .ref (aO 0)), (1, .ref (aP 0)), (2, .int x2), (3, .int x3)]) (st2 := [.long (0 : Int64), .int x3, .int o9, .ref (aO 0)]) (ws2 := [wX1 (zcT C) aO sO, wX5 (zcT C) aP sP]) rfl rfl rfl [0, 1, 2, 3] rfl (bX1_putAimGoal_38 X hQ ih h)
      · replace h := zif_f h c18
        refine z_aload_n X dX1_putAimGoal_21 1 rfl ?_
        refine z_iload_n X dX1_putAimGoal_22 2 rfl ?_
        obtain ⟨o23, ho23, h⟩ := zbind_of h
        refine z_callVi (st := [.int x3, .int o9, .ref (aO 0)]) (ws2 := [wX1 (zcT C) aO sO, wX5 (zcT C) aP sP]) X (metX5_directionOf (zcl C) (zcD C) (zcT C) aP ho23) zmX5_directionOf zw573 dX1_putAimGoal_23 1 0 6 rfl rfl rfl rfl [1] rfl rfl [] rfl (by decide) trivial rfl rfl rfl (Nat.le_of_ble_eq_true rfl) rfl rfl ⟨Nat.le_of_ble_eq_true rfl, Nat.le_of_ble_eq_true rfl⟩ ⟨Nat.le_of_ble_eq_true rfl, Nat.le_of_ble_eq_true rfl⟩ ?_
        refine z_aload_n X dX1_putAimGoal_26 1 rfl ?_
        refine z_iload_n X dX1_putAimGoal_27 2 rfl ?_
        refine z_iload_n X dX1_putAimGoal_28 3 rfl ?_
        obtain ⟨o29, ho29, h⟩ := zbind_of h
        refine z_callVi (st := [.int o23, .int x3, .int o9, .ref (aO 0)]) (ws2 := [wX1 (zcT C) aO sO, wX5 (zcT C) aP sP]) X (metX5_aimCoefficient (zcl C) (zcD C) (zcT C) aP ho29) zmX5_aimCoefficient zw577 dX1_putAimGoal_29 1 0 6 rfl rfl rfl rfl [1] rfl rfl [] rfl (by decide) trivial rfl rfl rfl (Nat.le_of_ble_eq_true rfl) rfl rfl ⟨Nat.le_of_ble_eq_true rfl, Nat.le_of_ble_eq_true rfl⟩ ⟨Nat.le_of_ble_eq_true rfl, Nat.le_of_ble_eq_true rfl⟩ ?_
        refine z_imul X dX1_putAimGoal_32 ?_
        refine z_i2l X dX1_putAimGoal_33 ?_
        refine z_goto (tgt := 38) X dX1_putAimGoal_34 (by decide) ?_
        exact z_at (pc2 := 38) (lv2 := [(0, .ref (aO 0)), (1, .ref (aP 0)), (2, .int x2), (3, .int x3)]) (st2 := [.long (((o23 * o29)).toInt64), .int x3, .int o9, .ref (aO 0)]) (ws2 := [wX1 (zcT C) aO sO, wX5 (zcT C) aP sP]) rfl rfl rfl [0, 1, 2, 3] rfl (bX1_putAimGoal_38 X hQ ih h)
theorem bX1_putAimGoal_0 {C : zCtx} (X : zFx C cX1_putAimGoal 4 RX1 rmX1_putAimGoal none) {aO : Nat → Nat} {aP : Nat → Nat} {sO : zSt} {sP : zSt} {x2 : Int32} {out : zSt} (hQ : zHv C [wX1 (zcT C) aO out] 0 0) (h : fX1_putAimGoal sO sP x2 = some out) : zG C 4 [0] 0 0 [wX1 (zcT C) aO sO, wX5 (zcT C) aP sP] 0 [(0, .ref (aO 0)), (1, .ref (aP 0)), (2, .int x2)] [] := by
  unfold fX1_putAimGoal at h
  refine z_iconst (v := (0 : Int32)) X dX1_putAimGoal_0 rfl ?_
  refine z_istore_n (lv2 := [(3, .int (0 : Int32)), (0, .ref (aO 0)), (1, .ref (aP 0)), (2, .int x2)]) X dX1_putAimGoal_1 rfl (by decide) rfl ?_
  exact z_at (pc2 := 2) (lv2 := [(0, .ref (aO 0)), (1, .ref (aP 0)), (2, .int x2), (3, .int (0 : Int32))]) (st2 := []) (ws2 := [wX1 (zcT C) aO sO, wX5 (zcT C) aP sP]) rfl rfl rfl [1, 2, 3, 0] rfl (bX1_putAimGoal_2 X hQ  6000 sO x2 (0 : Int32) h)
theorem metX1_putAimGoal (l : Launch) (D : va_G) (T : Nat → ClassId) (aO : Nat → Nat) (aP : Nat → Nat) {sO : zSt} {sP : zSt} {x2 : Int32} {out : zSt} (hf : fX1_putAimGoal sO sP x2 = some out) (sz : Nat) : Met l yX1_putAimGoal (zws yX1_putAimGoal cX1_putAimGoal 4 none) rmX1_putAimGoal (zPc D T [.ref (aO 0), .ref (aP 0), .int x2] [wX1 T aO sO, wX5 T aP sP] sz) (zQv D [wX1 T aO out] (zA [wX1 T aO sO] sz)) 0 0 (zA [wX1 T aO sO] sz) :=
  zMet (D := D) (T := T) (av := [.ref (aO 0), .ref (aP 0), .int x2]) (ws := fun T => [wX1 T aO sO, wX5 T aP sP]) (wm := fun T => [wX1 T aO sO]) (lv0 := [(0, .ref (aO 0)), (1, .ref (aP 0)), (2, .int x2)]) [0] (Qc := fun D T A => zQv D [wX1 T aO out] A) (by decide +kernel) rfl (Nat.le_of_ble_eq_true rfl) rfl (fun C X hQ => bX1_putAimGoal_0 X hQ hf) sz
/-- static int goalOfLeast(int); of Tableaufloor$Dictionary -/
abbrev rmX1_goalOfLeast : Room := { frames := 0, cells := 0, slots := 0, locals := 0 }
def fX1_goalOfLeast (x0 : Int32) : Option (Int32) :=
  some (((18 : Int32) + x0))
theorem bX1_goalOfLeast_0 {C : zCtx} (X : zFx C cX1_goalOfLeast 1 RX1 rmX1_goalOfLeast (some .int)) {x0 : Int32} {out : Int32} (hQ : zHi C out [] 0 0) (h : fX1_goalOfLeast x0 = some out) : zG C 1 [] 0 0 [] 0 [(0, .int x0)] [] := by
  unfold fX1_goalOfLeast at h
  refine z_bipush (v := (18 : Int32)) X dX1_goalOfLeast_0 rfl ?_
  refine z_iload_n X dX1_goalOfLeast_2 0 rfl ?_
  refine z_iadd X dX1_goalOfLeast_3 ?_
  cases h
  exact z_iret X hQ dX1_goalOfLeast_4 rfl [] rfl (by decide) (by decide)
theorem metX1_goalOfLeast (l : Launch) (D : va_G) (T : Nat → ClassId) {x0 : Int32} {out : Int32} (hf : fX1_goalOfLeast x0 = some out) (sz : Nat) : Met l yX1_goalOfLeast (zws yX1_goalOfLeast cX1_goalOfLeast 1 (some .int)) rmX1_goalOfLeast (zPc D T [.int x0] [] sz) (zQi D out [] (zA [] sz)) 0 0 (zA [] sz) :=
  zMet (D := D) (T := T) (av := [.int x0]) (ws := fun T => []) (wm := fun T => []) (lv0 := [(0, .int x0)]) [] (Qc := fun D T A => zQi D out [] A) (by decide +kernel) rfl (Nat.le_of_ble_eq_true rfl) rfl (fun C X hQ => bX1_goalOfLeast_0 X hQ hf) sz
/-- private void putLeastGoal(int); of Tableaufloor$Dictionary -/
abbrev rmX1_putLeastGoal : Room := { frames := 1, cells := 0, slots := 0, locals := 25 }
def fX1_putLeastGoal_25 (k2 : zSt → Int32 → Int32 → Option (zSt)) (sO : zSt) (x1 : Int32) (x2 : Int32) (y1 : Int32) (y2 : Int32) (y3 : Int64) : Option (zSt) :=
  ((fX1_putCell sO y1 y2 y3).bind (fun o25 =>
    (zlet (x2 + 1) (fun v28 =>
    (k2 o25 x1 v28)))))
def fX1_putLeastGoal_2 : Nat → zSt → Int32 → Int32 → Option (zSt)
  | 0, _, _, _ => none
  | n + 1, sO, x1, x2 =>
    (if (4 : Int32) ≤ x2 then
      some (sO)
    else
      ((fX1_goalOfLeast x1).bind (fun o9 =>
        (if x2 = x1 then
        (fX1_putLeastGoal_25 (fX1_putLeastGoal_2 n) sO x1 x2 o9 x2 (-1 : Int64))
      else
        (fX1_putLeastGoal_25 (fX1_putLeastGoal_2 n) sO x1 x2 o9 x2 (0 : Int64))))))
def fX1_putLeastGoal (sO : zSt) (x1 : Int32) : Option (zSt) :=
  (fX1_putLeastGoal_2 6000 sO x1 (0 : Int32))
theorem bX1_putLeastGoal_25 {C : zCtx} (X : zFx C cX1_putLeastGoal 3 RX1 rmX1_putLeastGoal none) {aO : Nat → Nat} {k2 : zSt → Int32 → Int32 → Option (zSt)} {sO : zSt} {x1 : Int32} {x2 : Int32} {y1 : Int32} {y2 : Int32} {y3 : Int64} {out : zSt} (hQ : zHv C [wX1 (zcT C) aO out] 0 0) (hk2 : ∀ (sO : zSt) (x1 : Int32) (x2 : Int32), k2 sO x1 x2 = some out → zG C 3 [0] 0 0 [wX1 (zcT C) aO sO] 2 [(0, .ref (aO 0)), (1, .int x1), (2, .int x2)] []) (h : fX1_putLeastGoal_25 k2 sO x1 x2 y1 y2 y3 = some out) : zG C 3 [0] 0 0 [wX1 (zcT C) aO sO] 25 [(0, .ref (aO 0)), (1, .int x1), (2, .int x2)] [.long y3, .int y2, .int y1, .ref (aO 0)] := by
  unfold fX1_putLeastGoal_25 at h
  obtain ⟨o25, ho25, h⟩ := zbind_of h
  refine z_callVv (st := []) (ws2 := [wX1 (zcT C) aO o25]) X (metX1_putCell (zcl C) (zcD C) (zcT C) aO ho25) zmX1_putCell zw561 dX1_putLeastGoal_25 0 0 2 rfl rfl rfl rfl [0] rfl rfl [0] rfl (by decide) ⟨zsX1 , trivial⟩ rfl rfl rfl (Nat.le_of_ble_eq_true rfl) rfl rfl ⟨Nat.le_of_ble_eq_true rfl, Nat.le_of_ble_eq_true rfl⟩ ⟨Nat.le_of_ble_eq_true rfl, Nat.le_of_ble_eq_true rfl⟩ ?_
  obtain ⟨v28, ev28, h⟩ := zlet_of h
  refine z_iinc (v := v28) (lv2 := [(2, .int v28), (0, .ref (aO 0)), (1, .int x1)]) X dX1_putLeastGoal_28 (k := 2) rfl (by rw [ev28]; rfl) (by decide) rfl ?_
  refine z_goto (tgt := 2) X dX1_putLeastGoal_31 (by decide) ?_
  exact z_at (pc2 := 2) (lv2 := [(0, .ref (aO 0)), (1, .int x1), (2, .int v28)]) (st2 := []) (ws2 := [wX1 (zcT C) aO o25]) rfl rfl rfl [1, 2, 0] rfl (hk2 o25 x1 v28 h)
theorem bX1_putLeastGoal_2 {C : zCtx} (X : zFx C cX1_putLeastGoal 3 RX1 rmX1_putLeastGoal none) {aO : Nat → Nat} {out : zSt} (hQ : zHv C [wX1 (zcT C) aO out] 0 0) : ∀ (n : Nat) (sO : zSt) (x1 : Int32) (x2 : Int32), fX1_putLeastGoal_2 n sO x1 x2 = some out → zG C 3 [0] 0 0 [wX1 (zcT C) aO sO] 2 [(0, .ref (aO 0)), (1, .int x1), (2, .int x2)] [] := by
  intro n
  induction n with
  | zero =>
    intro sO x1 x2 h
    rw [fX1_putLeastGoal_2] at h
    exact zno h
  | succ n ih =>
    intro sO x1 x2 h
    rw [fX1_putLeastGoal_2] at h
    refine z_iload_n X dX1_putLeastGoal_2 2 rfl ?_
    refine z_iconst (v := (4 : Int32)) X dX1_putLeastGoal_3 rfl ?_
    refine z_icmp_ge (tgt := 34) X dX1_putLeastGoal_4 (by decide) (fun c4 => ?_) (fun c4 => ?_)
    · replace h := zif_t h c4
      cases h
      exact z_vret X hQ dX1_putLeastGoal_34 [0] rfl (by decide) (by decide)
    · replace h := zif_f h c4
      refine z_aload_n X dX1_putLeastGoal_7 0 rfl ?_
      refine z_iload_n X dX1_putLeastGoal_8 1 rfl ?_
      obtain ⟨o9, ho9, h⟩ := zbind_of h
      refine z_callSi (st := [.ref (aO 0)]) (ws2 := [wX1 (zcT C) aO sO]) X (metX1_goalOfLeast (zcl C) (zcD C) (zcT C)  ho9) zmX1_goalOfLeast zw585 dX1_putLeastGoal_9 [] rfl rfl [] rfl (by decide) trivial rfl rfl rfl (Nat.le_of_ble_eq_true rfl) rfl rfl ⟨Nat.le_of_ble_eq_true rfl, Nat.le_of_ble_eq_true rfl⟩ ⟨Nat.le_of_ble_eq_true rfl, Nat.le_of_ble_eq_true rfl⟩ ?_
      refine z_iload_n X dX1_putLeastGoal_12 2 rfl ?_
      refine z_iload_n X dX1_putLeastGoal_13 2 rfl ?_
      refine z_iload_n X dX1_putLeastGoal_14 1 rfl ?_
      refine z_icmp_ne (tgt := 24) X dX1_putLeastGoal_15 (by decide) (fun c15 => ?_) (fun c15 => ?_)
      · replace h := zif_f h c15
        refine z_lconst (v := (0 : Int64)) X dX1_putLeastGoal_24 rfl ?_
        exact z_at (pc2 := 25) (lv2 := [(0, .ref (aO 0)), (1, .int x1), (2, .int x2)]) (st2 := [.long (0 : Int64), .int x2, .int o9, .ref (aO 0)]) (ws2 := [wX1 (zcT C) aO sO]) rfl rfl rfl [0, 1, 2] rfl (bX1_putLeastGoal_25 X hQ ih h)
      · replace h := zif_t h c15
        refine z_ldc2 (v := (-1 : Int64)) X zw588 dX1_putLeastGoal_18 ?_
        refine z_goto (tgt := 25) X dX1_putLeastGoal_21 (by decide) ?_
        exact z_at (pc2 := 25) (lv2 := [(0, .ref (aO 0)), (1, .int x1), (2, .int x2)]) (st2 := [.long (-1 : Int64), .int x2, .int o9, .ref (aO 0)]) (ws2 := [wX1 (zcT C) aO sO]) rfl rfl rfl [0, 1, 2] rfl (bX1_putLeastGoal_25 X hQ ih h)
theorem bX1_putLeastGoal_0 {C : zCtx} (X : zFx C cX1_putLeastGoal 3 RX1 rmX1_putLeastGoal none) {aO : Nat → Nat} {sO : zSt} {x1 : Int32} {out : zSt} (hQ : zHv C [wX1 (zcT C) aO out] 0 0) (h : fX1_putLeastGoal sO x1 = some out) : zG C 3 [0] 0 0 [wX1 (zcT C) aO sO] 0 [(0, .ref (aO 0)), (1, .int x1)] [] := by
  unfold fX1_putLeastGoal at h
  refine z_iconst (v := (0 : Int32)) X dX1_putLeastGoal_0 rfl ?_
  refine z_istore_n (lv2 := [(2, .int (0 : Int32)), (0, .ref (aO 0)), (1, .int x1)]) X dX1_putLeastGoal_1 rfl (by decide) rfl ?_
  exact z_at (pc2 := 2) (lv2 := [(0, .ref (aO 0)), (1, .int x1), (2, .int (0 : Int32))]) (st2 := []) (ws2 := [wX1 (zcT C) aO sO]) rfl rfl rfl [1, 2, 0] rfl (bX1_putLeastGoal_2 X hQ  6000 sO x1 (0 : Int32) h)
theorem metX1_putLeastGoal (l : Launch) (D : va_G) (T : Nat → ClassId) (aO : Nat → Nat) {sO : zSt} {x1 : Int32} {out : zSt} (hf : fX1_putLeastGoal sO x1 = some out) (sz : Nat) : Met l yX1_putLeastGoal (zws yX1_putLeastGoal cX1_putLeastGoal 3 none) rmX1_putLeastGoal (zPc D T [.ref (aO 0), .int x1] [wX1 T aO sO] sz) (zQv D [wX1 T aO out] (zA [wX1 T aO sO] sz)) 0 0 (zA [wX1 T aO sO] sz) :=
  zMet (D := D) (T := T) (av := [.ref (aO 0), .int x1]) (ws := fun T => [wX1 T aO sO]) (wm := fun T => [wX1 T aO sO]) (lv0 := [(0, .ref (aO 0)), (1, .int x1)]) [0] (Qc := fun D T A => zQv D [wX1 T aO out] A) (by decide +kernel) rfl (Nat.le_of_ble_eq_true rfl) rfl (fun C X hQ => bX1_putLeastGoal_0 X hQ hf) sz
/-- void begin(Tableaufloor$Program, Tableaufloor$Sides); of Tableaufloor$Dictionary -/
abbrev rmX1_begin : Room := { frames := 2, cells := 0, slots := 0, locals := 54 }
def fX1_begin_101 (sP : zSt) (sS : zSt) : Nat → zSt → Int32 → Option (zSt)
  | 0, _, _ => none
  | n + 1, sO, x3 =>
    (if (3 : Int32) ≤ x3 then
      some (sO)
    else
      ((fX1_putLeastGoal sO x3).bind (fun o108 =>
        (zlet (x3 + 1) (fun v111 =>
        (fX1_begin_101 sP sS n o108 v111))))))
def fX1_begin_82 (sP : zSt) (sS : zSt) : Nat → zSt → Int32 → Option (zSt)
  | 0, _, _ => none
  | n + 1, sO, x3 =>
    (if (3 : Int32) ≤ x3 then
      (fX1_begin_101 sP sS 6000 sO (0 : Int32))
    else
      ((fX1_putAimGoal sO sP x3).bind (fun o90 =>
        (zlet (x3 + 1) (fun v93 =>
        (fX1_begin_82 sP sS n o90 v93))))))
def fX1_begin_80 (sP : zSt) (sS : zSt) (sO : zSt) : Option (zSt) :=
  (fX1_begin_82 sP sS 6000 sO (0 : Int32))
def fX1_begin_41 (sP : zSt) (sS : zSt) : Nat → zSt → Int32 → Option (zSt)
  | 0, _, _ => none
  | n + 1, sO, x3 =>
    (if (zgi sO 3) ≤ x3 then
      (fX1_begin_80 sP sS sO)
    else
      (if (15 : Int32) ≤ x3 then
        (fX1_begin_80 sP sS sO)
      else
        (if zin x3 15 = true then
          (zlet (zsa sO 1 (upd (zga sO 1) (x3).toNatClampNeg ((3 : Int32) + x3))) (fun sO66 =>
          ((fX1_putLine sO66 sP sS x3).bind (fun o71 =>
          (zlet (x3 + 1) (fun v74 =>
          (fX1_begin_41 sP sS n o71 v74))))))) else none)))
def fX1_begin_17 (sP : zSt) (sS : zSt) : Nat → zSt → Int32 → Option (zSt)
  | 0, _, _ => none
  | n + 1, sO, x3 =>
    (if (3 : Int32) ≤ x3 then
      (fX1_begin_41 sP sS 6000 sO (0 : Int32))
    else
      (if zin x3 3 = true then
        (zlet (zsa sO 2 (upd (zga sO 2) (x3).toNatClampNeg x3)) (fun sO32 =>
        (zlet (x3 + 1) (fun v33 =>
        (fX1_begin_17 sP sS n sO32 v33))))) else none))
def fX1_begin (sO : zSt) (sP : zSt) (sS : zSt) : Option (zSt) :=
  (zlet (zsl sO 4 (1 : Int64)) (fun sO2 =>
    (zlet (zsi sO2 3 ((zgi sS 3) - (3 : Int32))) (fun sO12 =>
    (fX1_begin_17 sP sS 6000 sO12 (0 : Int32))))))
theorem bX1_begin_101 {C : zCtx} (X : zFx C cX1_begin 4 RX1 rmX1_begin none) {aO : Nat → Nat} {aP : Nat → Nat} {aS : Nat → Nat} {sP : zSt} {sS : zSt} {out : zSt} (hQ : zHv C [wX1 (zcT C) aO out] 0 0) : ∀ (n : Nat) (sO : zSt) (x3 : Int32), fX1_begin_101 sP sS n sO x3 = some out → zG C 4 [0] 0 0 [wX1 (zcT C) aO sO, wX5 (zcT C) aP sP, wX7 (zcT C) aS sS] 101 [(0, .ref (aO 0)), (3, .int x3)] [] := by
  intro n
  induction n with
  | zero =>
    intro sO x3 h
    rw [fX1_begin_101] at h
    exact zno h
  | succ n ih =>
    intro sO x3 h
    rw [fX1_begin_101] at h
    refine z_iload_n X dX1_begin_101 1 rfl ?_
    refine z_iconst (v := (3 : Int32)) X dX1_begin_102 rfl ?_
    refine z_icmp_ge (tgt := 117) X dX1_begin_103 (by decide) (fun c103 => ?_) (fun c103 => ?_)
    · replace h := zif_t h c103
      cases h
      exact z_vret X hQ dX1_begin_117 [0] rfl (by decide) (by decide)
    · replace h := zif_f h c103
      refine z_aload_n X dX1_begin_106 0 rfl ?_
      refine z_iload_n X dX1_begin_107 1 rfl ?_
      obtain ⟨o108, ho108, h⟩ := zbind_of h
      refine z_callVv (st := []) (ws2 := [wX1 (zcT C) aO o108, wX5 (zcT C) aP sP, wX7 (zcT C) aS sS]) X (metX1_putLeastGoal (zcl C) (zcD C) (zcT C) aO ho108) zmX1_putLeastGoal zw581 dX1_begin_108 0 0 2 rfl rfl rfl rfl [0] rfl rfl [0] rfl (by decide) ⟨zsX1 , trivial⟩ rfl rfl rfl (Nat.le_of_ble_eq_true rfl) rfl rfl ⟨Nat.le_of_ble_eq_true rfl, Nat.le_of_ble_eq_true rfl⟩ ⟨Nat.le_of_ble_eq_true rfl, Nat.le_of_ble_eq_true rfl⟩ ?_
      obtain ⟨v111, ev111, h⟩ := zlet_of h
      refine z_iinc (v := v111) (lv2 := [(3, .int v111), (0, .ref (aO 0))]) X dX1_begin_111 (k := 1) rfl (by rw [ev111]; rfl) (by decide) rfl ?_
      refine z_goto (tgt := 101) X dX1_begin_114 (by decide) ?_
      exact z_at (pc2 := 101) (lv2 := [(0, .ref (aO 0)), (3, .int v111)]) (st2 := []) (ws2 := [wX1 (zcT C) aO o108, wX5 (zcT C) aP sP, wX7 (zcT C) aS sS]) rfl rfl rfl [1, 0] rfl (ih o108 v111 h)
theorem bX1_begin_82 {C : zCtx} (X : zFx C cX1_begin 4 RX1 rmX1_begin none) {aO : Nat → Nat} {aP : Nat → Nat} {aS : Nat → Nat} {sP : zSt} {sS : zSt} {out : zSt} (hQ : zHv C [wX1 (zcT C) aO out] 0 0) : ∀ (n : Nat) (sO : zSt) (x3 : Int32), fX1_begin_82 sP sS n sO x3 = some out → zG C 4 [0] 0 0 [wX1 (zcT C) aO sO, wX5 (zcT C) aP sP, wX7 (zcT C) aS sS] 82 [(0, .ref (aO 0)), (1, .ref (aP 0)), (3, .int x3)] [] := by
  intro n
  induction n with
  | zero =>
    intro sO x3 h
    rw [fX1_begin_82] at h
    exact zno h
  | succ n ih =>
    intro sO x3 h
    rw [fX1_begin_82] at h
    refine z_iload_n X dX1_begin_82 2 rfl ?_
    refine z_iconst (v := (3 : Int32)) X dX1_begin_83 rfl ?_
    refine z_icmp_ge (tgt := 99) X dX1_begin_84 (by decide) (fun c84 => ?_) (fun c84 => ?_)
    · replace h := zif_t h c84
      refine z_iconst (v := (0 : Int32)) X dX1_begin_99 rfl ?_
      refine z_istore_n (lv2 := [(3, .int (0 : Int32)), (0, .ref (aO 0)), (1, .ref (aP 0))]) X dX1_begin_100 rfl (by decide) rfl ?_
      exact z_at (pc2 := 101) (lv2 := [(0, .ref (aO 0)), (3, .int (0 : Int32))]) (st2 := []) (ws2 := [wX1 (zcT C) aO sO, wX5 (zcT C) aP sP, wX7 (zcT C) aS sS]) rfl rfl rfl [1, 0] rfl (bX1_begin_101 X hQ  6000 sO (0 : Int32) h)
    · replace h := zif_f h c84
      refine z_aload_n X dX1_begin_87 0 rfl ?_
      refine z_aload_n X dX1_begin_88 1 rfl ?_
      refine z_iload_n X dX1_begin_89 2 rfl ?_
      obtain ⟨o90, ho90, h⟩ := zbind_of h
      refine z_callVv (st := []) (ws2 := [wX1 (zcT C) aO o90, wX5 (zcT C) aP sP, wX7 (zcT C) aS sS]) X (metX1_putAimGoal (zcl C) (zcD C) (zcT C) aO aP ho90) zmX1_putAimGoal zw566 dX1_begin_90 0 0 2 rfl rfl rfl rfl [0, 1] rfl rfl [0] rfl (by decide) ⟨zsX1 , trivial⟩ rfl rfl rfl (Nat.le_of_ble_eq_true rfl) rfl rfl ⟨Nat.le_of_ble_eq_true rfl, Nat.le_of_ble_eq_true rfl⟩ ⟨Nat.le_of_ble_eq_true rfl, Nat.le_of_ble_eq_true rfl⟩ ?_
      obtain ⟨v93, ev93, h⟩ := zlet_of h
      refine z_iinc (v := v93) (lv2 := [(3, .int v93), (0, .ref (aO 0)), (1, .ref (aP 0))]) X dX1_begin_93 (k := 2) rfl (by rw [ev93]; rfl) (by decide) rfl ?_
      refine z_goto (tgt := 82) X dX1_begin_96 (by decide) ?_
      exact z_at (pc2 := 82) (lv2 := [(0, .ref (aO 0)), (1, .ref (aP 0)), (3, .int v93)]) (st2 := []) (ws2 := [wX1 (zcT C) aO o90, wX5 (zcT C) aP sP, wX7 (zcT C) aS sS]) rfl rfl rfl [1, 2, 0] rfl (ih o90 v93 h)
theorem bX1_begin_80 {C : zCtx} (X : zFx C cX1_begin 4 RX1 rmX1_begin none) {aO : Nat → Nat} {aP : Nat → Nat} {aS : Nat → Nat} {sP : zSt} {sS : zSt} {sO : zSt} {out : zSt} (hQ : zHv C [wX1 (zcT C) aO out] 0 0) (h : fX1_begin_80 sP sS sO = some out) : zG C 4 [0] 0 0 [wX1 (zcT C) aO sO, wX5 (zcT C) aP sP, wX7 (zcT C) aS sS] 80 [(0, .ref (aO 0)), (1, .ref (aP 0))] [] := by
  unfold fX1_begin_80 at h
  refine z_iconst (v := (0 : Int32)) X dX1_begin_80 rfl ?_
  refine z_istore_n (lv2 := [(3, .int (0 : Int32)), (0, .ref (aO 0)), (1, .ref (aP 0))]) X dX1_begin_81 rfl (by decide) rfl ?_
  exact z_at (pc2 := 82) (lv2 := [(0, .ref (aO 0)), (1, .ref (aP 0)), (3, .int (0 : Int32))]) (st2 := []) (ws2 := [wX1 (zcT C) aO sO, wX5 (zcT C) aP sP, wX7 (zcT C) aS sS]) rfl rfl rfl [1, 2, 0] rfl (bX1_begin_82 X hQ  6000 sO (0 : Int32) h)
theorem bX1_begin_41 {C : zCtx} (X : zFx C cX1_begin 4 RX1 rmX1_begin none) {aO : Nat → Nat} {aP : Nat → Nat} {aS : Nat → Nat} {sP : zSt} {sS : zSt} {out : zSt} (hQ : zHv C [wX1 (zcT C) aO out] 0 0) : ∀ (n : Nat) (sO : zSt) (x3 : Int32), fX1_begin_41 sP sS n sO x3 = some out → zG C 4 [0] 0 0 [wX1 (zcT C) aO sO, wX5 (zcT C) aP sP, wX7 (zcT C) aS sS] 41 [(0, .ref (aO 0)), (1, .ref (aP 0)), (2, .ref (aS 0)), (3, .int x3)] [] := by
  intro n
  induction n with
  | zero =>
    intro sO x3 h
    rw [fX1_begin_41] at h
    exact zno h
  | succ n ih =>
    intro sO x3 h
    rw [fX1_begin_41] at h
    refine z_iload_n X dX1_begin_41 3 rfl ?_
    refine z_aload_n X dX1_begin_42 0 rfl ?_
    refine z_get (v := .int (zgi sO 3)) X 0 0 2 3 ziX1 rfl (by decide) zw195 rfl dX1_begin_43 rfl rfl rfl ?_
    refine z_icmp_ge (tgt := 80) X dX1_begin_46 (by decide) (fun c46 => ?_) (fun c46 => ?_)
    · replace h := zif_t h c46
      exact z_at (pc2 := 80) (lv2 := [(0, .ref (aO 0)), (1, .ref (aP 0))]) (st2 := []) (ws2 := [wX1 (zcT C) aO sO, wX5 (zcT C) aP sP, wX7 (zcT C) aS sS]) rfl rfl rfl [0, 1] rfl (bX1_begin_80 X hQ  h)
    · replace h := zif_f h c46
      refine z_iload_n X dX1_begin_49 3 rfl ?_
      refine z_aload_n X dX1_begin_50 0 rfl ?_
      refine z_get (v := .ref (aO 2)) X 0 0 2 1 ziX1 rfl (by decide) zw193 rfl dX1_begin_51 rfl rfl rfl ?_
      refine z_alen (v := (15 : Int32)) X 0 2 1 rfl rfl dX1_begin_54 rfl rfl ?_
      refine z_icmp_ge (tgt := 80) X dX1_begin_55 (by decide) (fun c55 => ?_) (fun c55 => ?_)
      · replace h := zif_t h c55
        exact z_at (pc2 := 80) (lv2 := [(0, .ref (aO 0)), (1, .ref (aP 0))]) (st2 := []) (ws2 := [wX1 (zcT C) aO sO, wX5 (zcT C) aP sP, wX7 (zcT C) aS sS]) rfl rfl rfl [0, 1] rfl (bX1_begin_80 X hQ  h)
      · replace h := zif_f h c55
        refine z_aload_n X dX1_begin_58 0 rfl ?_
        refine z_get (v := .ref (aO 2)) X 0 0 2 1 ziX1 rfl (by decide) zw193 rfl dX1_begin_59 rfl rfl rfl ?_
        refine z_iload_n X dX1_begin_62 3 rfl ?_
        refine z_iconst (v := (3 : Int32)) X dX1_begin_63 rfl ?_
        refine z_iload_n X dX1_begin_64 3 rfl ?_
        refine z_iadd X dX1_begin_65 ?_
        obtain ⟨g66, h⟩ := zgd_of h
        obtain ⟨sO66, esO66, h⟩ := zlet_of h
        refine z_iast (ws2 := [wX1 (zcT C) aO sO66, wX5 (zcT C) aP sP, wX7 (zcT C) aS sS]) X 0 2 g66 dX1_begin_66 rfl rfl (by decide) (w2 := wX1 (zcT C) aO sO66) (by rw [esO66]; rfl) rfl ?_
        refine z_aload_n X dX1_begin_67 0 rfl ?_
        refine z_aload_n X dX1_begin_68 1 rfl ?_
        refine z_aload_n X dX1_begin_69 2 rfl ?_
        refine z_iload_n X dX1_begin_70 3 rfl ?_
        obtain ⟨o71, ho71, h⟩ := zbind_of h
        refine z_callVv (st := []) (ws2 := [wX1 (zcT C) aO o71, wX5 (zcT C) aP sP, wX7 (zcT C) aS sS]) X (metX1_putLine (zcl C) (zcD C) (zcT C) aO aP aS ho71) zmX1_putLine zw549 dX1_begin_71 0 0 2 rfl rfl rfl rfl [0, 1, 2] rfl rfl [0] rfl (by decide) ⟨zsX1 , trivial⟩ rfl rfl rfl (Nat.le_of_ble_eq_true rfl) rfl rfl ⟨Nat.le_of_ble_eq_true rfl, Nat.le_of_ble_eq_true rfl⟩ ⟨Nat.le_of_ble_eq_true rfl, Nat.le_of_ble_eq_true rfl⟩ ?_
        obtain ⟨v74, ev74, h⟩ := zlet_of h
        refine z_iinc (v := v74) (lv2 := [(3, .int v74), (0, .ref (aO 0)), (1, .ref (aP 0)), (2, .ref (aS 0))]) X dX1_begin_74 (k := 3) rfl (by rw [ev74]; rfl) (by decide) rfl ?_
        refine z_goto (tgt := 41) X dX1_begin_77 (by decide) ?_
        exact z_at (pc2 := 41) (lv2 := [(0, .ref (aO 0)), (1, .ref (aP 0)), (2, .ref (aS 0)), (3, .int v74)]) (st2 := []) (ws2 := [wX1 (zcT C) aO o71, wX5 (zcT C) aP sP, wX7 (zcT C) aS sS]) rfl rfl rfl [1, 2, 3, 0] rfl (ih o71 v74 h)
theorem bX1_begin_17 {C : zCtx} (X : zFx C cX1_begin 4 RX1 rmX1_begin none) {aO : Nat → Nat} {aP : Nat → Nat} {aS : Nat → Nat} {sP : zSt} {sS : zSt} {out : zSt} (hQ : zHv C [wX1 (zcT C) aO out] 0 0) : ∀ (n : Nat) (sO : zSt) (x3 : Int32), fX1_begin_17 sP sS n sO x3 = some out → zG C 4 [0] 0 0 [wX1 (zcT C) aO sO, wX5 (zcT C) aP sP, wX7 (zcT C) aS sS] 17 [(0, .ref (aO 0)), (1, .ref (aP 0)), (2, .ref (aS 0)), (3, .int x3)] [] := by
  intro n
  induction n with
  | zero =>
    intro sO x3 h
    rw [fX1_begin_17] at h
    exact zno h
  | succ n ih =>
    intro sO x3 h
    rw [fX1_begin_17] at h
    refine z_iload_n X dX1_begin_17 3 rfl ?_
    refine z_aload_n X dX1_begin_18 0 rfl ?_
    refine z_get (v := .ref (aO 3)) X 0 0 2 2 ziX1 rfl (by decide) zw194 rfl dX1_begin_19 rfl rfl rfl ?_
    refine z_alen (v := (3 : Int32)) X 0 3 1 rfl rfl dX1_begin_22 rfl rfl ?_
    refine z_icmp_ge (tgt := 39) X dX1_begin_23 (by decide) (fun c23 => ?_) (fun c23 => ?_)
    · replace h := zif_t h c23
      refine z_iconst (v := (0 : Int32)) X dX1_begin_39 rfl ?_
      refine z_istore_n (lv2 := [(3, .int (0 : Int32)), (0, .ref (aO 0)), (1, .ref (aP 0)), (2, .ref (aS 0))]) X dX1_begin_40 rfl (by decide) rfl ?_
      exact z_at (pc2 := 41) (lv2 := [(0, .ref (aO 0)), (1, .ref (aP 0)), (2, .ref (aS 0)), (3, .int (0 : Int32))]) (st2 := []) (ws2 := [wX1 (zcT C) aO sO, wX5 (zcT C) aP sP, wX7 (zcT C) aS sS]) rfl rfl rfl [1, 2, 3, 0] rfl (bX1_begin_41 X hQ  6000 sO (0 : Int32) h)
    · replace h := zif_f h c23
      refine z_aload_n X dX1_begin_26 0 rfl ?_
      refine z_get (v := .ref (aO 3)) X 0 0 2 2 ziX1 rfl (by decide) zw194 rfl dX1_begin_27 rfl rfl rfl ?_
      refine z_iload_n X dX1_begin_30 3 rfl ?_
      refine z_iload_n X dX1_begin_31 3 rfl ?_
      obtain ⟨g32, h⟩ := zgd_of h
      obtain ⟨sO32, esO32, h⟩ := zlet_of h
      refine z_iast (ws2 := [wX1 (zcT C) aO sO32, wX5 (zcT C) aP sP, wX7 (zcT C) aS sS]) X 0 3 g32 dX1_begin_32 rfl rfl (by decide) (w2 := wX1 (zcT C) aO sO32) (by rw [esO32]; rfl) rfl ?_
      obtain ⟨v33, ev33, h⟩ := zlet_of h
      refine z_iinc (v := v33) (lv2 := [(3, .int v33), (0, .ref (aO 0)), (1, .ref (aP 0)), (2, .ref (aS 0))]) X dX1_begin_33 (k := 3) rfl (by rw [ev33]; rfl) (by decide) rfl ?_
      refine z_goto (tgt := 17) X dX1_begin_36 (by decide) ?_
      exact z_at (pc2 := 17) (lv2 := [(0, .ref (aO 0)), (1, .ref (aP 0)), (2, .ref (aS 0)), (3, .int v33)]) (st2 := []) (ws2 := [wX1 (zcT C) aO sO32, wX5 (zcT C) aP sP, wX7 (zcT C) aS sS]) rfl rfl rfl [1, 2, 3, 0] rfl (ih sO32 v33 h)
theorem bX1_begin_0 {C : zCtx} (X : zFx C cX1_begin 4 RX1 rmX1_begin none) {aO : Nat → Nat} {aP : Nat → Nat} {aS : Nat → Nat} {sO : zSt} {sP : zSt} {sS : zSt} {out : zSt} (hQ : zHv C [wX1 (zcT C) aO out] 0 0) (h : fX1_begin sO sP sS = some out) : zG C 4 [0] 0 0 [wX1 (zcT C) aO sO, wX5 (zcT C) aP sP, wX7 (zcT C) aS sS] 0 [(0, .ref (aO 0)), (1, .ref (aP 0)), (2, .ref (aS 0))] [] := by
  unfold fX1_begin at h
  refine z_aload_n X dX1_begin_0 0 rfl ?_
  refine z_lconst (v := (1 : Int64)) X dX1_begin_1 rfl ?_
  obtain ⟨sO2, esO2, h⟩ := zlet_of h
  refine z_put (ws2 := [wX1 (zcT C) aO sO2, wX5 (zcT C) aP sP, wX7 (zcT C) aS sS]) X 0 0 2 4 ziX1 rfl tyX1 tyX1_ok nmX1 (by decide) zw197 rfl rfl (ty := .long) (by decide +kernel) rfl rfl (by show 4 < 5; decide) dX1_begin_2 rfl rfl (by decide) (w2 := wX1 (zcT C) aO sO2) (by rw [esO2]; rfl) rfl ?_
  refine z_aload_n X dX1_begin_5 0 rfl ?_
  refine z_aload_n X dX1_begin_6 2 rfl ?_
  refine z_getN (v := .int (zgi sS 3)) X 2 0 8 3 ziX7 rfl (by decide) zw174 rfl dX1_begin_7 rfl rfl rfl ?_
  refine z_iconst (v := (3 : Int32)) X dX1_begin_10 rfl ?_
  refine z_isub X dX1_begin_11 ?_
  obtain ⟨sO12, esO12, h⟩ := zlet_of h
  refine z_put (ws2 := [wX1 (zcT C) aO sO12, wX5 (zcT C) aP sP, wX7 (zcT C) aS sS]) X 0 0 2 3 ziX1 rfl tyX1 tyX1_ok nmX1 (by decide) zw195 rfl rfl (ty := .int) (by decide +kernel) rfl rfl (by show 3 < 5; decide) dX1_begin_12 rfl rfl (by decide) (w2 := wX1 (zcT C) aO sO12) (by rw [esO12]; rfl) rfl ?_
  refine z_iconst (v := (0 : Int32)) X dX1_begin_15 rfl ?_
  refine z_istore_n (lv2 := [(3, .int (0 : Int32)), (0, .ref (aO 0)), (1, .ref (aP 0)), (2, .ref (aS 0))]) X dX1_begin_16 rfl (by decide) rfl ?_
  exact z_at (pc2 := 17) (lv2 := [(0, .ref (aO 0)), (1, .ref (aP 0)), (2, .ref (aS 0)), (3, .int (0 : Int32))]) (st2 := []) (ws2 := [wX1 (zcT C) aO sO12, wX5 (zcT C) aP sP, wX7 (zcT C) aS sS]) rfl rfl rfl [1, 2, 3, 0] rfl (bX1_begin_17 X hQ  6000 sO12 (0 : Int32) h)
theorem metX1_begin (l : Launch) (D : va_G) (T : Nat → ClassId) (aO : Nat → Nat) (aP : Nat → Nat) (aS : Nat → Nat) {sO : zSt} {sP : zSt} {sS : zSt} {out : zSt} (hf : fX1_begin sO sP sS = some out) (sz : Nat) : Met l yX1_begin (zws yX1_begin cX1_begin 4 none) rmX1_begin (zPc D T [.ref (aO 0), .ref (aP 0), .ref (aS 0)] [wX1 T aO sO, wX5 T aP sP, wX7 T aS sS] sz) (zQv D [wX1 T aO out] (zA [wX1 T aO sO] sz)) 0 0 (zA [wX1 T aO sO] sz) :=
  zMet (D := D) (T := T) (av := [.ref (aO 0), .ref (aP 0), .ref (aS 0)]) (ws := fun T => [wX1 T aO sO, wX5 T aP sP, wX7 T aS sS]) (wm := fun T => [wX1 T aO sO]) (lv0 := [(0, .ref (aO 0)), (1, .ref (aP 0)), (2, .ref (aS 0))]) [0] (Qc := fun D T A => zQv D [wX1 T aO out] A) (by decide +kernel) rfl (Nat.le_of_ble_eq_true rfl) rfl (fun C X hQ => bX1_begin_0 X hQ hf) sz
/-- long cell(int, int); of Tableaufloor$Dictionary -/
abbrev rmX1_cell : Room := { frames := 0, cells := 0, slots := 0, locals := 0 }
def fX1_cell_29 (sO : zSt) (y0 : Int64) : Option (Int64) :=
  some (y0)
def fX1_cell_28 (sO : zSt) : Option (Int64) :=
  (fX1_cell_29 sO (0 : Int64))
def fX1_cell (sO : zSt) (x1 : Int32) (x2 : Int32) : Option (Int64) :=
  (zlet ((x1 * (4 : Int32)) + x2) (fun v5 =>
    (if v5 < 0 then
    (fX1_cell_28 sO)
  else
    (if (84 : Int32) ≤ v5 then
      (fX1_cell_28 sO)
    else
      (if zin v5 84 = true then
        (fX1_cell_29 sO (zgb sO 0 (v5).toNatClampNeg)) else none)))))
theorem bX1_cell_29 {C : zCtx} (X : zFx C cX1_cell 4 RX1 rmX1_cell (some .long)) {aO : Nat → Nat} {sO : zSt} {y0 : Int64} {out : Int64} (hQ : zHl C out [] 0 0) (h : fX1_cell_29 sO y0 = some out) : zG C 4 [] 0 0 [wX1 (zcT C) aO sO] 29 [] [.long y0] := by
  unfold fX1_cell_29 at h
  cases h
  exact z_lret X hQ dX1_cell_29 rfl [] rfl (by decide) (by decide)
theorem bX1_cell_28 {C : zCtx} (X : zFx C cX1_cell 4 RX1 rmX1_cell (some .long)) {aO : Nat → Nat} {sO : zSt} {out : Int64} (hQ : zHl C out [] 0 0) (h : fX1_cell_28 sO = some out) : zG C 4 [] 0 0 [wX1 (zcT C) aO sO] 28 [] [] := by
  unfold fX1_cell_28 at h
  refine z_lconst (v := (0 : Int64)) X dX1_cell_28 rfl ?_
  exact z_at (pc2 := 29) (lv2 := []) (st2 := [.long (0 : Int64)]) (ws2 := [wX1 (zcT C) aO sO]) rfl rfl rfl [] rfl (bX1_cell_29 X hQ  h)
theorem bX1_cell_0 {C : zCtx} (X : zFx C cX1_cell 4 RX1 rmX1_cell (some .long)) {aO : Nat → Nat} {sO : zSt} {x1 : Int32} {x2 : Int32} {out : Int64} (hQ : zHl C out [] 0 0) (h : fX1_cell sO x1 x2 = some out) : zG C 4 [] 0 0 [wX1 (zcT C) aO sO] 0 [(0, .ref (aO 0)), (1, .int x1), (2, .int x2)] [] := by
  unfold fX1_cell at h
  refine z_iload_n X dX1_cell_0 1 rfl ?_
  refine z_iconst (v := (4 : Int32)) X dX1_cell_1 rfl ?_
  refine z_imul X dX1_cell_2 ?_
  refine z_iload_n X dX1_cell_3 2 rfl ?_
  refine z_iadd X dX1_cell_4 ?_
  obtain ⟨v5, ev5, h⟩ := zlet_of h
  refine z_topi ev5 ?_
  refine z_istore_n (lv2 := [(3, .int v5), (0, .ref (aO 0)), (1, .int x1), (2, .int x2)]) X dX1_cell_5 rfl (by decide) rfl ?_
  refine z_iload_n X dX1_cell_6 0 rfl ?_
  refine z_if_lt (tgt := 28) X dX1_cell_7 (by decide) (fun c7 => ?_) (fun c7 => ?_)
  · replace h := zif_t h c7
    exact z_at (pc2 := 28) (lv2 := []) (st2 := []) (ws2 := [wX1 (zcT C) aO sO]) rfl rfl rfl [] rfl (bX1_cell_28 X hQ  h)
  · replace h := zif_f h c7
    refine z_iload_n X dX1_cell_10 0 rfl ?_
    refine z_aload_n X dX1_cell_11 1 rfl ?_
    refine z_get (v := .ref (aO 1)) X 0 0 2 0 ziX1 rfl (by decide) zw192 rfl dX1_cell_12 rfl rfl rfl ?_
    refine z_alen (v := (84 : Int32)) X 0 1 2 rfl rfl dX1_cell_15 rfl rfl ?_
    refine z_icmp_ge (tgt := 28) X dX1_cell_16 (by decide) (fun c16 => ?_) (fun c16 => ?_)
    · replace h := zif_t h c16
      exact z_at (pc2 := 28) (lv2 := []) (st2 := []) (ws2 := [wX1 (zcT C) aO sO]) rfl rfl rfl [] rfl (bX1_cell_28 X hQ  h)
    · replace h := zif_f h c16
      refine z_aload_n X dX1_cell_19 1 rfl ?_
      refine z_get (v := .ref (aO 1)) X 0 0 2 0 ziX1 rfl (by decide) zw192 rfl dX1_cell_20 rfl rfl rfl ?_
      refine z_iload_n X dX1_cell_23 0 rfl ?_
      obtain ⟨g24, h⟩ := zgd_of h
      refine z_lald X 0 1 g24 dX1_cell_24 rfl rfl ?_
      refine z_goto (tgt := 29) X dX1_cell_25 (by decide) ?_
      exact z_at (pc2 := 29) (lv2 := []) (st2 := [.long (zgb sO 0 (v5).toNatClampNeg)]) (ws2 := [wX1 (zcT C) aO sO]) rfl rfl rfl [] rfl (bX1_cell_29 X hQ  h)
theorem metX1_cell (l : Launch) (D : va_G) (T : Nat → ClassId) (aO : Nat → Nat) {sO : zSt} {x1 : Int32} {x2 : Int32} {out : Int64} (hf : fX1_cell sO x1 x2 = some out) (sz : Nat) : Met l yX1_cell (zws yX1_cell cX1_cell 4 (some .long)) rmX1_cell (zPc D T [.ref (aO 0), .int x1, .int x2] [wX1 T aO sO] sz) (zQl D out [] (zA [] sz)) 0 0 (zA [] sz) :=
  zMet (D := D) (T := T) (av := [.ref (aO 0), .int x1, .int x2]) (ws := fun T => [wX1 T aO sO]) (wm := fun T => []) (lv0 := [(0, .ref (aO 0)), (1, .int x1), (2, .int x2)]) [] (Qc := fun D T A => zQl D out [] A) (by decide +kernel) rfl (Nat.le_of_ble_eq_true rfl) rfl (fun C X hQ => bX1_cell_0 X hQ hf) sz
/-- int insideOf(int); of Tableaufloor$Dictionary -/
abbrev rmX1_insideOf : Room := { frames := 0, cells := 0, slots := 0, locals := 0 }
def fX1_insideOf_23 (sO : zSt) (y0 : Int32) : Option (Int32) :=
  some (y0)
def fX1_insideOf_22 (sO : zSt) : Option (Int32) :=
  (fX1_insideOf_23 sO (-1 : Int32))
def fX1_insideOf (sO : zSt) (x1 : Int32) : Option (Int32) :=
  (if x1 < 0 then
    (fX1_insideOf_22 sO)
  else
    (if (15 : Int32) ≤ x1 then
      (fX1_insideOf_22 sO)
    else
      (if zin x1 15 = true then
        (fX1_insideOf_23 sO (zga sO 1 (x1).toNatClampNeg)) else none)))
theorem bX1_insideOf_23 {C : zCtx} (X : zFx C cX1_insideOf 2 RX1 rmX1_insideOf (some .int)) {aO : Nat → Nat} {sO : zSt} {y0 : Int32} {out : Int32} (hQ : zHi C out [] 0 0) (h : fX1_insideOf_23 sO y0 = some out) : zG C 2 [] 0 0 [wX1 (zcT C) aO sO] 23 [] [.int y0] := by
  unfold fX1_insideOf_23 at h
  cases h
  exact z_iret X hQ dX1_insideOf_23 rfl [] rfl (by decide) (by decide)
theorem bX1_insideOf_22 {C : zCtx} (X : zFx C cX1_insideOf 2 RX1 rmX1_insideOf (some .int)) {aO : Nat → Nat} {sO : zSt} {out : Int32} (hQ : zHi C out [] 0 0) (h : fX1_insideOf_22 sO = some out) : zG C 2 [] 0 0 [wX1 (zcT C) aO sO] 22 [] [] := by
  unfold fX1_insideOf_22 at h
  refine z_iconst (v := (-1 : Int32)) X dX1_insideOf_22 rfl ?_
  exact z_at (pc2 := 23) (lv2 := []) (st2 := [.int (-1 : Int32)]) (ws2 := [wX1 (zcT C) aO sO]) rfl rfl rfl [] rfl (bX1_insideOf_23 X hQ  h)
theorem bX1_insideOf_0 {C : zCtx} (X : zFx C cX1_insideOf 2 RX1 rmX1_insideOf (some .int)) {aO : Nat → Nat} {sO : zSt} {x1 : Int32} {out : Int32} (hQ : zHi C out [] 0 0) (h : fX1_insideOf sO x1 = some out) : zG C 2 [] 0 0 [wX1 (zcT C) aO sO] 0 [(0, .ref (aO 0)), (1, .int x1)] [] := by
  unfold fX1_insideOf at h
  refine z_iload_n X dX1_insideOf_0 1 rfl ?_
  refine z_if_lt (tgt := 22) X dX1_insideOf_1 (by decide) (fun c1 => ?_) (fun c1 => ?_)
  · replace h := zif_t h c1
    exact z_at (pc2 := 22) (lv2 := []) (st2 := []) (ws2 := [wX1 (zcT C) aO sO]) rfl rfl rfl [] rfl (bX1_insideOf_22 X hQ  h)
  · replace h := zif_f h c1
    refine z_iload_n X dX1_insideOf_4 1 rfl ?_
    refine z_aload_n X dX1_insideOf_5 0 rfl ?_
    refine z_get (v := .ref (aO 2)) X 0 0 2 1 ziX1 rfl (by decide) zw193 rfl dX1_insideOf_6 rfl rfl rfl ?_
    refine z_alen (v := (15 : Int32)) X 0 2 1 rfl rfl dX1_insideOf_9 rfl rfl ?_
    refine z_icmp_ge (tgt := 22) X dX1_insideOf_10 (by decide) (fun c10 => ?_) (fun c10 => ?_)
    · replace h := zif_t h c10
      exact z_at (pc2 := 22) (lv2 := []) (st2 := []) (ws2 := [wX1 (zcT C) aO sO]) rfl rfl rfl [] rfl (bX1_insideOf_22 X hQ  h)
    · replace h := zif_f h c10
      refine z_aload_n X dX1_insideOf_13 0 rfl ?_
      refine z_get (v := .ref (aO 2)) X 0 0 2 1 ziX1 rfl (by decide) zw193 rfl dX1_insideOf_14 rfl rfl rfl ?_
      refine z_iload_n X dX1_insideOf_17 1 rfl ?_
      obtain ⟨g18, h⟩ := zgd_of h
      refine z_iald X 0 2 g18 dX1_insideOf_18 rfl rfl ?_
      refine z_goto (tgt := 23) X dX1_insideOf_19 (by decide) ?_
      exact z_at (pc2 := 23) (lv2 := []) (st2 := [.int (zga sO 1 (x1).toNatClampNeg)]) (ws2 := [wX1 (zcT C) aO sO]) rfl rfl rfl [] rfl (bX1_insideOf_23 X hQ  h)
theorem metX1_insideOf (l : Launch) (D : va_G) (T : Nat → ClassId) (aO : Nat → Nat) {sO : zSt} {x1 : Int32} {out : Int32} (hf : fX1_insideOf sO x1 = some out) (sz : Nat) : Met l yX1_insideOf (zws yX1_insideOf cX1_insideOf 2 (some .int)) rmX1_insideOf (zPc D T [.ref (aO 0), .int x1] [wX1 T aO sO] sz) (zQi D out [] (zA [] sz)) 0 0 (zA [] sz) :=
  zMet (D := D) (T := T) (av := [.ref (aO 0), .int x1]) (ws := fun T => [wX1 T aO sO]) (wm := fun T => []) (lv0 := [(0, .ref (aO 0)), (1, .int x1)]) [] (Qc := fun D T A => zQi D out [] A) (by decide +kernel) rfl (Nat.le_of_ble_eq_true rfl) rfl (fun C X hQ => bX1_insideOf_0 X hQ hf) sz
/-- int outsideOf(int); of Tableaufloor$Dictionary -/
abbrev rmX1_outsideOf : Room := { frames := 0, cells := 0, slots := 0, locals := 0 }
def fX1_outsideOf_23 (sO : zSt) (y0 : Int32) : Option (Int32) :=
  some (y0)
def fX1_outsideOf_22 (sO : zSt) : Option (Int32) :=
  (fX1_outsideOf_23 sO (-1 : Int32))
def fX1_outsideOf (sO : zSt) (x1 : Int32) : Option (Int32) :=
  (if x1 < 0 then
    (fX1_outsideOf_22 sO)
  else
    (if (3 : Int32) ≤ x1 then
      (fX1_outsideOf_22 sO)
    else
      (if zin x1 3 = true then
        (fX1_outsideOf_23 sO (zga sO 2 (x1).toNatClampNeg)) else none)))
theorem bX1_outsideOf_23 {C : zCtx} (X : zFx C cX1_outsideOf 2 RX1 rmX1_outsideOf (some .int)) {aO : Nat → Nat} {sO : zSt} {y0 : Int32} {out : Int32} (hQ : zHi C out [] 0 0) (h : fX1_outsideOf_23 sO y0 = some out) : zG C 2 [] 0 0 [wX1 (zcT C) aO sO] 23 [] [.int y0] := by
  unfold fX1_outsideOf_23 at h
  cases h
  exact z_iret X hQ dX1_outsideOf_23 rfl [] rfl (by decide) (by decide)
theorem bX1_outsideOf_22 {C : zCtx} (X : zFx C cX1_outsideOf 2 RX1 rmX1_outsideOf (some .int)) {aO : Nat → Nat} {sO : zSt} {out : Int32} (hQ : zHi C out [] 0 0) (h : fX1_outsideOf_22 sO = some out) : zG C 2 [] 0 0 [wX1 (zcT C) aO sO] 22 [] [] := by
  unfold fX1_outsideOf_22 at h
  refine z_iconst (v := (-1 : Int32)) X dX1_outsideOf_22 rfl ?_
  exact z_at (pc2 := 23) (lv2 := []) (st2 := [.int (-1 : Int32)]) (ws2 := [wX1 (zcT C) aO sO]) rfl rfl rfl [] rfl (bX1_outsideOf_23 X hQ  h)
theorem bX1_outsideOf_0 {C : zCtx} (X : zFx C cX1_outsideOf 2 RX1 rmX1_outsideOf (some .int)) {aO : Nat → Nat} {sO : zSt} {x1 : Int32} {out : Int32} (hQ : zHi C out [] 0 0) (h : fX1_outsideOf sO x1 = some out) : zG C 2 [] 0 0 [wX1 (zcT C) aO sO] 0 [(0, .ref (aO 0)), (1, .int x1)] [] := by
  unfold fX1_outsideOf at h
  refine z_iload_n X dX1_outsideOf_0 1 rfl ?_
  refine z_if_lt (tgt := 22) X dX1_outsideOf_1 (by decide) (fun c1 => ?_) (fun c1 => ?_)
  · replace h := zif_t h c1
    exact z_at (pc2 := 22) (lv2 := []) (st2 := []) (ws2 := [wX1 (zcT C) aO sO]) rfl rfl rfl [] rfl (bX1_outsideOf_22 X hQ  h)
  · replace h := zif_f h c1
    refine z_iload_n X dX1_outsideOf_4 1 rfl ?_
    refine z_aload_n X dX1_outsideOf_5 0 rfl ?_
    refine z_get (v := .ref (aO 3)) X 0 0 2 2 ziX1 rfl (by decide) zw194 rfl dX1_outsideOf_6 rfl rfl rfl ?_
    refine z_alen (v := (3 : Int32)) X 0 3 1 rfl rfl dX1_outsideOf_9 rfl rfl ?_
    refine z_icmp_ge (tgt := 22) X dX1_outsideOf_10 (by decide) (fun c10 => ?_) (fun c10 => ?_)
    · replace h := zif_t h c10
      exact z_at (pc2 := 22) (lv2 := []) (st2 := []) (ws2 := [wX1 (zcT C) aO sO]) rfl rfl rfl [] rfl (bX1_outsideOf_22 X hQ  h)
    · replace h := zif_f h c10
      refine z_aload_n X dX1_outsideOf_13 0 rfl ?_
      refine z_get (v := .ref (aO 3)) X 0 0 2 2 ziX1 rfl (by decide) zw194 rfl dX1_outsideOf_14 rfl rfl rfl ?_
      refine z_iload_n X dX1_outsideOf_17 1 rfl ?_
      obtain ⟨g18, h⟩ := zgd_of h
      refine z_iald X 0 3 g18 dX1_outsideOf_18 rfl rfl ?_
      refine z_goto (tgt := 23) X dX1_outsideOf_19 (by decide) ?_
      exact z_at (pc2 := 23) (lv2 := []) (st2 := [.int (zga sO 2 (x1).toNatClampNeg)]) (ws2 := [wX1 (zcT C) aO sO]) rfl rfl rfl [] rfl (bX1_outsideOf_23 X hQ  h)
theorem metX1_outsideOf (l : Launch) (D : va_G) (T : Nat → ClassId) (aO : Nat → Nat) {sO : zSt} {x1 : Int32} {out : Int32} (hf : fX1_outsideOf sO x1 = some out) (sz : Nat) : Met l yX1_outsideOf (zws yX1_outsideOf cX1_outsideOf 2 (some .int)) rmX1_outsideOf (zPc D T [.ref (aO 0), .int x1] [wX1 T aO sO] sz) (zQi D out [] (zA [] sz)) 0 0 (zA [] sz) :=
  zMet (D := D) (T := T) (av := [.ref (aO 0), .int x1]) (ws := fun T => [wX1 T aO sO]) (wm := fun T => []) (lv0 := [(0, .ref (aO 0)), (1, .int x1)]) [] (Qc := fun D T A => zQi D out [] A) (by decide +kernel) rfl (Nat.le_of_ble_eq_true rfl) rfl (fun C X hQ => bX1_outsideOf_0 X hQ hf) sz
/-- int lineOf(int); of Tableaufloor$Dictionary -/
abbrev rmX1_lineOf : Room := { frames := 0, cells := 0, slots := 0, locals := 0 }
def fX1_lineOf_37 (sO : zSt) : Option (Int32) :=
  some ((-1 : Int32))
def fX1_lineOf_2 (sO : zSt) : Nat → Int32 → Int32 → Option (Int32)
  | 0, _, _ => none
  | n + 1, x1, x2 =>
    (if (zgi sO 3) ≤ x2 then
      (fX1_lineOf_37 sO)
    else
      (if (15 : Int32) ≤ x2 then
        (fX1_lineOf_37 sO)
      else
        (if zin x2 15 = true then
          (if (zga sO 1 (x2).toNatClampNeg) = x1 then
          some (x2)
        else
          (zlet (x2 + 1) (fun v31 =>
            (fX1_lineOf_2 sO n x1 v31)))) else none)))
def fX1_lineOf (sO : zSt) (x1 : Int32) : Option (Int32) :=
  (fX1_lineOf_2 sO 6000 x1 (0 : Int32))
theorem bX1_lineOf_37 {C : zCtx} (X : zFx C cX1_lineOf 3 RX1 rmX1_lineOf (some .int)) {aO : Nat → Nat} {sO : zSt} {out : Int32} (hQ : zHi C out [] 0 0) (h : fX1_lineOf_37 sO = some out) : zG C 3 [] 0 0 [wX1 (zcT C) aO sO] 37 [] [] := by
  unfold fX1_lineOf_37 at h
  refine z_iconst (v := (-1 : Int32)) X dX1_lineOf_37 rfl ?_
  cases h
  exact z_iret X hQ dX1_lineOf_38 rfl [] rfl (by decide) (by decide)
theorem bX1_lineOf_2 {C : zCtx} (X : zFx C cX1_lineOf 3 RX1 rmX1_lineOf (some .int)) {aO : Nat → Nat} {sO : zSt} {out : Int32} (hQ : zHi C out [] 0 0) : ∀ (n : Nat) (x1 : Int32) (x2 : Int32), fX1_lineOf_2 sO n x1 x2 = some out → zG C 3 [] 0 0 [wX1 (zcT C) aO sO] 2 [(0, .ref (aO 0)), (1, .int x1), (2, .int x2)] [] := by
  intro n
  induction n with
  | zero =>
    intro x1 x2 h
    rw [fX1_lineOf_2] at h
    exact zno h
  | succ n ih =>
    intro x1 x2 h
    rw [fX1_lineOf_2] at h
    refine z_iload_n X dX1_lineOf_2 2 rfl ?_
    refine z_aload_n X dX1_lineOf_3 0 rfl ?_
    refine z_get (v := .int (zgi sO 3)) X 0 0 2 3 ziX1 rfl (by decide) zw195 rfl dX1_lineOf_4 rfl rfl rfl ?_
    refine z_icmp_ge (tgt := 37) X dX1_lineOf_7 (by decide) (fun c7 => ?_) (fun c7 => ?_)
    · replace h := zif_t h c7
      exact z_at (pc2 := 37) (lv2 := []) (st2 := []) (ws2 := [wX1 (zcT C) aO sO]) rfl rfl rfl [] rfl (bX1_lineOf_37 X hQ  h)
    · replace h := zif_f h c7
      refine z_iload_n X dX1_lineOf_10 2 rfl ?_
      refine z_aload_n X dX1_lineOf_11 0 rfl ?_
      refine z_get (v := .ref (aO 2)) X 0 0 2 1 ziX1 rfl (by decide) zw193 rfl dX1_lineOf_12 rfl rfl rfl ?_
      refine z_alen (v := (15 : Int32)) X 0 2 1 rfl rfl dX1_lineOf_15 rfl rfl ?_
      refine z_icmp_ge (tgt := 37) X dX1_lineOf_16 (by decide) (fun c16 => ?_) (fun c16 => ?_)
      · replace h := zif_t h c16
        exact z_at (pc2 := 37) (lv2 := []) (st2 := []) (ws2 := [wX1 (zcT C) aO sO]) rfl rfl rfl [] rfl (bX1_lineOf_37 X hQ  h)
      · replace h := zif_f h c16
        refine z_aload_n X dX1_lineOf_19 0 rfl ?_
        refine z_get (v := .ref (aO 2)) X 0 0 2 1 ziX1 rfl (by decide) zw193 rfl dX1_lineOf_20 rfl rfl rfl ?_
        refine z_iload_n X dX1_lineOf_23 2 rfl ?_
        obtain ⟨g24, h⟩ := zgd_of h
        refine z_iald X 0 2 g24 dX1_lineOf_24 rfl rfl ?_
        refine z_iload_n X dX1_lineOf_25 1 rfl ?_
        refine z_icmp_ne (tgt := 31) X dX1_lineOf_26 (by decide) (fun c26 => ?_) (fun c26 => ?_)
        · replace h := zif_f h c26
          obtain ⟨v31, ev31, h⟩ := zlet_of h
          refine z_iinc (v := v31) (lv2 := [(2, .int v31), (0, .ref (aO 0)), (1, .int x1)]) X dX1_lineOf_31 (k := 2) rfl (by rw [ev31]; rfl) (by decide) rfl ?_
          refine z_goto (tgt := 2) X dX1_lineOf_34 (by decide) ?_
          exact z_at (pc2 := 2) (lv2 := [(0, .ref (aO 0)), (1, .int x1), (2, .int v31)]) (st2 := []) (ws2 := [wX1 (zcT C) aO sO]) rfl rfl rfl [1, 2, 0] rfl (ih x1 v31 h)
        · replace h := zif_t h c26
          refine z_iload_n X dX1_lineOf_29 2 rfl ?_
          cases h
          exact z_iret X hQ dX1_lineOf_30 rfl [] rfl (by decide) (by decide)
theorem bX1_lineOf_0 {C : zCtx} (X : zFx C cX1_lineOf 3 RX1 rmX1_lineOf (some .int)) {aO : Nat → Nat} {sO : zSt} {x1 : Int32} {out : Int32} (hQ : zHi C out [] 0 0) (h : fX1_lineOf sO x1 = some out) : zG C 3 [] 0 0 [wX1 (zcT C) aO sO] 0 [(0, .ref (aO 0)), (1, .int x1)] [] := by
  unfold fX1_lineOf at h
  refine z_iconst (v := (0 : Int32)) X dX1_lineOf_0 rfl ?_
  refine z_istore_n (lv2 := [(2, .int (0 : Int32)), (0, .ref (aO 0)), (1, .int x1)]) X dX1_lineOf_1 rfl (by decide) rfl ?_
  exact z_at (pc2 := 2) (lv2 := [(0, .ref (aO 0)), (1, .int x1), (2, .int (0 : Int32))]) (st2 := []) (ws2 := [wX1 (zcT C) aO sO]) rfl rfl rfl [1, 2, 0] rfl (bX1_lineOf_2 X hQ  6000 x1 (0 : Int32) h)
theorem metX1_lineOf (l : Launch) (D : va_G) (T : Nat → ClassId) (aO : Nat → Nat) {sO : zSt} {x1 : Int32} {out : Int32} (hf : fX1_lineOf sO x1 = some out) (sz : Nat) : Met l yX1_lineOf (zws yX1_lineOf cX1_lineOf 3 (some .int)) rmX1_lineOf (zPc D T [.ref (aO 0), .int x1] [wX1 T aO sO] sz) (zQi D out [] (zA [] sz)) 0 0 (zA [] sz) :=
  zMet (D := D) (T := T) (av := [.ref (aO 0), .int x1]) (ws := fun T => [wX1 T aO sO]) (wm := fun T => []) (lv0 := [(0, .ref (aO 0)), (1, .int x1)]) [] (Qc := fun D T A => zQi D out [] A) (by decide +kernel) rfl (Nat.le_of_ble_eq_true rfl) rfl (fun C X hQ => bX1_lineOf_0 X hQ hf) sz
/-- long rateOf(int, int); of Tableaufloor$Dictionary -/
abbrev rmX1_rateOf : Room := { frames := 1, cells := 0, slots := 0, locals := 23 }
def fX1_rateOf_35 (sO : zSt) (y0 : Int64) : Option (Int64) :=
  some (y0)
def fX1_rateOf (sO : zSt) (x1 : Int32) (x2 : Int32) : Option (Int64) :=
  ((fX1_outsideOf sO x2).bind (fun o2 =>
    (if o2 = x1 then
    some ((zgl sO 4))
  else
    ((fX1_lineOf sO x1).bind (fun o16 =>
      (if o16 = (-1 : Int32) then
      (fX1_rateOf_35 sO (0 : Int64))
    else
      ((fX1_cell sO o16 x2).bind (fun o32 =>
        (fX1_rateOf_35 sO o32)))))))))
theorem bX1_rateOf_35 {C : zCtx} (X : zFx C cX1_rateOf 4 RX1 rmX1_rateOf (some .long)) {aO : Nat → Nat} {sO : zSt} {y0 : Int64} {out : Int64} (hQ : zHl C out [] 0 0) (h : fX1_rateOf_35 sO y0 = some out) : zG C 4 [] 0 0 [wX1 (zcT C) aO sO] 35 [] [.long y0] := by
  unfold fX1_rateOf_35 at h
  cases h
  exact z_lret X hQ dX1_rateOf_35 rfl [] rfl (by decide) (by decide)
theorem bX1_rateOf_0 {C : zCtx} (X : zFx C cX1_rateOf 4 RX1 rmX1_rateOf (some .long)) {aO : Nat → Nat} {sO : zSt} {x1 : Int32} {x2 : Int32} {out : Int64} (hQ : zHl C out [] 0 0) (h : fX1_rateOf sO x1 x2 = some out) : zG C 4 [] 0 0 [wX1 (zcT C) aO sO] 0 [(0, .ref (aO 0)), (1, .int x1), (2, .int x2)] [] := by
  unfold fX1_rateOf at h
  refine z_aload_n X dX1_rateOf_0 0 rfl ?_
  refine z_iload_n X dX1_rateOf_1 2 rfl ?_
  obtain ⟨o2, ho2, h⟩ := zbind_of h
  refine z_callVi (st := []) (ws2 := [wX1 (zcT C) aO sO]) X (metX1_outsideOf (zcl C) (zcD C) (zcT C) aO ho2) zmX1_outsideOf zw723 dX1_rateOf_2 0 0 2 rfl rfl rfl rfl [0] rfl rfl [] rfl (by decide) trivial rfl rfl rfl (Nat.le_of_ble_eq_true rfl) rfl rfl ⟨Nat.le_of_ble_eq_true rfl, Nat.le_of_ble_eq_true rfl⟩ ⟨Nat.le_of_ble_eq_true rfl, Nat.le_of_ble_eq_true rfl⟩ ?_
  refine z_iload_n X dX1_rateOf_5 1 rfl ?_
  refine z_icmp_ne (tgt := 14) X dX1_rateOf_6 (by decide) (fun c6 => ?_) (fun c6 => ?_)
  · replace h := zif_f h c6
    refine z_aload_n X dX1_rateOf_14 0 rfl ?_
    refine z_iload_n X dX1_rateOf_15 1 rfl ?_
    obtain ⟨o16, ho16, h⟩ := zbind_of h
    refine z_callVi (st := []) (ws2 := [wX1 (zcT C) aO sO]) X (metX1_lineOf (zcl C) (zcD C) (zcT C) aO ho16) zmX1_lineOf zw649 dX1_rateOf_16 0 0 2 rfl rfl rfl rfl [0] rfl rfl [] rfl (by decide) trivial rfl rfl rfl (Nat.le_of_ble_eq_true rfl) rfl rfl ⟨Nat.le_of_ble_eq_true rfl, Nat.le_of_ble_eq_true rfl⟩ ⟨Nat.le_of_ble_eq_true rfl, Nat.le_of_ble_eq_true rfl⟩ ?_
    refine z_istore_n (lv2 := [(3, .int o16), (0, .ref (aO 0)), (1, .int x1), (2, .int x2)]) X dX1_rateOf_19 rfl (by decide) rfl ?_
    refine z_iload_n X dX1_rateOf_20 0 rfl ?_
    refine z_iconst (v := (-1 : Int32)) X dX1_rateOf_21 rfl ?_
    refine z_icmp_ne (tgt := 29) X dX1_rateOf_22 (by decide) (fun c22 => ?_) (fun c22 => ?_)
    · replace h := zif_f h c22
      refine z_aload_n X dX1_rateOf_29 1 rfl ?_
      refine z_iload_n X dX1_rateOf_30 0 rfl ?_
      refine z_iload_n X dX1_rateOf_31 3 rfl ?_
      obtain ⟨o32, ho32, h⟩ := zbind_of h
      refine z_callVl (st := []) (ws2 := [wX1 (zcT C) aO sO]) X (metX1_cell (zcl C) (zcD C) (zcT C) aO ho32) zmX1_cell zw618 dX1_rateOf_32 0 0 2 rfl rfl rfl rfl [0] rfl rfl [] rfl (by decide) trivial rfl rfl rfl (Nat.le_of_ble_eq_true rfl) rfl rfl ⟨Nat.le_of_ble_eq_true rfl, Nat.le_of_ble_eq_true rfl⟩ ⟨Nat.le_of_ble_eq_true rfl, Nat.le_of_ble_eq_true rfl⟩ ?_
      exact z_at (pc2 := 35) (lv2 := []) (st2 := [.long o32]) (ws2 := [wX1 (zcT C) aO sO]) rfl rfl rfl [] rfl (bX1_rateOf_35 X hQ  h)
    · replace h := zif_t h c22
      refine z_lconst (v := (0 : Int64)) X dX1_rateOf_25 rfl ?_
      refine z_goto (tgt := 35) X dX1_rateOf_26 (by decide) ?_
      exact z_at (pc2 := 35) (lv2 := []) (st2 := [.long (0 : Int64)]) (ws2 := [wX1 (zcT C) aO sO]) rfl rfl rfl [] rfl (bX1_rateOf_35 X hQ  h)
  · replace h := zif_t h c6
    refine z_aload_n X dX1_rateOf_9 0 rfl ?_
    refine z_get (v := .long (zgl sO 4)) X 0 0 2 4 ziX1 rfl (by decide) zw197 rfl dX1_rateOf_10 rfl rfl rfl ?_
    cases h
    exact z_lret X hQ dX1_rateOf_13 rfl [] rfl (by decide) (by decide)
theorem metX1_rateOf (l : Launch) (D : va_G) (T : Nat → ClassId) (aO : Nat → Nat) {sO : zSt} {x1 : Int32} {x2 : Int32} {out : Int64} (hf : fX1_rateOf sO x1 x2 = some out) (sz : Nat) : Met l yX1_rateOf (zws yX1_rateOf cX1_rateOf 4 (some .long)) rmX1_rateOf (zPc D T [.ref (aO 0), .int x1, .int x2] [wX1 T aO sO] sz) (zQl D out [] (zA [] sz)) 0 0 (zA [] sz) :=
  zMet (D := D) (T := T) (av := [.ref (aO 0), .int x1, .int x2]) (ws := fun T => [wX1 T aO sO]) (wm := fun T => []) (lv0 := [(0, .ref (aO 0)), (1, .int x1), (2, .int x2)]) [] (Qc := fun D T A => zQl D out [] A) (by decide +kernel) rfl (Nat.le_of_ble_eq_true rfl) rfl (fun C X hQ => bX1_rateOf_0 X hQ hf) sz
/-- long slackOf(int); of Tableaufloor$Dictionary -/
abbrev rmX1_slackOf : Room := { frames := 1, cells := 0, slots := 0, locals := 23 }
def fX1_slackOf_21 (sO : zSt) (y0 : Int64) : Option (Int64) :=
  some (y0)
def fX1_slackOf (sO : zSt) (x1 : Int32) : Option (Int64) :=
  ((fX1_lineOf sO x1).bind (fun o2 =>
    (if o2 = (-1 : Int32) then
    (fX1_slackOf_21 sO (0 : Int64))
  else
    ((fX1_cell sO o2 (3 : Int32)).bind (fun o18 =>
      (fX1_slackOf_21 sO o18))))))
theorem bX1_slackOf_21 {C : zCtx} (X : zFx C cX1_slackOf 3 RX1 rmX1_slackOf (some .long)) {aO : Nat → Nat} {sO : zSt} {y0 : Int64} {out : Int64} (hQ : zHl C out [] 0 0) (h : fX1_slackOf_21 sO y0 = some out) : zG C 3 [] 0 0 [wX1 (zcT C) aO sO] 21 [] [.long y0] := by
  unfold fX1_slackOf_21 at h
  cases h
  exact z_lret X hQ dX1_slackOf_21 rfl [] rfl (by decide) (by decide)
theorem bX1_slackOf_0 {C : zCtx} (X : zFx C cX1_slackOf 3 RX1 rmX1_slackOf (some .long)) {aO : Nat → Nat} {sO : zSt} {x1 : Int32} {out : Int64} (hQ : zHl C out [] 0 0) (h : fX1_slackOf sO x1 = some out) : zG C 3 [] 0 0 [wX1 (zcT C) aO sO] 0 [(0, .ref (aO 0)), (1, .int x1)] [] := by
  unfold fX1_slackOf at h
  refine z_aload_n X dX1_slackOf_0 0 rfl ?_
  refine z_iload_n X dX1_slackOf_1 1 rfl ?_
  obtain ⟨o2, ho2, h⟩ := zbind_of h
  refine z_callVi (st := []) (ws2 := [wX1 (zcT C) aO sO]) X (metX1_lineOf (zcl C) (zcD C) (zcT C) aO ho2) zmX1_lineOf zw649 dX1_slackOf_2 0 0 2 rfl rfl rfl rfl [0] rfl rfl [] rfl (by decide) trivial rfl rfl rfl (Nat.le_of_ble_eq_true rfl) rfl rfl ⟨Nat.le_of_ble_eq_true rfl, Nat.le_of_ble_eq_true rfl⟩ ⟨Nat.le_of_ble_eq_true rfl, Nat.le_of_ble_eq_true rfl⟩ ?_
  refine z_istore_n (lv2 := [(2, .int o2), (0, .ref (aO 0)), (1, .int x1)]) X dX1_slackOf_5 rfl (by decide) rfl ?_
  refine z_iload_n X dX1_slackOf_6 0 rfl ?_
  refine z_iconst (v := (-1 : Int32)) X dX1_slackOf_7 rfl ?_
  refine z_icmp_ne (tgt := 15) X dX1_slackOf_8 (by decide) (fun c8 => ?_) (fun c8 => ?_)
  · replace h := zif_f h c8
    refine z_aload_n X dX1_slackOf_15 1 rfl ?_
    refine z_iload_n X dX1_slackOf_16 0 rfl ?_
    refine z_iconst (v := (3 : Int32)) X dX1_slackOf_17 rfl ?_
    obtain ⟨o18, ho18, h⟩ := zbind_of h
    refine z_callVl (st := []) (ws2 := [wX1 (zcT C) aO sO]) X (metX1_cell (zcl C) (zcD C) (zcT C) aO ho18) zmX1_cell zw618 dX1_slackOf_18 0 0 2 rfl rfl rfl rfl [0] rfl rfl [] rfl (by decide) trivial rfl rfl rfl (Nat.le_of_ble_eq_true rfl) rfl rfl ⟨Nat.le_of_ble_eq_true rfl, Nat.le_of_ble_eq_true rfl⟩ ⟨Nat.le_of_ble_eq_true rfl, Nat.le_of_ble_eq_true rfl⟩ ?_
    exact z_at (pc2 := 21) (lv2 := []) (st2 := [.long o18]) (ws2 := [wX1 (zcT C) aO sO]) rfl rfl rfl [] rfl (bX1_slackOf_21 X hQ  h)
  · replace h := zif_t h c8
    refine z_lconst (v := (0 : Int64)) X dX1_slackOf_11 rfl ?_
    refine z_goto (tgt := 21) X dX1_slackOf_12 (by decide) ?_
    exact z_at (pc2 := 21) (lv2 := []) (st2 := [.long (0 : Int64)]) (ws2 := [wX1 (zcT C) aO sO]) rfl rfl rfl [] rfl (bX1_slackOf_21 X hQ  h)
theorem metX1_slackOf (l : Launch) (D : va_G) (T : Nat → ClassId) (aO : Nat → Nat) {sO : zSt} {x1 : Int32} {out : Int64} (hf : fX1_slackOf sO x1 = some out) (sz : Nat) : Met l yX1_slackOf (zws yX1_slackOf cX1_slackOf 3 (some .long)) rmX1_slackOf (zPc D T [.ref (aO 0), .int x1] [wX1 T aO sO] sz) (zQl D out [] (zA [] sz)) 0 0 (zA [] sz) :=
  zMet (D := D) (T := T) (av := [.ref (aO 0), .int x1]) (ws := fun T => [wX1 T aO sO]) (wm := fun T => []) (lv0 := [(0, .ref (aO 0)), (1, .int x1)]) [] (Qc := fun D T A => zQl D out [] A) (by decide +kernel) rfl (Nat.le_of_ble_eq_true rfl) rfl (fun C X hQ => bX1_slackOf_0 X hQ hf) sz
/-- private void clear(int, int, int); of Tableaufloor$Dictionary -/
abbrev rmX1_clear : Room := { frames := 1, cells := 0, slots := 0, locals := 25 }
def fX1_clear_95 (k33 : zSt → Int32 → Int32 → Int32 → Int64 → Int64 → Int32 → Int32 → Option (zSt)) (sO : zSt) (x1 : Int32) (x2 : Int32) (x3 : Int32) (x4 : Int64) (x6 : Int64) (x8 : Int32) (x9 : Int32) : Option (zSt) :=
  (zlet (x9 + 1) (fun v95 =>
    (k33 sO x1 x2 x3 x4 x6 x8 v95)))
def fX1_clear_33 : Nat → zSt → Int32 → Int32 → Int32 → Int64 → Int64 → Int32 → Int32 → Option (zSt)
  | 0, _, _, _, _, _, _, _, _ => none
  | n + 1, sO, x1, x2, x3, x4, x6, x8, x9 =>
    (if (4 : Int32) ≤ x9 then
      ((fX1_putCell sO x1 x3 (((x8).toInt64) * x6)).bind (fun o110 =>
        some (o110)))
    else
      (if x9 = x3 then
        (fX1_clear_95 (fX1_clear_33 n) sO x1 x2 x3 x4 x6 x8 x9)
      else
        (if (zgl sO 4) = (0 : Int64) then
          (fX1_clear_95 (fX1_clear_33 n) sO x1 x2 x3 x4 x6 x8 x9)
        else
          ((fX1_cell sO x1 x9).bind (fun o60 =>
            ((fX1_cell sO x2 x9).bind (fun o70 =>
            (zlet ((x4 * o60) - (x6 * o70)) (fun v75 =>
            (if (zgl sO 4) = 0 then none else
            ((fX1_putCell sO x1 x9 ((((x8).toInt64) * v75) / (zgl sO 4))).bind (fun o92 =>
            (fX1_clear_95 (fX1_clear_33 n) o92 x1 x2 x3 x4 x6 x8 x9)))))))))))))
def fX1_clear_28 (sO : zSt) (x1 : Int32) (x2 : Int32) (x3 : Int32) (x4 : Int64) (x6 : Int64) (y0 : Int32) : Option (zSt) :=
  (fX1_clear_33 6000 sO x1 x2 x3 x4 x6 y0 (0 : Int32))
def fX1_clear (sO : zSt) (x1 : Int32) (x2 : Int32) (x3 : Int32) : Option (zSt) :=
  ((fX1_cell sO x2 x3).bind (fun o3 =>
    ((fX1_cell sO x1 x3).bind (fun o11 =>
    (if (0 : Int64) ≤ o3 then
    (fX1_clear_28 sO x1 x2 x3 o3 o11 (1 : Int32))
  else
    (fX1_clear_28 sO x1 x2 x3 o3 o11 (-1 : Int32)))))))
theorem bX1_clear_95 {C : zCtx} (X : zFx C cX1_clear 12 RX1 rmX1_clear none) {aO : Nat → Nat} {k33 : zSt → Int32 → Int32 → Int32 → Int64 → Int64 → Int32 → Int32 → Option (zSt)} {sO : zSt} {x1 : Int32} {x2 : Int32} {x3 : Int32} {x4 : Int64} {x6 : Int64} {x8 : Int32} {x9 : Int32} {out : zSt} (hQ : zHv C [wX1 (zcT C) aO out] 0 0) (hk33 : ∀ (sO : zSt) (x1 : Int32) (x2 : Int32) (x3 : Int32) (x4 : Int64) (x6 : Int64) (x8 : Int32) (x9 : Int32), k33 sO x1 x2 x3 x4 x6 x8 x9 = some out → zG C 12 [0] 0 0 [wX1 (zcT C) aO sO] 33 [(0, .ref (aO 0)), (1, .int x1), (2, .int x2), (3, .int x3), (4, .long x4), (6, .long x6), (8, .int x8), (9, .int x9)] []) (h : fX1_clear_95 k33 sO x1 x2 x3 x4 x6 x8 x9 = some out) : zG C 12 [0] 0 0 [wX1 (zcT C) aO sO] 95 [(0, .ref (aO 0)), (1, .int x1), (2, .int x2), (3, .int x3), (4, .long x4), (6, .long x6), (8, .int x8), (9, .int x9)] [] := by
  unfold fX1_clear_95 at h
  obtain ⟨v95, ev95, h⟩ := zlet_of h
  refine z_iinc (v := v95) (lv2 := [(9, .int v95), (0, .ref (aO 0)), (1, .int x1), (2, .int x2), (3, .int x3), (4, .long x4), (6, .long x6), (8, .int x8)]) X dX1_clear_95 (k := 7) rfl (by rw [ev95]; rfl) (by decide) rfl ?_
  refine z_goto (tgt := 33) X dX1_clear_98 (by decide) ?_
  exact z_at (pc2 := 33) (lv2 := [(0, .ref (aO 0)), (1, .int x1), (2, .int x2), (3, .int x3), (4, .long x4), (6, .long x6), (8, .int x8), (9, .int v95)]) (st2 := []) (ws2 := [wX1 (zcT C) aO sO]) rfl rfl rfl [1, 2, 3, 4, 5, 6, 7, 0] rfl (hk33 sO x1 x2 x3 x4 x6 x8 v95 h)
theorem bX1_clear_33 {C : zCtx} (X : zFx C cX1_clear 12 RX1 rmX1_clear none) {aO : Nat → Nat} {out : zSt} (hQ : zHv C [wX1 (zcT C) aO out] 0 0) : ∀ (n : Nat) (sO : zSt) (x1 : Int32) (x2 : Int32) (x3 : Int32) (x4 : Int64) (x6 : Int64) (x8 : Int32) (x9 : Int32), fX1_clear_33 n sO x1 x2 x3 x4 x6 x8 x9 = some out → zG C 12 [0] 0 0 [wX1 (zcT C) aO sO] 33 [(0, .ref (aO 0)), (1, .int x1), (2, .int x2), (3, .int x3), (4, .long x4), (6, .long x6), (8, .int x8), (9, .int x9)] [] := by
  intro n
  induction n with
  | zero =>
    intro sO x1 x2 x3 x4 x6 x8 x9 h
    rw [fX1_clear_33] at h
    exact zno h
  | succ n ih =>
    intro sO x1 x2 x3 x4 x6 x8 x9 h
    rw [fX1_clear_33] at h
    refine z_iload X dX1_clear_33 7 rfl ?_
    refine z_iconst (v := (4 : Int32)) X dX1_clear_35 rfl ?_
    refine z_icmp_ge (tgt := 101) X dX1_clear_36 (by decide) (fun c36 => ?_) (fun c36 => ?_)
    · replace h := zif_t h c36
      refine z_aload_n X dX1_clear_101 0 rfl ?_
      refine z_iload_n X dX1_clear_102 1 rfl ?_
      refine z_iload_n X dX1_clear_103 3 rfl ?_
      refine z_iload X dX1_clear_104 6 rfl ?_
      refine z_i2l X dX1_clear_106 ?_
      refine z_lload X dX1_clear_107 5 rfl ?_
      refine z_lmul X dX1_clear_109 ?_
      obtain ⟨o110, ho110, h⟩ := zbind_of h
      refine z_callVv (st := []) (ws2 := [wX1 (zcT C) aO o110]) X (metX1_putCell (zcl C) (zcD C) (zcT C) aO ho110) zmX1_putCell zw561 dX1_clear_110 0 0 2 rfl rfl rfl rfl [0] rfl rfl [0] rfl (by decide) ⟨zsX1 , trivial⟩ rfl rfl rfl (Nat.le_of_ble_eq_true rfl) rfl rfl ⟨Nat.le_of_ble_eq_true rfl, Nat.le_of_ble_eq_true rfl⟩ ⟨Nat.le_of_ble_eq_true rfl, Nat.le_of_ble_eq_true rfl⟩ ?_
      cases h
      exact z_vret X hQ dX1_clear_113 [0] rfl (by decide) (by decide)
    · replace h := zif_f h c36
      refine z_iload X dX1_clear_39 7 rfl ?_
      refine z_iload_n X dX1_clear_41 3 rfl ?_
      refine z_icmp_eq (tgt := 95) X dX1_clear_42 (by decide) (fun c42 => ?_) (fun c42 => ?_)
      · replace h := zif_t h c42
        exact z_at (pc2 := 95) (lv2 := [(0, .ref (aO 0)), (1, .int x1), (2, .int x2), (3, .int x3), (4, .long x4), (6, .long x6), (8, .int x8), (9, .int x9)]) (st2 := []) (ws2 := [wX1 (zcT C) aO sO]) rfl rfl rfl [0, 1, 2, 3, 4, 5, 6, 7] rfl (bX1_clear_95 X hQ ih h)
      · replace h := zif_f h c42
        refine z_aload_n X dX1_clear_45 0 rfl ?_
        refine z_get (v := .long (zgl sO 4)) X 0 0 2 4 ziX1 rfl (by decide) zw197 rfl dX1_clear_46 rfl rfl rfl ?_
        refine z_lconst (v := (0 : Int64)) X dX1_clear_49 rfl ?_
        refine z_lcmp_eq (tgt := 95) X dX1_clear_50 dX1_clear_51 (by decide) (fun c50 => ?_) (fun c50 => ?_)
        · replace h := zif_t h c50
          exact z_at (pc2 := 95) (lv2 := [(0, .ref (aO 0)), (1, .int x1), (2, .int x2), (3, .int x3), (4, .long x4), (6, .long x6), (8, .int x8), (9, .int x9)]) (st2 := []) (ws2 := [wX1 (zcT C) aO sO]) rfl rfl rfl [0, 1, 2, 3, 4, 5, 6, 7] rfl (bX1_clear_95 X hQ ih h)
        · replace h := zif_f h c50
          refine z_lload X dX1_clear_54 4 rfl ?_
          refine z_aload_n X dX1_clear_56 0 rfl ?_
          refine z_iload_n X dX1_clear_57 1 rfl ?_
          refine z_iload X dX1_clear_58 7 rfl ?_
          obtain ⟨o60, ho60, h⟩ := zbind_of h
          refine z_callVl (st := [.long x4]) (ws2 := [wX1 (zcT C) aO sO]) X (metX1_cell (zcl C) (zcD C) (zcT C) aO ho60) zmX1_cell zw618 dX1_clear_60 0 0 2 rfl rfl rfl rfl [0] rfl rfl [] rfl (by decide) trivial rfl rfl rfl (Nat.le_of_ble_eq_true rfl) rfl rfl ⟨Nat.le_of_ble_eq_true rfl, Nat.le_of_ble_eq_true rfl⟩ ⟨Nat.le_of_ble_eq_true rfl, Nat.le_of_ble_eq_true rfl⟩ ?_
          refine z_lmul X dX1_clear_63 ?_
          refine z_lload X dX1_clear_64 5 rfl ?_
          refine z_aload_n X dX1_clear_66 0 rfl ?_
          refine z_iload_n X dX1_clear_67 2 rfl ?_
          refine z_iload X dX1_clear_68 7 rfl ?_
          obtain ⟨o70, ho70, h⟩ := zbind_of h
          refine z_callVl (st := [.long x6, .long (x4 * o60)]) (ws2 := [wX1 (zcT C) aO sO]) X (metX1_cell (zcl C) (zcD C) (zcT C) aO ho70) zmX1_cell zw618 dX1_clear_70 0 0 2 rfl rfl rfl rfl [0] rfl rfl [] rfl (by decide) trivial rfl rfl rfl (Nat.le_of_ble_eq_true rfl) rfl rfl ⟨Nat.le_of_ble_eq_true rfl, Nat.le_of_ble_eq_true rfl⟩ ⟨Nat.le_of_ble_eq_true rfl, Nat.le_of_ble_eq_true rfl⟩ ?_
          refine z_lmul X dX1_clear_73 ?_
          refine z_lsub X dX1_clear_74 ?_
          obtain ⟨v75, ev75, h⟩ := zlet_of h
          refine z_topl ev75 ?_
          refine z_lstore (lv2 := [(10, .long v75), (0, .ref (aO 0)), (1, .int x1), (2, .int x2), (3, .int x3), (4, .long x4), (6, .long x6), (8, .int x8), (9, .int x9)]) X dX1_clear_75 (by decide) rfl ?_
          refine z_aload_n X dX1_clear_77 1 rfl ?_
          refine z_iload_n X dX1_clear_78 2 rfl ?_
          refine z_iload X dX1_clear_79 8 rfl ?_
          refine z_iload X dX1_clear_81 7 rfl ?_
          refine z_i2l X dX1_clear_83 ?_
          refine z_lload X dX1_clear_84 0 rfl ?_
          refine z_lmul X dX1_clear_86 ?_
          refine z_aload_n X dX1_clear_87 1 rfl ?_
          refine z_get (v := .long (zgl sO 4)) X 0 0 2 4 ziX1 rfl (by decide) zw197 rfl dX1_clear_88 rfl rfl rfl ?_
          have g91 : ¬ (zgl sO 4) = 0 := fun e => by rw [if_pos e] at h; exact zno h
          replace h := zif_f h g91
          refine z_ldiv X dX1_clear_91 g91 ?_
          obtain ⟨o92, ho92, h⟩ := zbind_of h
          refine z_callVv (st := []) (ws2 := [wX1 (zcT C) aO o92]) X (metX1_putCell (zcl C) (zcD C) (zcT C) aO ho92) zmX1_putCell zw561 dX1_clear_92 0 0 2 rfl rfl rfl rfl [0] rfl rfl [0] rfl (by decide) ⟨zsX1 , trivial⟩ rfl rfl rfl (Nat.le_of_ble_eq_true rfl) rfl rfl ⟨Nat.le_of_ble_eq_true rfl, Nat.le_of_ble_eq_true rfl⟩ ⟨Nat.le_of_ble_eq_true rfl, Nat.le_of_ble_eq_true rfl⟩ ?_
          exact z_at (pc2 := 95) (lv2 := [(0, .ref (aO 0)), (1, .int x1), (2, .int x2), (3, .int x3), (4, .long x4), (6, .long x6), (8, .int x8), (9, .int x9)]) (st2 := []) (ws2 := [wX1 (zcT C) aO o92]) rfl rfl rfl [1, 2, 3, 4, 5, 6, 7, 8] rfl (bX1_clear_95 X hQ ih h)
theorem bX1_clear_28 {C : zCtx} (X : zFx C cX1_clear 12 RX1 rmX1_clear none) {aO : Nat → Nat} {sO : zSt} {x1 : Int32} {x2 : Int32} {x3 : Int32} {x4 : Int64} {x6 : Int64} {y0 : Int32} {out : zSt} (hQ : zHv C [wX1 (zcT C) aO out] 0 0) (h : fX1_clear_28 sO x1 x2 x3 x4 x6 y0 = some out) : zG C 12 [0] 0 0 [wX1 (zcT C) aO sO] 28 [(0, .ref (aO 0)), (1, .int x1), (2, .int x2), (3, .int x3), (4, .long x4), (6, .long x6)] [.int y0] := by
  unfold fX1_clear_28 at h
  refine z_istore (lv2 := [(8, .int y0), (0, .ref (aO 0)), (1, .int x1), (2, .int x2), (3, .int x3), (4, .long x4), (6, .long x6)]) X dX1_clear_28 (by decide) rfl ?_
  refine z_iconst (v := (0 : Int32)) X dX1_clear_30 rfl ?_
  refine z_istore (lv2 := [(9, .int (0 : Int32)), (8, .int y0), (0, .ref (aO 0)), (1, .int x1), (2, .int x2), (3, .int x3), (4, .long x4), (6, .long x6)]) X dX1_clear_31 (by decide) rfl ?_
  exact z_at (pc2 := 33) (lv2 := [(0, .ref (aO 0)), (1, .int x1), (2, .int x2), (3, .int x3), (4, .long x4), (6, .long x6), (8, .int y0), (9, .int (0 : Int32))]) (st2 := []) (ws2 := [wX1 (zcT C) aO sO]) rfl rfl rfl [2, 3, 4, 5, 6, 7, 1, 0] rfl (bX1_clear_33 X hQ  6000 sO x1 x2 x3 x4 x6 y0 (0 : Int32) h)
theorem bX1_clear_0 {C : zCtx} (X : zFx C cX1_clear 12 RX1 rmX1_clear none) {aO : Nat → Nat} {sO : zSt} {x1 : Int32} {x2 : Int32} {x3 : Int32} {out : zSt} (hQ : zHv C [wX1 (zcT C) aO out] 0 0) (h : fX1_clear sO x1 x2 x3 = some out) : zG C 12 [0] 0 0 [wX1 (zcT C) aO sO] 0 [(0, .ref (aO 0)), (1, .int x1), (2, .int x2), (3, .int x3)] [] := by
  unfold fX1_clear at h
  refine z_aload_n X dX1_clear_0 0 rfl ?_
  refine z_iload_n X dX1_clear_1 2 rfl ?_
  refine z_iload_n X dX1_clear_2 3 rfl ?_
  obtain ⟨o3, ho3, h⟩ := zbind_of h
  refine z_callVl (st := []) (ws2 := [wX1 (zcT C) aO sO]) X (metX1_cell (zcl C) (zcD C) (zcT C) aO ho3) zmX1_cell zw618 dX1_clear_3 0 0 2 rfl rfl rfl rfl [0] rfl rfl [] rfl (by decide) trivial rfl rfl rfl (Nat.le_of_ble_eq_true rfl) rfl rfl ⟨Nat.le_of_ble_eq_true rfl, Nat.le_of_ble_eq_true rfl⟩ ⟨Nat.le_of_ble_eq_true rfl, Nat.le_of_ble_eq_true rfl⟩ ?_
  refine z_lstore (lv2 := [(4, .long o3), (0, .ref (aO 0)), (1, .int x1), (2, .int x2), (3, .int x3)]) X dX1_clear_6 (by decide) rfl ?_
  refine z_aload_n X dX1_clear_8 1 rfl ?_
  refine z_iload_n X dX1_clear_9 2 rfl ?_
  refine z_iload_n X dX1_clear_10 4 rfl ?_
  obtain ⟨o11, ho11, h⟩ := zbind_of h
  refine z_callVl (st := []) (ws2 := [wX1 (zcT C) aO sO]) X (metX1_cell (zcl C) (zcD C) (zcT C) aO ho11) zmX1_cell zw618 dX1_clear_11 0 0 2 rfl rfl rfl rfl [0] rfl rfl [] rfl (by decide) trivial rfl rfl rfl (Nat.le_of_ble_eq_true rfl) rfl rfl ⟨Nat.le_of_ble_eq_true rfl, Nat.le_of_ble_eq_true rfl⟩ ⟨Nat.le_of_ble_eq_true rfl, Nat.le_of_ble_eq_true rfl⟩ ?_
  refine z_lstore (lv2 := [(6, .long o11), (4, .long o3), (0, .ref (aO 0)), (1, .int x1), (2, .int x2), (3, .int x3)]) X dX1_clear_14 (by decide) rfl ?_
  refine z_lload X dX1_clear_16 1 rfl ?_
  refine z_lconst (v := (0 : Int64)) X dX1_clear_18 rfl ?_
  refine z_lcmp_ge (tgt := 27) X dX1_clear_19 dX1_clear_20 (by decide) (fun c19 => ?_) (fun c19 => ?_)
  · replace h := zif_t h c19
    refine z_iconst (v := (1 : Int32)) X dX1_clear_27 rfl ?_
    exact z_at (pc2 := 28) (lv2 := [(0, .ref (aO 0)), (1, .int x1), (2, .int x2), (3, .int x3), (4, .long o3), (6, .long o11)]) (st2 := [.int (1 : Int32)]) (ws2 := [wX1 (zcT C) aO sO]) rfl rfl rfl [2, 3, 4, 5, 1, 0] rfl (bX1_clear_28 X hQ  h)
  · replace h := zif_f h c19
    refine z_iconst (v := (-1 : Int32)) X dX1_clear_23 rfl ?_
    refine z_goto (tgt := 28) X dX1_clear_24 (by decide) ?_
    exact z_at (pc2 := 28) (lv2 := [(0, .ref (aO 0)), (1, .int x1), (2, .int x2), (3, .int x3), (4, .long o3), (6, .long o11)]) (st2 := [.int (-1 : Int32)]) (ws2 := [wX1 (zcT C) aO sO]) rfl rfl rfl [2, 3, 4, 5, 1, 0] rfl (bX1_clear_28 X hQ  h)
theorem metX1_clear (l : Launch) (D : va_G) (T : Nat → ClassId) (aO : Nat → Nat) {sO : zSt} {x1 : Int32} {x2 : Int32} {x3 : Int32} {out : zSt} (hf : fX1_clear sO x1 x2 x3 = some out) (sz : Nat) : Met l yX1_clear (zws yX1_clear cX1_clear 12 none) rmX1_clear (zPc D T [.ref (aO 0), .int x1, .int x2, .int x3] [wX1 T aO sO] sz) (zQv D [wX1 T aO out] (zA [wX1 T aO sO] sz)) 0 0 (zA [wX1 T aO sO] sz) :=
  zMet (D := D) (T := T) (av := [.ref (aO 0), .int x1, .int x2, .int x3]) (ws := fun T => [wX1 T aO sO]) (wm := fun T => [wX1 T aO sO]) (lv0 := [(0, .ref (aO 0)), (1, .int x1), (2, .int x2), (3, .int x3)]) [0] (Qc := fun D T A => zQv D [wX1 T aO out] A) (by decide +kernel) rfl (Nat.le_of_ble_eq_true rfl) rfl (fun C X hQ => bX1_clear_0 X hQ hf) sz
/-- void swap(int, int); of Tableaufloor$Dictionary -/
abbrev rmX1_swap : Room := { frames := 2, cells := 0, slots := 0, locals := 56 }
def fX1_swap_39 (sO : zSt) : Option (zSt) :=
  some (sO)
def fX1_swap_154 (k115 : zSt → Int32 → Int32 → Int64 → Int32 → Int32 → Option (zSt)) (sO : zSt) (x1 : Int32) (x2 : Int32) (x3 : Int64) (x5 : Int32) (x6 : Int32) (y1 : Int32) (y2 : Int32) (y3 : Int64) : Option (zSt) :=
  ((fX1_putCell sO y1 y2 y3).bind (fun o154 =>
    (zlet (x6 + 1) (fun v157 =>
    (k115 o154 x1 x2 x3 x5 v157)))))
def fX1_swap_115 : Nat → zSt → Int32 → Int32 → Int64 → Int32 → Int32 → Option (zSt)
  | 0, _, _, _, _, _, _ => none
  | n + 1, sO, x1, x2, x3, x5, x6 =>
    (if (4 : Int32) ≤ x6 then
      (zlet (zsl sO 4 (((x5).toInt64) * x3)) (fun sO169 =>
        (if zin x1 15 = true then
        (zlet (zga sO169 1 (x1).toNatClampNeg) (fun v178 =>
        (if zin x2 3 = true then
        (if zin x1 15 = true then
        (zlet (zsa sO169 1 (upd (zga sO169 1) (x1).toNatClampNeg (zga sO169 2 (x2).toNatClampNeg))) (fun sO191 =>
        (if zin x2 3 = true then
        (zlet (zsa sO191 2 (upd (zga sO191 2) (x2).toNatClampNeg v178)) (fun sO199 =>
        some (sO199))) else none))) else none) else none))) else none)))
    else
      (if x6 = x2 then
        (fX1_swap_154 (fX1_swap_115 n) sO x1 x2 x3 x5 x6 x1 x6 (((x5).toInt64) * (zgl sO 4)))
      else
        ((fX1_cell sO x1 x6).bind (fun o150 =>
          (fX1_swap_154 (fX1_swap_115 n) sO x1 x2 x3 x5 x6 x1 x6 ((((-x5)).toInt64) * o150))))))
def fX1_swap_110 (sO : zSt) (x1 : Int32) (x2 : Int32) (x3 : Int64) (y0 : Int32) : Option (zSt) :=
  (fX1_swap_115 6000 sO x1 x2 x3 y0 (0 : Int32))
def fX1_swap_75 : Nat → zSt → Int32 → Int32 → Int64 → Int32 → Option (zSt)
  | 0, _, _, _, _, _ => none
  | n + 1, sO, x1, x2, x3, x5 =>
    (if (6 : Int32) ≤ x5 then
      (if (0 : Int64) ≤ x3 then
        (fX1_swap_110 sO x1 x2 x3 (1 : Int32))
      else
        (fX1_swap_110 sO x1 x2 x3 (-1 : Int32)))
    else
      ((fX1_clear sO ((15 : Int32) + x5) x1 x2).bind (fun o90 =>
        (zlet (x5 + 1) (fun v93 =>
        (fX1_swap_75 n o90 x1 x2 x3 v93))))))
def fX1_swap_66 (k43 : zSt → Int32 → Int32 → Int64 → Int32 → Option (zSt)) (sO : zSt) (x1 : Int32) (x2 : Int32) (x3 : Int64) (x5 : Int32) : Option (zSt) :=
  (zlet (x5 + 1) (fun v66 =>
    (k43 sO x1 x2 x3 v66)))
def fX1_swap_43 : Nat → zSt → Int32 → Int32 → Int64 → Int32 → Option (zSt)
  | 0, _, _, _, _, _ => none
  | n + 1, sO, x1, x2, x3, x5 =>
    (if (zgi sO 3) ≤ x5 then
      (fX1_swap_75 6000 sO x1 x2 x3 (0 : Int32))
    else
      (if x5 = x1 then
        (fX1_swap_66 (fX1_swap_43 n) sO x1 x2 x3 x5)
      else
        ((fX1_clear sO x5 x1 x2).bind (fun o63 =>
          (fX1_swap_66 (fX1_swap_43 n) o63 x1 x2 x3 x5)))))
def fX1_swap (sO : zSt) (x1 : Int32) (x2 : Int32) : Option (zSt) :=
  ((fX1_cell sO x1 x2).bind (fun o3 =>
    (if o3 = (0 : Int64) then
    (fX1_swap_39 sO)
  else
    (if x1 < 0 then
      (fX1_swap_39 sO)
    else
      (if (15 : Int32) ≤ x1 then
        (fX1_swap_39 sO)
      else
        (if x2 < 0 then
          (fX1_swap_39 sO)
        else
          (if x2 < (3 : Int32) then
            (fX1_swap_43 6000 sO x1 x2 o3 (0 : Int32))
          else
            (fX1_swap_39 sO))))))))
theorem bX1_swap_39 {C : zCtx} (X : zFx C cX1_swap 7 RX1 rmX1_swap none) {aO : Nat → Nat} {sO : zSt} {out : zSt} (hQ : zHv C [wX1 (zcT C) aO out] 0 0) (h : fX1_swap_39 sO = some out) : zG C 7 [0] 0 0 [wX1 (zcT C) aO sO] 39 [] [] := by
  unfold fX1_swap_39 at h
  cases h
  exact z_vret X hQ dX1_swap_39 [0] rfl (by decide) (by decide)
theorem bX1_swap_154 {C : zCtx} (X : zFx C cX1_swap 7 RX1 rmX1_swap none) {aO : Nat → Nat} {k115 : zSt → Int32 → Int32 → Int64 → Int32 → Int32 → Option (zSt)} {sO : zSt} {x1 : Int32} {x2 : Int32} {x3 : Int64} {x5 : Int32} {x6 : Int32} {y1 : Int32} {y2 : Int32} {y3 : Int64} {out : zSt} (hQ : zHv C [wX1 (zcT C) aO out] 0 0) (hk115 : ∀ (sO : zSt) (x1 : Int32) (x2 : Int32) (x3 : Int64) (x5 : Int32) (x6 : Int32), k115 sO x1 x2 x3 x5 x6 = some out → zG C 7 [0] 0 0 [wX1 (zcT C) aO sO] 115 [(0, .ref (aO 0)), (1, .int x1), (2, .int x2), (3, .long x3), (5, .int x5), (6, .int x6)] []) (h : fX1_swap_154 k115 sO x1 x2 x3 x5 x6 y1 y2 y3 = some out) : zG C 7 [0] 0 0 [wX1 (zcT C) aO sO] 154 [(0, .ref (aO 0)), (1, .int x1), (2, .int x2), (3, .long x3), (5, .int x5), (6, .int x6)] [.long y3, .int y2, .int y1, .ref (aO 0)] := by
  unfold fX1_swap_154 at h
  obtain ⟨o154, ho154, h⟩ := zbind_of h
  refine z_callVv (st := []) (ws2 := [wX1 (zcT C) aO o154]) X (metX1_putCell (zcl C) (zcD C) (zcT C) aO ho154) zmX1_putCell zw561 dX1_swap_154 0 0 2 rfl rfl rfl rfl [0] rfl rfl [0] rfl (by decide) ⟨zsX1 , trivial⟩ rfl rfl rfl (Nat.le_of_ble_eq_true rfl) rfl rfl ⟨Nat.le_of_ble_eq_true rfl, Nat.le_of_ble_eq_true rfl⟩ ⟨Nat.le_of_ble_eq_true rfl, Nat.le_of_ble_eq_true rfl⟩ ?_
  obtain ⟨v157, ev157, h⟩ := zlet_of h
  refine z_iinc (v := v157) (lv2 := [(6, .int v157), (0, .ref (aO 0)), (1, .int x1), (2, .int x2), (3, .long x3), (5, .int x5)]) X dX1_swap_157 (k := 5) rfl (by rw [ev157]; rfl) (by decide) rfl ?_
  refine z_goto (tgt := 115) X dX1_swap_160 (by decide) ?_
  exact z_at (pc2 := 115) (lv2 := [(0, .ref (aO 0)), (1, .int x1), (2, .int x2), (3, .long x3), (5, .int x5), (6, .int v157)]) (st2 := []) (ws2 := [wX1 (zcT C) aO o154]) rfl rfl rfl [1, 2, 3, 4, 5, 0] rfl (hk115 o154 x1 x2 x3 x5 v157 h)
theorem bX1_swap_115 {C : zCtx} (X : zFx C cX1_swap 7 RX1 rmX1_swap none) {aO : Nat → Nat} {out : zSt} (hQ : zHv C [wX1 (zcT C) aO out] 0 0) : ∀ (n : Nat) (sO : zSt) (x1 : Int32) (x2 : Int32) (x3 : Int64) (x5 : Int32) (x6 : Int32), fX1_swap_115 n sO x1 x2 x3 x5 x6 = some out → zG C 7 [0] 0 0 [wX1 (zcT C) aO sO] 115 [(0, .ref (aO 0)), (1, .int x1), (2, .int x2), (3, .long x3), (5, .int x5), (6, .int x6)] [] := by
  intro n
  induction n with
  | zero =>
    intro sO x1 x2 x3 x5 x6 h
    rw [fX1_swap_115] at h
    exact zno h
  | succ n ih =>
    intro sO x1 x2 x3 x5 x6 h
    rw [fX1_swap_115] at h
    refine z_iload X dX1_swap_115 5 rfl ?_
    refine z_iconst (v := (4 : Int32)) X dX1_swap_117 rfl ?_
    refine z_icmp_ge (tgt := 163) X dX1_swap_118 (by decide) (fun c118 => ?_) (fun c118 => ?_)
    · replace h := zif_t h c118
      refine z_aload_n X dX1_swap_163 0 rfl ?_
      refine z_iload X dX1_swap_164 4 rfl ?_
      refine z_i2l X dX1_swap_166 ?_
      refine z_lload_n X dX1_swap_167 3 rfl ?_
      refine z_lmul X dX1_swap_168 ?_
      obtain ⟨sO169, esO169, h⟩ := zlet_of h
      refine z_put (ws2 := [wX1 (zcT C) aO sO169]) X 0 0 2 4 ziX1 rfl tyX1 tyX1_ok nmX1 (by decide) zw197 rfl rfl (ty := .long) (by decide +kernel) rfl rfl (by show 4 < 5; decide) dX1_swap_169 rfl rfl (by decide) (w2 := wX1 (zcT C) aO sO169) (by rw [esO169]; rfl) rfl ?_
      refine z_aload_n X dX1_swap_172 0 rfl ?_
      refine z_get (v := .ref (aO 2)) X 0 0 2 1 ziX1 rfl (by decide) zw193 rfl dX1_swap_173 rfl rfl rfl ?_
      refine z_iload_n X dX1_swap_176 1 rfl ?_
      obtain ⟨g177, h⟩ := zgd_of h
      refine z_iald X 0 2 g177 dX1_swap_177 rfl rfl ?_
      obtain ⟨v178, ev178, h⟩ := zlet_of h
      refine z_topi ev178 ?_
      refine z_istore (lv2 := [(6, .int v178), (0, .ref (aO 0)), (1, .int x1), (2, .int x2), (3, .long x3), (5, .int x5)]) X dX1_swap_178 (by decide) rfl ?_
      refine z_aload_n X dX1_swap_180 1 rfl ?_
      refine z_get (v := .ref (aO 2)) X 0 0 2 1 ziX1 rfl (by decide) zw193 rfl dX1_swap_181 rfl rfl rfl ?_
      refine z_iload_n X dX1_swap_184 2 rfl ?_
      refine z_aload_n X dX1_swap_185 1 rfl ?_
      refine z_get (v := .ref (aO 3)) X 0 0 2 2 ziX1 rfl (by decide) zw194 rfl dX1_swap_186 rfl rfl rfl ?_
      refine z_iload_n X dX1_swap_189 3 rfl ?_
      obtain ⟨g190, h⟩ := zgd_of h
      refine z_iald X 0 3 g190 dX1_swap_190 rfl rfl ?_
      obtain ⟨g191, h⟩ := zgd_of h
      obtain ⟨sO191, esO191, h⟩ := zlet_of h
      refine z_iast (ws2 := [wX1 (zcT C) aO sO191]) X 0 2 g191 dX1_swap_191 rfl rfl (by decide) (w2 := wX1 (zcT C) aO sO191) (by rw [esO191]; rfl) rfl ?_
      refine z_aload_n X dX1_swap_192 1 rfl ?_
      refine z_get (v := .ref (aO 3)) X 0 0 2 2 ziX1 rfl (by decide) zw194 rfl dX1_swap_193 rfl rfl rfl ?_
      refine z_iload_n X dX1_swap_196 3 rfl ?_
      refine z_iload X dX1_swap_197 0 rfl ?_
      obtain ⟨g199, h⟩ := zgd_of h
      obtain ⟨sO199, esO199, h⟩ := zlet_of h
      refine z_iast (ws2 := [wX1 (zcT C) aO sO199]) X 0 3 g199 dX1_swap_199 rfl rfl (by decide) (w2 := wX1 (zcT C) aO sO199) (by rw [esO199]; rfl) rfl ?_
      cases h
      exact z_vret X hQ dX1_swap_200 [0] rfl (by decide) (by decide)
    · replace h := zif_f h c118
      refine z_aload_n X dX1_swap_121 0 rfl ?_
      refine z_iload_n X dX1_swap_122 1 rfl ?_
      refine z_iload X dX1_swap_123 5 rfl ?_
      refine z_iload X dX1_swap_125 5 rfl ?_
      refine z_iload_n X dX1_swap_127 2 rfl ?_
      refine z_icmp_ne (tgt := 142) X dX1_swap_128 (by decide) (fun c128 => ?_) (fun c128 => ?_)
      · replace h := zif_f h c128
        refine z_iload X dX1_swap_142 4 rfl ?_
        refine z_ineg X dX1_swap_144 ?_
        refine z_i2l X dX1_swap_145 ?_
        refine z_aload_n X dX1_swap_146 0 rfl ?_
        refine z_iload_n X dX1_swap_147 1 rfl ?_
        refine z_iload X dX1_swap_148 5 rfl ?_
        obtain ⟨o150, ho150, h⟩ := zbind_of h
        refine z_callVl (st := [.long (((-x5)).toInt64), .int x6, .int x1, .ref (aO 0)]) (ws2 := [wX1 (zcT C) aO sO]) X (metX1_cell (zcl C) (zcD C) (zcT C) aO ho150) zmX1_cell zw618 dX1_swap_150 0 0 2 rfl rfl rfl rfl [0] rfl rfl [] rfl (by decide) trivial rfl rfl rfl (Nat.le_of_ble_eq_true rfl) rfl rfl ⟨Nat.le_of_ble_eq_true rfl, Nat.le_of_ble_eq_true rfl⟩ ⟨Nat.le_of_ble_eq_true rfl, Nat.le_of_ble_eq_true rfl⟩ ?_
        refine z_lmul X dX1_swap_153 ?_
        exact z_at (pc2 := 154) (lv2 := [(0, .ref (aO 0)), (1, .int x1), (2, .int x2), (3, .long x3), (5, .int x5), (6, .int x6)]) (st2 := [.long ((((-x5)).toInt64) * o150), .int x6, .int x1, .ref (aO 0)]) (ws2 := [wX1 (zcT C) aO sO]) rfl rfl rfl [0, 1, 2, 3, 4, 5] rfl (bX1_swap_154 X hQ ih h)
      · replace h := zif_t h c128
        refine z_iload X dX1_swap_131 4 rfl ?_
        refine z_i2l X dX1_swap_133 ?_
        refine z_aload_n X dX1_swap_134 0 rfl ?_
        refine z_get (v := .long (zgl sO 4)) X 0 0 2 4 ziX1 rfl (by decide) zw197 rfl dX1_swap_135 rfl rfl rfl ?_
        refine z_lmul X dX1_swap_138 ?_
        refine z_goto (tgt := 154) X dX1_swap_139 (by decide) ?_
        exact z_at (pc2 := 154) (lv2 := [(0, .ref (aO 0)), (1, .int x1), (2, .int x2), (3, .long x3), (5, .int x5), (6, .int x6)]) (st2 := [.long (((x5).toInt64) * (zgl sO 4)), .int x6, .int x1, .ref (aO 0)]) (ws2 := [wX1 (zcT C) aO sO]) rfl rfl rfl [0, 1, 2, 3, 4, 5] rfl (bX1_swap_154 X hQ ih h)
theorem bX1_swap_110 {C : zCtx} (X : zFx C cX1_swap 7 RX1 rmX1_swap none) {aO : Nat → Nat} {sO : zSt} {x1 : Int32} {x2 : Int32} {x3 : Int64} {y0 : Int32} {out : zSt} (hQ : zHv C [wX1 (zcT C) aO out] 0 0) (h : fX1_swap_110 sO x1 x2 x3 y0 = some out) : zG C 7 [0] 0 0 [wX1 (zcT C) aO sO] 110 [(0, .ref (aO 0)), (1, .int x1), (2, .int x2), (3, .long x3)] [.int y0] := by
  unfold fX1_swap_110 at h
  refine z_istore (lv2 := [(5, .int y0), (0, .ref (aO 0)), (1, .int x1), (2, .int x2), (3, .long x3)]) X dX1_swap_110 (by decide) rfl ?_
  refine z_iconst (v := (0 : Int32)) X dX1_swap_112 rfl ?_
  refine z_istore (lv2 := [(6, .int (0 : Int32)), (5, .int y0), (0, .ref (aO 0)), (1, .int x1), (2, .int x2), (3, .long x3)]) X dX1_swap_113 (by decide) rfl ?_
  exact z_at (pc2 := 115) (lv2 := [(0, .ref (aO 0)), (1, .int x1), (2, .int x2), (3, .long x3), (5, .int y0), (6, .int (0 : Int32))]) (st2 := []) (ws2 := [wX1 (zcT C) aO sO]) rfl rfl rfl [2, 3, 4, 5, 1, 0] rfl (bX1_swap_115 X hQ  6000 sO x1 x2 x3 y0 (0 : Int32) h)
theorem bX1_swap_75 {C : zCtx} (X : zFx C cX1_swap 7 RX1 rmX1_swap none) {aO : Nat → Nat} {out : zSt} (hQ : zHv C [wX1 (zcT C) aO out] 0 0) : ∀ (n : Nat) (sO : zSt) (x1 : Int32) (x2 : Int32) (x3 : Int64) (x5 : Int32), fX1_swap_75 n sO x1 x2 x3 x5 = some out → zG C 7 [0] 0 0 [wX1 (zcT C) aO sO] 75 [(0, .ref (aO 0)), (1, .int x1), (2, .int x2), (3, .long x3), (5, .int x5)] [] := by
  intro n
  induction n with
  | zero =>
    intro sO x1 x2 x3 x5 h
    rw [fX1_swap_75] at h
    exact zno h
  | succ n ih =>
    intro sO x1 x2 x3 x5 h
    rw [fX1_swap_75] at h
    refine z_iload X dX1_swap_75 4 rfl ?_
    refine z_bipush (v := (6 : Int32)) X dX1_swap_77 rfl ?_
    refine z_icmp_ge (tgt := 99) X dX1_swap_79 (by decide) (fun c79 => ?_) (fun c79 => ?_)
    · replace h := zif_t h c79
      refine z_lload_n X dX1_swap_99 3 rfl ?_
      refine z_lconst (v := (0 : Int64)) X dX1_swap_100 rfl ?_
      refine z_lcmp_ge (tgt := 109) X dX1_swap_101 dX1_swap_102 (by decide) (fun c101 => ?_) (fun c101 => ?_)
      · replace h := zif_t h c101
        refine z_iconst (v := (1 : Int32)) X dX1_swap_109 rfl ?_
        exact z_at (pc2 := 110) (lv2 := [(0, .ref (aO 0)), (1, .int x1), (2, .int x2), (3, .long x3)]) (st2 := [.int (1 : Int32)]) (ws2 := [wX1 (zcT C) aO sO]) rfl rfl rfl [0, 1, 2, 3] rfl (bX1_swap_110 X hQ  h)
      · replace h := zif_f h c101
        refine z_iconst (v := (-1 : Int32)) X dX1_swap_105 rfl ?_
        refine z_goto (tgt := 110) X dX1_swap_106 (by decide) ?_
        exact z_at (pc2 := 110) (lv2 := [(0, .ref (aO 0)), (1, .int x1), (2, .int x2), (3, .long x3)]) (st2 := [.int (-1 : Int32)]) (ws2 := [wX1 (zcT C) aO sO]) rfl rfl rfl [0, 1, 2, 3] rfl (bX1_swap_110 X hQ  h)
    · replace h := zif_f h c79
      refine z_aload_n X dX1_swap_82 0 rfl ?_
      refine z_bipush (v := (15 : Int32)) X dX1_swap_83 rfl ?_
      refine z_iload X dX1_swap_85 4 rfl ?_
      refine z_iadd X dX1_swap_87 ?_
      refine z_iload_n X dX1_swap_88 1 rfl ?_
      refine z_iload_n X dX1_swap_89 2 rfl ?_
      obtain ⟨o90, ho90, h⟩ := zbind_of h
      refine z_callVv (st := []) (ws2 := [wX1 (zcT C) aO o90]) X (metX1_clear (zcl C) (zcD C) (zcT C) aO ho90) zmX1_clear zw619 dX1_swap_90 0 0 2 rfl rfl rfl rfl [0] rfl rfl [0] rfl (by decide) ⟨zsX1 , trivial⟩ rfl rfl rfl (Nat.le_of_ble_eq_true rfl) rfl rfl ⟨Nat.le_of_ble_eq_true rfl, Nat.le_of_ble_eq_true rfl⟩ ⟨Nat.le_of_ble_eq_true rfl, Nat.le_of_ble_eq_true rfl⟩ ?_
      obtain ⟨v93, ev93, h⟩ := zlet_of h
      refine z_iinc (v := v93) (lv2 := [(5, .int v93), (0, .ref (aO 0)), (1, .int x1), (2, .int x2), (3, .long x3)]) X dX1_swap_93 (k := 4) rfl (by rw [ev93]; rfl) (by decide) rfl ?_
      refine z_goto (tgt := 75) X dX1_swap_96 (by decide) ?_
      exact z_at (pc2 := 75) (lv2 := [(0, .ref (aO 0)), (1, .int x1), (2, .int x2), (3, .long x3), (5, .int v93)]) (st2 := []) (ws2 := [wX1 (zcT C) aO o90]) rfl rfl rfl [1, 2, 3, 4, 0] rfl (ih o90 x1 x2 x3 v93 h)
theorem bX1_swap_66 {C : zCtx} (X : zFx C cX1_swap 7 RX1 rmX1_swap none) {aO : Nat → Nat} {k43 : zSt → Int32 → Int32 → Int64 → Int32 → Option (zSt)} {sO : zSt} {x1 : Int32} {x2 : Int32} {x3 : Int64} {x5 : Int32} {out : zSt} (hQ : zHv C [wX1 (zcT C) aO out] 0 0) (hk43 : ∀ (sO : zSt) (x1 : Int32) (x2 : Int32) (x3 : Int64) (x5 : Int32), k43 sO x1 x2 x3 x5 = some out → zG C 7 [0] 0 0 [wX1 (zcT C) aO sO] 43 [(0, .ref (aO 0)), (1, .int x1), (2, .int x2), (3, .long x3), (5, .int x5)] []) (h : fX1_swap_66 k43 sO x1 x2 x3 x5 = some out) : zG C 7 [0] 0 0 [wX1 (zcT C) aO sO] 66 [(0, .ref (aO 0)), (1, .int x1), (2, .int x2), (3, .long x3), (5, .int x5)] [] := by
  unfold fX1_swap_66 at h
  obtain ⟨v66, ev66, h⟩ := zlet_of h
  refine z_iinc (v := v66) (lv2 := [(5, .int v66), (0, .ref (aO 0)), (1, .int x1), (2, .int x2), (3, .long x3)]) X dX1_swap_66 (k := 4) rfl (by rw [ev66]; rfl) (by decide) rfl ?_
  refine z_goto (tgt := 43) X dX1_swap_69 (by decide) ?_
  exact z_at (pc2 := 43) (lv2 := [(0, .ref (aO 0)), (1, .int x1), (2, .int x2), (3, .long x3), (5, .int v66)]) (st2 := []) (ws2 := [wX1 (zcT C) aO sO]) rfl rfl rfl [1, 2, 3, 4, 0] rfl (hk43 sO x1 x2 x3 v66 h)
theorem bX1_swap_43 {C : zCtx} (X : zFx C cX1_swap 7 RX1 rmX1_swap none) {aO : Nat → Nat} {out : zSt} (hQ : zHv C [wX1 (zcT C) aO out] 0 0) : ∀ (n : Nat) (sO : zSt) (x1 : Int32) (x2 : Int32) (x3 : Int64) (x5 : Int32), fX1_swap_43 n sO x1 x2 x3 x5 = some out → zG C 7 [0] 0 0 [wX1 (zcT C) aO sO] 43 [(0, .ref (aO 0)), (1, .int x1), (2, .int x2), (3, .long x3), (5, .int x5)] [] := by
  intro n
  induction n with
  | zero =>
    intro sO x1 x2 x3 x5 h
    rw [fX1_swap_43] at h
    exact zno h
  | succ n ih =>
    intro sO x1 x2 x3 x5 h
    rw [fX1_swap_43] at h
    refine z_iload X dX1_swap_43 4 rfl ?_
    refine z_aload_n X dX1_swap_45 0 rfl ?_
    refine z_get (v := .int (zgi sO 3)) X 0 0 2 3 ziX1 rfl (by decide) zw195 rfl dX1_swap_46 rfl rfl rfl ?_
    refine z_icmp_ge (tgt := 72) X dX1_swap_49 (by decide) (fun c49 => ?_) (fun c49 => ?_)
    · replace h := zif_t h c49
      refine z_iconst (v := (0 : Int32)) X dX1_swap_72 rfl ?_
      refine z_istore (lv2 := [(5, .int (0 : Int32)), (0, .ref (aO 0)), (1, .int x1), (2, .int x2), (3, .long x3)]) X dX1_swap_73 (by decide) rfl ?_
      exact z_at (pc2 := 75) (lv2 := [(0, .ref (aO 0)), (1, .int x1), (2, .int x2), (3, .long x3), (5, .int (0 : Int32))]) (st2 := []) (ws2 := [wX1 (zcT C) aO sO]) rfl rfl rfl [1, 2, 3, 4, 0] rfl (bX1_swap_75 X hQ  6000 sO x1 x2 x3 (0 : Int32) h)
    · replace h := zif_f h c49
      refine z_iload X dX1_swap_52 4 rfl ?_
      refine z_iload_n X dX1_swap_54 1 rfl ?_
      refine z_icmp_eq (tgt := 66) X dX1_swap_55 (by decide) (fun c55 => ?_) (fun c55 => ?_)
      · replace h := zif_t h c55
        exact z_at (pc2 := 66) (lv2 := [(0, .ref (aO 0)), (1, .int x1), (2, .int x2), (3, .long x3), (5, .int x5)]) (st2 := []) (ws2 := [wX1 (zcT C) aO sO]) rfl rfl rfl [0, 1, 2, 3, 4] rfl (bX1_swap_66 X hQ ih h)
      · replace h := zif_f h c55
        refine z_aload_n X dX1_swap_58 0 rfl ?_
        refine z_iload X dX1_swap_59 4 rfl ?_
        refine z_iload_n X dX1_swap_61 1 rfl ?_
        refine z_iload_n X dX1_swap_62 2 rfl ?_
        obtain ⟨o63, ho63, h⟩ := zbind_of h
        refine z_callVv (st := []) (ws2 := [wX1 (zcT C) aO o63]) X (metX1_clear (zcl C) (zcD C) (zcT C) aO ho63) zmX1_clear zw619 dX1_swap_63 0 0 2 rfl rfl rfl rfl [0] rfl rfl [0] rfl (by decide) ⟨zsX1 , trivial⟩ rfl rfl rfl (Nat.le_of_ble_eq_true rfl) rfl rfl ⟨Nat.le_of_ble_eq_true rfl, Nat.le_of_ble_eq_true rfl⟩ ⟨Nat.le_of_ble_eq_true rfl, Nat.le_of_ble_eq_true rfl⟩ ?_
        exact z_at (pc2 := 66) (lv2 := [(0, .ref (aO 0)), (1, .int x1), (2, .int x2), (3, .long x3), (5, .int x5)]) (st2 := []) (ws2 := [wX1 (zcT C) aO o63]) rfl rfl rfl [0, 1, 2, 3, 4] rfl (bX1_swap_66 X hQ ih h)
theorem bX1_swap_0 {C : zCtx} (X : zFx C cX1_swap 7 RX1 rmX1_swap none) {aO : Nat → Nat} {sO : zSt} {x1 : Int32} {x2 : Int32} {out : zSt} (hQ : zHv C [wX1 (zcT C) aO out] 0 0) (h : fX1_swap sO x1 x2 = some out) : zG C 7 [0] 0 0 [wX1 (zcT C) aO sO] 0 [(0, .ref (aO 0)), (1, .int x1), (2, .int x2)] [] := by
  unfold fX1_swap at h
  refine z_aload_n X dX1_swap_0 0 rfl ?_
  refine z_iload_n X dX1_swap_1 1 rfl ?_
  refine z_iload_n X dX1_swap_2 2 rfl ?_
  obtain ⟨o3, ho3, h⟩ := zbind_of h
  refine z_callVl (st := []) (ws2 := [wX1 (zcT C) aO sO]) X (metX1_cell (zcl C) (zcD C) (zcT C) aO ho3) zmX1_cell zw618 dX1_swap_3 0 0 2 rfl rfl rfl rfl [0] rfl rfl [] rfl (by decide) trivial rfl rfl rfl (Nat.le_of_ble_eq_true rfl) rfl rfl ⟨Nat.le_of_ble_eq_true rfl, Nat.le_of_ble_eq_true rfl⟩ ⟨Nat.le_of_ble_eq_true rfl, Nat.le_of_ble_eq_true rfl⟩ ?_
  refine z_lstore_n (lv2 := [(3, .long o3), (0, .ref (aO 0)), (1, .int x1), (2, .int x2)]) X dX1_swap_6 rfl (by decide) rfl ?_
  refine z_lload_n X dX1_swap_7 0 rfl ?_
  refine z_lconst (v := (0 : Int64)) X dX1_swap_8 rfl ?_
  refine z_lcmp_eq (tgt := 39) X dX1_swap_9 dX1_swap_10 (by decide) (fun c9 => ?_) (fun c9 => ?_)
  · replace h := zif_t h c9
    exact z_at (pc2 := 39) (lv2 := []) (st2 := []) (ws2 := [wX1 (zcT C) aO sO]) rfl rfl rfl [] rfl (bX1_swap_39 X hQ  h)
  · replace h := zif_f h c9
    refine z_iload_n X dX1_swap_13 2 rfl ?_
    refine z_if_lt (tgt := 39) X dX1_swap_14 (by decide) (fun c14 => ?_) (fun c14 => ?_)
    · replace h := zif_t h c14
      exact z_at (pc2 := 39) (lv2 := []) (st2 := []) (ws2 := [wX1 (zcT C) aO sO]) rfl rfl rfl [] rfl (bX1_swap_39 X hQ  h)
    · replace h := zif_f h c14
      refine z_iload_n X dX1_swap_17 2 rfl ?_
      refine z_aload_n X dX1_swap_18 1 rfl ?_
      refine z_get (v := .ref (aO 2)) X 0 0 2 1 ziX1 rfl (by decide) zw193 rfl dX1_swap_19 rfl rfl rfl ?_
      refine z_alen (v := (15 : Int32)) X 0 2 1 rfl rfl dX1_swap_22 rfl rfl ?_
      refine z_icmp_ge (tgt := 39) X dX1_swap_23 (by decide) (fun c23 => ?_) (fun c23 => ?_)
      · replace h := zif_t h c23
        exact z_at (pc2 := 39) (lv2 := []) (st2 := []) (ws2 := [wX1 (zcT C) aO sO]) rfl rfl rfl [] rfl (bX1_swap_39 X hQ  h)
      · replace h := zif_f h c23
        refine z_iload_n X dX1_swap_26 3 rfl ?_
        refine z_if_lt (tgt := 39) X dX1_swap_27 (by decide) (fun c27 => ?_) (fun c27 => ?_)
        · replace h := zif_t h c27
          exact z_at (pc2 := 39) (lv2 := []) (st2 := []) (ws2 := [wX1 (zcT C) aO sO]) rfl rfl rfl [] rfl (bX1_swap_39 X hQ  h)
        · replace h := zif_f h c27
          refine z_iload_n X dX1_swap_30 3 rfl ?_
          refine z_aload_n X dX1_swap_31 1 rfl ?_
          refine z_get (v := .ref (aO 3)) X 0 0 2 2 ziX1 rfl (by decide) zw194 rfl dX1_swap_32 rfl rfl rfl ?_
          refine z_alen (v := (3 : Int32)) X 0 3 1 rfl rfl dX1_swap_35 rfl rfl ?_
          refine z_icmp_lt (tgt := 40) X dX1_swap_36 (by decide) (fun c36 => ?_) (fun c36 => ?_)
          · replace h := zif_t h c36
            refine z_iconst (v := (0 : Int32)) X dX1_swap_40 rfl ?_
            refine z_istore (lv2 := [(5, .int (0 : Int32)), (3, .long o3), (0, .ref (aO 0)), (1, .int x1), (2, .int x2)]) X dX1_swap_41 (by decide) rfl ?_
            exact z_at (pc2 := 43) (lv2 := [(0, .ref (aO 0)), (1, .int x1), (2, .int x2), (3, .long o3), (5, .int (0 : Int32))]) (st2 := []) (ws2 := [wX1 (zcT C) aO sO]) rfl rfl rfl [2, 3, 4, 1, 0] rfl (bX1_swap_43 X hQ  6000 sO x1 x2 o3 (0 : Int32) h)
          · replace h := zif_f h c36
            exact z_at (pc2 := 39) (lv2 := []) (st2 := []) (ws2 := [wX1 (zcT C) aO sO]) rfl rfl rfl [] rfl (bX1_swap_39 X hQ  h)
theorem metX1_swap (l : Launch) (D : va_G) (T : Nat → ClassId) (aO : Nat → Nat) {sO : zSt} {x1 : Int32} {x2 : Int32} {out : zSt} (hf : fX1_swap sO x1 x2 = some out) (sz : Nat) : Met l yX1_swap (zws yX1_swap cX1_swap 7 none) rmX1_swap (zPc D T [.ref (aO 0), .int x1, .int x2] [wX1 T aO sO] sz) (zQv D [wX1 T aO out] (zA [wX1 T aO sO] sz)) 0 0 (zA [wX1 T aO sO] sz) :=
  zMet (D := D) (T := T) (av := [.ref (aO 0), .int x1, .int x2]) (ws := fun T => [wX1 T aO sO]) (wm := fun T => [wX1 T aO sO]) (lv0 := [(0, .ref (aO 0)), (1, .int x1), (2, .int x2)]) [0] (Qc := fun D T A => zQv D [wX1 T aO out] A) (by decide +kernel) rfl (Nat.le_of_ble_eq_true rfl) rfl (fun C X hQ => bX1_swap_0 X hQ hf) sz
