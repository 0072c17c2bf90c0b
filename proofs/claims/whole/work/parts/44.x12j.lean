/-- private long wholeTop(int, int, int, int); of TableaufloorModel -/
abbrev rmX12_wholeTop : Room := { frames := 0, cells := 0, slots := 0, locals := 0 }
def fX12_wholeTop_57 (sO : zSt) (y0 : Int64) : Option (Int64) :=
  some (y0)
def fX12_wholeTop (sO : zSt) (x1 : Int32) (x2 : Int32) (x3 : Int32) (x4 : Int32) : Option (Int64) :=
  (if zin ((3 : Int32) * x1) 9 = true then
    (if zin (((3 : Int32) * x1) + (1 : Int32)) 9 = true then
    (if zin (((3 : Int32) * x1) + (2 : Int32)) 9 = true then
    (zlet ((((((zga sO 5 (((3 : Int32) * x1)).toNatClampNeg) * x2) + ((zga sO 5 ((((3 : Int32) * x1) + (1 : Int32))).toNatClampNeg) * x3)) + ((zga sO 5 ((((3 : Int32) * x1) + (2 : Int32))).toNatClampNeg) * x4))).toInt64) (fun v38 =>
    (if zin x1 3 = true then
    (if (zga sO 7 (x1).toNatClampNeg) = 0 then
    (fX12_wholeTop_57 sO (-v38))
  else
    (fX12_wholeTop_57 sO v38)) else none))) else none) else none) else none)
theorem bX12_wholeTop_57 {C : zCtx} (X : zFx C cX12_wholeTop 7 RX12 rmX12_wholeTop (some .long)) {aO : Nat → Nat} {sO : zSt} {y0 : Int64} {out : Int64} (hQ : zHl C out [] 0 0) (h : fX12_wholeTop_57 sO y0 = some out) : zG C 7 [] 0 0 [wX12 (zcT C) aO sO] 57 [] [.long y0] := by
  unfold fX12_wholeTop_57 at h
  cases h
  exact z_lret X hQ dX12_wholeTop_57 rfl [] rfl (by decide) (by decide)
theorem bX12_wholeTop_0 {C : zCtx} (X : zFx C cX12_wholeTop 7 RX12 rmX12_wholeTop (some .long)) {aO : Nat → Nat} {sO : zSt} {x1 : Int32} {x2 : Int32} {x3 : Int32} {x4 : Int32} {out : Int64} (hQ : zHl C out [] 0 0) (h : fX12_wholeTop sO x1 x2 x3 x4 = some out) : zG C 7 [] 0 0 [wX12 (zcT C) aO sO] 0 [(0, .ref (aO 0)), (1, .int x1), (2, .int x2), (3, .int x3), (4, .int x4)] [] := by
  unfold fX12_wholeTop at h
  refine z_aload_n X dX12_wholeTop_0 0 rfl ?_
  refine z_get (v := .ref (aO 6)) X 0 0 13 5 ziX12 rfl (by decide) zw1341 rfl dX12_wholeTop_1 rfl rfl rfl ?_
  refine z_iconst (v := (3 : Int32)) X dX12_wholeTop_4 rfl ?_
  refine z_iload_n X dX12_wholeTop_5 1 rfl ?_
  refine z_imul X dX12_wholeTop_6 ?_
  obtain ⟨g7, h⟩ := zgd_of h
  refine z_iald X 0 6 g7 dX12_wholeTop_7 rfl rfl ?_
  refine z_iload_n X dX12_wholeTop_8 2 rfl ?_
  refine z_imul X dX12_wholeTop_9 ?_
  refine z_aload_n X dX12_wholeTop_10 0 rfl ?_
  refine z_get (v := .ref (aO 6)) X 0 0 13 5 ziX12 rfl (by decide) zw1341 rfl dX12_wholeTop_11 rfl rfl rfl ?_
  refine z_iconst (v := (3 : Int32)) X dX12_wholeTop_14 rfl ?_
  refine z_iload_n X dX12_wholeTop_15 1 rfl ?_
  refine z_imul X dX12_wholeTop_16 ?_
  refine z_iconst (v := (1 : Int32)) X dX12_wholeTop_17 rfl ?_
  refine z_iadd X dX12_wholeTop_18 ?_
  obtain ⟨g19, h⟩ := zgd_of h
  refine z_iald X 0 6 g19 dX12_wholeTop_19 rfl rfl ?_
  refine z_iload_n X dX12_wholeTop_20 3 rfl ?_
  refine z_imul X dX12_wholeTop_21 ?_
  refine z_iadd X dX12_wholeTop_22 ?_
  refine z_aload_n X dX12_wholeTop_23 0 rfl ?_
  refine z_get (v := .ref (aO 6)) X 0 0 13 5 ziX12 rfl (by decide) zw1341 rfl dX12_wholeTop_24 rfl rfl rfl ?_
  refine z_iconst (v := (3 : Int32)) X dX12_wholeTop_27 rfl ?_
  refine z_iload_n X dX12_wholeTop_28 1 rfl ?_
  refine z_imul X dX12_wholeTop_29 ?_
  refine z_iconst (v := (2 : Int32)) X dX12_wholeTop_30 rfl ?_
  refine z_iadd X dX12_wholeTop_31 ?_
  obtain ⟨g32, h⟩ := zgd_of h
  refine z_iald X 0 6 g32 dX12_wholeTop_32 rfl rfl ?_
  refine z_iload X dX12_wholeTop_33 4 rfl ?_
  refine z_imul X dX12_wholeTop_35 ?_
  refine z_iadd X dX12_wholeTop_36 ?_
  refine z_i2l X dX12_wholeTop_37 ?_
  obtain ⟨v38, ev38, h⟩ := zlet_of h
  refine z_topl ev38 ?_
  refine z_lstore (lv2 := [(5, .long v38), (0, .ref (aO 0)), (1, .int x1), (2, .int x2), (3, .int x3), (4, .int x4)]) X dX12_wholeTop_38 (by decide) rfl ?_
  refine z_aload_n X dX12_wholeTop_40 1 rfl ?_
  refine z_get (v := .ref (aO 8)) X 0 0 13 7 ziX12 rfl (by decide) zw1343 rfl dX12_wholeTop_41 rfl rfl rfl ?_
  refine z_iload_n X dX12_wholeTop_44 2 rfl ?_
  obtain ⟨g45, h⟩ := zgd_of h
  refine z_zald X 0 8 g45 dX12_wholeTop_45 rfl rfl ?_
  refine z_if_eq (tgt := 54) X dX12_wholeTop_46 (by decide) (fun c46 => ?_) (fun c46 => ?_)
  · replace h := zif_t h c46
    refine z_lload X dX12_wholeTop_54 0 rfl ?_
    refine z_lneg X dX12_wholeTop_56 ?_
    exact z_at (pc2 := 57) (lv2 := []) (st2 := [.long (-v38)]) (ws2 := [wX12 (zcT C) aO sO]) rfl rfl rfl [] rfl (bX12_wholeTop_57 X hQ  h)
  · replace h := zif_f h c46
    refine z_lload X dX12_wholeTop_49 0 rfl ?_
    refine z_goto (tgt := 57) X dX12_wholeTop_51 (by decide) ?_
    exact z_at (pc2 := 57) (lv2 := []) (st2 := [.long v38]) (ws2 := [wX12 (zcT C) aO sO]) rfl rfl rfl [] rfl (bX12_wholeTop_57 X hQ  h)
theorem metX12_wholeTop (l : Launch) (D : va_G) (T : Nat → ClassId) (aO : Nat → Nat) {sO : zSt} {x1 : Int32} {x2 : Int32} {x3 : Int32} {x4 : Int32} {out : Int64} (hf : fX12_wholeTop sO x1 x2 x3 x4 = some out) (sz : Nat) : Met l yX12_wholeTop (zws yX12_wholeTop cX12_wholeTop 7 (some .long)) rmX12_wholeTop (zPc D T [.ref (aO 0), .int x1, .int x2, .int x3, .int x4] [wX12 T aO sO] sz) (zQl D out [] (zA [] sz)) 0 0 (zA [] sz) :=
  zMet (D := D) (T := T) (av := [.ref (aO 0), .int x1, .int x2, .int x3, .int x4]) (ws := fun T => [wX12 T aO sO]) (wm := fun T => []) (lv0 := [(0, .ref (aO 0)), (1, .int x1), (2, .int x2), (3, .int x3), (4, .int x4)]) [] (Qc := fun D T A => zQl D out [] A) (by decide +kernel) rfl (Nat.le_of_ble_eq_true rfl) rfl (fun C X hQ => bX12_wholeTop_0 X hQ hf) sz
/-- private boolean isWholeBetter(int, int, int); of TableaufloorModel -/
abbrev rmX12_isWholeBetter : Room := { frames := 1, cells := 0, slots := 0, locals := 26 }
def fX12_isWholeBetter_73 (sO : zSt) (y0 : Int32) : Option (Int32) :=
  (if znar .boolean y0 = true then
    some (y0) else none)
def fX12_isWholeBetter_3 (sO : zSt) : Nat → Int32 → Int32 → Int32 → Int32 → Option (Int32)
  | 0, _, _, _, _ => none
  | n + 1, x1, x2, x3, x4 =>
    (if (zgi sO 12) ≤ x4 then
      some ((0 : Int32))
    else
      ((fX12_wholeTop sO x4 x1 x2 x3).bind (fun o18 =>
        (if zin (0 : Int32) 3 = true then
        (if zin (1 : Int32) 3 = true then
        (if zin (2 : Int32) 3 = true then
        ((fX12_wholeTop sO x4 (((zgb sO 30 ((0 : Int32)).toNatClampNeg)).toInt32) (((zgb sO 30 ((1 : Int32)).toNatClampNeg)).toInt32) (((zgb sO 30 ((2 : Int32)).toNatClampNeg)).toInt32)).bind (fun o47 =>
        (if o18 = o47 then
        (zlet (x4 + 1) (fun v74 =>
          (fX12_isWholeBetter_3 sO n x1 x2 x3 v74)))
      else
        (if o18 ≤ o47 then
          (fX12_isWholeBetter_73 sO (0 : Int32))
        else
          (fX12_isWholeBetter_73 sO (1 : Int32)))))) else none) else none) else none))))
def fX12_isWholeBetter (sO : zSt) (x1 : Int32) (x2 : Int32) (x3 : Int32) : Option (Int32) :=
  (fX12_isWholeBetter_3 sO 6000 x1 x2 x3 (0 : Int32))
theorem bX12_isWholeBetter_73 {C : zCtx} (X : zFx C cX12_isWholeBetter 9 RX12 rmX12_isWholeBetter (some .boolean)) {aO : Nat → Nat} {sO : zSt} {y0 : Int32} {out : Int32} (hQ : zHi C out [] 0 0) (h : fX12_isWholeBetter_73 sO y0 = some out) : zG C 9 [] 0 0 [wX12 (zcT C) aO sO] 73 [] [.int y0] := by
  unfold fX12_isWholeBetter_73 at h
  obtain ⟨g73, h⟩ := zgd_of h
  cases h
  exact z_nret X hQ g73 dX12_isWholeBetter_73 rfl [] rfl (by decide) (by decide)
theorem bX12_isWholeBetter_3 {C : zCtx} (X : zFx C cX12_isWholeBetter 9 RX12 rmX12_isWholeBetter (some .boolean)) {aO : Nat → Nat} {sO : zSt} {out : Int32} (hQ : zHi C out [] 0 0) : ∀ (n : Nat) (x1 : Int32) (x2 : Int32) (x3 : Int32) (x4 : Int32), fX12_isWholeBetter_3 sO n x1 x2 x3 x4 = some out → zG C 9 [] 0 0 [wX12 (zcT C) aO sO] 3 [(0, .ref (aO 0)), (1, .int x1), (2, .int x2), (3, .int x3), (4, .int x4)] [] := by
  intro n
  induction n with
  | zero =>
    intro x1 x2 x3 x4 h
    rw [fX12_isWholeBetter_3] at h
    exact zno h
  | succ n ih =>
    intro x1 x2 x3 x4 h
    rw [fX12_isWholeBetter_3] at h
    refine z_iload X dX12_isWholeBetter_3 4 rfl ?_
    refine z_aload_n X dX12_isWholeBetter_5 0 rfl ?_
    refine z_get (v := .int (zgi sO 12)) X 0 0 13 12 ziX12 rfl (by decide) zw1348 rfl dX12_isWholeBetter_6 rfl rfl rfl ?_
    refine z_icmp_ge (tgt := 80) X dX12_isWholeBetter_9 (by decide) (fun c9 => ?_) (fun c9 => ?_)
    · replace h := zif_t h c9
      refine z_iconst (v := (0 : Int32)) X dX12_isWholeBetter_80 rfl ?_
      cases h
      exact z_nret X hQ rfl dX12_isWholeBetter_81 rfl [] rfl (by decide) (by decide)
    · replace h := zif_f h c9
      refine z_aload_n X dX12_isWholeBetter_12 0 rfl ?_
      refine z_iload X dX12_isWholeBetter_13 4 rfl ?_
      refine z_iload_n X dX12_isWholeBetter_15 1 rfl ?_
      refine z_iload_n X dX12_isWholeBetter_16 2 rfl ?_
      refine z_iload_n X dX12_isWholeBetter_17 3 rfl ?_
      obtain ⟨o18, ho18, h⟩ := zbind_of h
      refine z_callVl (st := []) (ws2 := [wX12 (zcT C) aO sO]) X (metX12_wholeTop (zcl C) (zcD C) (zcT C) aO ho18) zmX12_wholeTop zw1952 dX12_isWholeBetter_18 0 0 13 rfl rfl rfl rfl [0] rfl rfl [] rfl (by decide) trivial rfl rfl rfl (Nat.le_of_ble_eq_true rfl) rfl rfl ⟨Nat.le_of_ble_eq_true rfl, Nat.le_of_ble_eq_true rfl⟩ ⟨Nat.le_of_ble_eq_true rfl, Nat.le_of_ble_eq_true rfl⟩ ?_
      refine z_lstore (lv2 := [(5, .long o18), (0, .ref (aO 0)), (1, .int x1), (2, .int x2), (3, .int x3), (4, .int x4)]) X dX12_isWholeBetter_21 (by decide) rfl ?_
      refine z_aload_n X dX12_isWholeBetter_23 1 rfl ?_
      refine z_iload X dX12_isWholeBetter_24 5 rfl ?_
      refine z_aload_n X dX12_isWholeBetter_26 1 rfl ?_
      refine z_get (v := .ref (aO 31)) X 0 0 13 30 ziX12 rfl (by decide) zw1366 rfl dX12_isWholeBetter_27 rfl rfl rfl ?_
      refine z_iconst (v := (0 : Int32)) X dX12_isWholeBetter_30 rfl ?_
      obtain ⟨g31, h⟩ := zgd_of h
      refine z_lald X 0 22 g31 dX12_isWholeBetter_31 rfl rfl ?_
      refine z_l2i X dX12_isWholeBetter_32 ?_
      refine z_aload_n X dX12_isWholeBetter_33 1 rfl ?_
      refine z_get (v := .ref (aO 31)) X 0 0 13 30 ziX12 rfl (by decide) zw1366 rfl dX12_isWholeBetter_34 rfl rfl rfl ?_
      refine z_iconst (v := (1 : Int32)) X dX12_isWholeBetter_37 rfl ?_
      obtain ⟨g38, h⟩ := zgd_of h
      refine z_lald X 0 22 g38 dX12_isWholeBetter_38 rfl rfl ?_
      refine z_l2i X dX12_isWholeBetter_39 ?_
      refine z_aload_n X dX12_isWholeBetter_40 1 rfl ?_
      refine z_get (v := .ref (aO 31)) X 0 0 13 30 ziX12 rfl (by decide) zw1366 rfl dX12_isWholeBetter_41 rfl rfl rfl ?_
      refine z_iconst (v := (2 : Int32)) X dX12_isWholeBetter_44 rfl ?_
      obtain ⟨g45, h⟩ := zgd_of h
      refine z_lald X 0 22 g45 dX12_isWholeBetter_45 rfl rfl ?_
      refine z_l2i X dX12_isWholeBetter_46 ?_
      obtain ⟨o47, ho47, h⟩ := zbind_of h
      refine z_callVl (st := []) (ws2 := [wX12 (zcT C) aO sO]) X (metX12_wholeTop (zcl C) (zcD C) (zcT C) aO ho47) zmX12_wholeTop zw1952 dX12_isWholeBetter_47 0 0 13 rfl rfl rfl rfl [0] rfl rfl [] rfl (by decide) trivial rfl rfl rfl (Nat.le_of_ble_eq_true rfl) rfl rfl ⟨Nat.le_of_ble_eq_true rfl, Nat.le_of_ble_eq_true rfl⟩ ⟨Nat.le_of_ble_eq_true rfl, Nat.le_of_ble_eq_true rfl⟩ ?_
      refine z_lstore (lv2 := [(7, .long o47), (5, .long o18), (0, .ref (aO 0)), (1, .int x1), (2, .int x2), (3, .int x3), (4, .int x4)]) X dX12_isWholeBetter_50 (by decide) rfl ?_
      refine z_lload X dX12_isWholeBetter_52 1 rfl ?_
      refine z_lload X dX12_isWholeBetter_54 0 rfl ?_
      refine z_lcmp_eq (tgt := 74) X dX12_isWholeBetter_56 dX12_isWholeBetter_57 (by decide) (fun c56 => ?_) (fun c56 => ?_)
      · replace h := zif_t h c56
        obtain ⟨v74, ev74, h⟩ := zlet_of h
        refine z_iinc (v := v74) (lv2 := [(4, .int v74), (7, .long o47), (5, .long o18), (0, .ref (aO 0)), (1, .int x1), (2, .int x2), (3, .int x3)]) X dX12_isWholeBetter_74 (k := 6) rfl (by rw [ev74]; rfl) (by decide) rfl ?_
        refine z_goto (tgt := 3) X dX12_isWholeBetter_77 (by decide) ?_
        exact z_at (pc2 := 3) (lv2 := [(0, .ref (aO 0)), (1, .int x1), (2, .int x2), (3, .int x3), (4, .int v74)]) (st2 := []) (ws2 := [wX12 (zcT C) aO sO]) rfl rfl rfl [3, 4, 5, 6, 0] rfl (ih x1 x2 x3 v74 h)
      · replace h := zif_f h c56
        refine z_lload X dX12_isWholeBetter_60 1 rfl ?_
        refine z_lload X dX12_isWholeBetter_62 0 rfl ?_
        refine z_lcmp_le (tgt := 72) X dX12_isWholeBetter_64 dX12_isWholeBetter_65 (by decide) (fun c64 => ?_) (fun c64 => ?_)
        · replace h := zif_t h c64
          refine z_iconst (v := (0 : Int32)) X dX12_isWholeBetter_72 rfl ?_
          exact z_at (pc2 := 73) (lv2 := []) (st2 := [.int (0 : Int32)]) (ws2 := [wX12 (zcT C) aO sO]) rfl rfl rfl [] rfl (bX12_isWholeBetter_73 X hQ  h)
        · replace h := zif_f h c64
          refine z_iconst (v := (1 : Int32)) X dX12_isWholeBetter_68 rfl ?_
          refine z_goto (tgt := 73) X dX12_isWholeBetter_69 (by decide) ?_
          exact z_at (pc2 := 73) (lv2 := []) (st2 := [.int (1 : Int32)]) (ws2 := [wX12 (zcT C) aO sO]) rfl rfl rfl [] rfl (bX12_isWholeBetter_73 X hQ  h)
theorem bX12_isWholeBetter_0 {C : zCtx} (X : zFx C cX12_isWholeBetter 9 RX12 rmX12_isWholeBetter (some .boolean)) {aO : Nat → Nat} {sO : zSt} {x1 : Int32} {x2 : Int32} {x3 : Int32} {out : Int32} (hQ : zHi C out [] 0 0) (h : fX12_isWholeBetter sO x1 x2 x3 = some out) : zG C 9 [] 0 0 [wX12 (zcT C) aO sO] 0 [(0, .ref (aO 0)), (1, .int x1), (2, .int x2), (3, .int x3)] [] := by
  unfold fX12_isWholeBetter at h
  refine z_iconst (v := (0 : Int32)) X dX12_isWholeBetter_0 rfl ?_
  refine z_istore (lv2 := [(4, .int (0 : Int32)), (0, .ref (aO 0)), (1, .int x1), (2, .int x2), (3, .int x3)]) X dX12_isWholeBetter_1 (by decide) rfl ?_
  exact z_at (pc2 := 3) (lv2 := [(0, .ref (aO 0)), (1, .int x1), (2, .int x2), (3, .int x3), (4, .int (0 : Int32))]) (st2 := []) (ws2 := [wX12 (zcT C) aO sO]) rfl rfl rfl [1, 2, 3, 4, 0] rfl (bX12_isWholeBetter_3 X hQ  6000 x1 x2 x3 (0 : Int32) h)
theorem metX12_isWholeBetter (l : Launch) (D : va_G) (T : Nat → ClassId) (aO : Nat → Nat) {sO : zSt} {x1 : Int32} {x2 : Int32} {x3 : Int32} {out : Int32} (hf : fX12_isWholeBetter sO x1 x2 x3 = some out) (sz : Nat) : Met l yX12_isWholeBetter (zws yX12_isWholeBetter cX12_isWholeBetter 9 (some .boolean)) rmX12_isWholeBetter (zPc D T [.ref (aO 0), .int x1, .int x2, .int x3] [wX12 T aO sO] sz) (zQi D out [] (zA [] sz)) 0 0 (zA [] sz) :=
  zMet (D := D) (T := T) (av := [.ref (aO 0), .int x1, .int x2, .int x3]) (ws := fun T => [wX12 T aO sO]) (wm := fun T => []) (lv0 := [(0, .ref (aO 0)), (1, .int x1), (2, .int x2), (3, .int x3)]) [] (Qc := fun D T A => zQi D out [] A) (by decide +kernel) rfl (Nat.le_of_ble_eq_true rfl) rfl (fun C X hQ => bX12_isWholeBetter_0 X hQ hf) sz
/-- private boolean findsWhole(); of TableaufloorModel -/
abbrev rmX12_findsWhole : Room := { frames := 3, cells := 0, slots := 0, locals := 78 }
def fX12_findsWhole_227 (k37 : zSt → Int32 → Int32 → Option (Int32 × zSt)) (k77 : zSt → Int32 → Int32 → Int32 → Option (Int32 × zSt)) (k119 : zSt → Int32 → Int32 → Int32 → Int32 → Option (Int32 × zSt)) (sO : zSt) (x1 : Int32) (x2 : Int32) (x3 : Int32) (x4 : Int32) : Option (Int32 × zSt) :=
  (zlet (x4 + 1) (fun v227 =>
    (k119 sO x1 x2 x3 v227)))
def fX12_findsWhole_199 (k37 : zSt → Int32 → Int32 → Option (Int32 × zSt)) (k77 : zSt → Int32 → Int32 → Int32 → Option (Int32 × zSt)) (k119 : zSt → Int32 → Int32 → Int32 → Int32 → Option (Int32 × zSt)) : Nat → zSt → Int32 → Int32 → Int32 → Int32 → Option (Int32 × zSt)
  | 0, _, _, _, _, _ => none
  | n + 1, sO, x2, x3, x4, x5 =>
    (if (3 : Int32) ≤ x5 then
      (fX12_findsWhole_227 k37 k77 k119 sO (1 : Int32) x2 x3 x4)
    else
      (if zin x5 4 = true then
        (if zin x5 3 = true then
        (zlet (zsb sO 30 (vp_updL (zgb sO 30) (x5).toNatClampNeg (zgb sO 27 (x5).toNatClampNeg))) (fun sO218 =>
        (zlet (x5 + 1) (fun v219 =>
        (fX12_findsWhole_199 k37 k77 k119 n sO218 x2 x3 x4 v219))))) else none) else none))
def fX12_findsWhole_196 (k37 : zSt → Int32 → Int32 → Option (Int32 × zSt)) (k77 : zSt → Int32 → Int32 → Int32 → Option (Int32 × zSt)) (k119 : zSt → Int32 → Int32 → Int32 → Int32 → Option (Int32 × zSt)) (sO : zSt) (x2 : Int32) (x3 : Int32) (x4 : Int32) : Option (Int32 × zSt) :=
  (fX12_findsWhole_199 k37 k77 k119 6000 sO x2 x3 x4 (0 : Int32))
def fX12_findsWhole_139 (k37 : zSt → Int32 → Int32 → Option (Int32 × zSt)) (k77 : zSt → Int32 → Int32 → Int32 → Option (Int32 × zSt)) (k119 : zSt → Int32 → Int32 → Int32 → Int32 → Option (Int32 × zSt)) (sO : zSt) (x1 : Int32) (x2 : Int32) (x3 : Int32) (x4 : Int32) (y0 : Int32) (y1 : Int32) : Option (Int32 × zSt) :=
  (if y1 < y0 then
    (zlet (x3 + 1) (fun v233 =>
      (k77 sO x1 x2 v233)))
  else
    (if zin (0 : Int32) 4 = true then
      (zlet (zsb sO 27 (vp_updL (zgb sO 27) ((0 : Int32)).toNatClampNeg ((x2).toInt64))) (fun sO149 =>
      (if zin (1 : Int32) 4 = true then
      (zlet (zsb sO149 27 (vp_updL (zgb sO149 27) ((1 : Int32)).toNatClampNeg ((x3).toInt64))) (fun sO157 =>
      (if zin (2 : Int32) 4 = true then
      (zlet (zsb sO157 27 (vp_updL (zgb sO157 27) ((2 : Int32)).toNatClampNeg ((x4).toInt64))) (fun sO166 =>
      ((fX12_fits sO166 (zgi sO166 31)).bind (fun o172 =>
      (if o172 = 0 then
      (fX12_findsWhole_227 k37 k77 k119 sO166 x1 x2 x3 x4)
    else
      (if x1 = 0 then
        (fX12_findsWhole_196 k37 k77 k119 sO166 x2 x3 x4)
      else
        ((fX12_isWholeBetter sO166 x2 x3 x4).bind (fun o187 =>
          (if o187 = 0 then
          (fX12_findsWhole_227 k37 k77 k119 sO166 x1 x2 x3 x4)
        else
          (fX12_findsWhole_196 k37 k77 k119 sO166 x2 x3 x4)))))))))) else none))) else none))) else none))
def fX12_findsWhole_119 (k37 : zSt → Int32 → Int32 → Option (Int32 × zSt)) (k77 : zSt → Int32 → Int32 → Int32 → Option (Int32 × zSt)) : Nat → zSt → Int32 → Int32 → Int32 → Int32 → Option (Int32 × zSt)
  | 0, _, _, _, _, _ => none
  | n + 1, sO, x1, x2, x3, x4 =>
    (if (zgi sO 10) ≤ (2 : Int32) then
      (fX12_findsWhole_139 k37 k77 (fX12_findsWhole_119 k37 k77 n) sO x1 x2 x3 x4 x4 (0 : Int32))
    else
      (if zin (2 : Int32) 3 = true then
        (fX12_findsWhole_139 k37 k77 (fX12_findsWhole_119 k37 k77 n) sO x1 x2 x3 x4 x4 (zga sO 1 ((2 : Int32)).toNatClampNeg)) else none))
def fX12_findsWhole_117 (k37 : zSt → Int32 → Int32 → Option (Int32 × zSt)) (k77 : zSt → Int32 → Int32 → Int32 → Option (Int32 × zSt)) (sO : zSt) (x1 : Int32) (x2 : Int32) (x3 : Int32) (y0 : Int32) : Option (Int32 × zSt) :=
  (fX12_findsWhole_119 k37 k77 6000 sO x1 x2 x3 y0)
def fX12_findsWhole_96 (k37 : zSt → Int32 → Int32 → Option (Int32 × zSt)) (k77 : zSt → Int32 → Int32 → Int32 → Option (Int32 × zSt)) (sO : zSt) (x1 : Int32) (x2 : Int32) (x3 : Int32) (y0 : Int32) (y1 : Int32) : Option (Int32 × zSt) :=
  (if y1 < y0 then
    (zlet (x2 + 1) (fun v239 =>
      (k37 sO x1 v239)))
  else
    (if (zgi sO 10) ≤ (2 : Int32) then
      (fX12_findsWhole_117 k37 k77 sO x1 x2 x3 (0 : Int32))
    else
      (if zin (2 : Int32) 3 = true then
        (fX12_findsWhole_117 k37 k77 sO x1 x2 x3 (zga sO 0 ((2 : Int32)).toNatClampNeg)) else none)))
def fX12_findsWhole_77 (k37 : zSt → Int32 → Int32 → Option (Int32 × zSt)) : Nat → zSt → Int32 → Int32 → Int32 → Option (Int32 × zSt)
  | 0, _, _, _, _ => none
  | n + 1, sO, x1, x2, x3 =>
    (if (zgi sO 10) ≤ (1 : Int32) then
      (fX12_findsWhole_96 k37 (fX12_findsWhole_77 k37 n) sO x1 x2 x3 x3 (0 : Int32))
    else
      (if zin (1 : Int32) 3 = true then
        (fX12_findsWhole_96 k37 (fX12_findsWhole_77 k37 n) sO x1 x2 x3 x3 (zga sO 1 ((1 : Int32)).toNatClampNeg)) else none))
def fX12_findsWhole_76 (k37 : zSt → Int32 → Int32 → Option (Int32 × zSt)) (sO : zSt) (x1 : Int32) (x2 : Int32) (y0 : Int32) : Option (Int32 × zSt) :=
  (fX12_findsWhole_77 k37 6000 sO x1 x2 y0)
def fX12_findsWhole_55 (k37 : zSt → Int32 → Int32 → Option (Int32 × zSt)) (sO : zSt) (x1 : Int32) (x2 : Int32) (y0 : Int32) (y1 : Int32) : Option (Int32 × zSt) :=
  (if y1 < y0 then
    (if znar .boolean x1 = true then
      some (x1, sO) else none)
  else
    (if (zgi sO 10) ≤ (1 : Int32) then
      (fX12_findsWhole_76 k37 sO x1 x2 (0 : Int32))
    else
      (if zin (1 : Int32) 3 = true then
        (fX12_findsWhole_76 k37 sO x1 x2 (zga sO 0 ((1 : Int32)).toNatClampNeg)) else none)))
def fX12_findsWhole_37 : Nat → zSt → Int32 → Int32 → Option (Int32 × zSt)
  | 0, _, _, _ => none
  | n + 1, sO, x1, x2 =>
    (if (zgi sO 10) ≤ 0 then
      (fX12_findsWhole_55 (fX12_findsWhole_37 n) sO x1 x2 x2 (0 : Int32))
    else
      (if zin (0 : Int32) 3 = true then
        (fX12_findsWhole_55 (fX12_findsWhole_37 n) sO x1 x2 x2 (zga sO 1 ((0 : Int32)).toNatClampNeg)) else none))
def fX12_findsWhole_36 (sO : zSt) (x1 : Int32) (y0 : Int32) : Option (Int32 × zSt) :=
  (fX12_findsWhole_37 6000 sO x1 y0)
def fX12_findsWhole (sO : zSt) : Option (Int32 × zSt) :=
  ((fX12_allLeft sO).bind (fun o2 =>
    ((fX12_laysPlanes sO o2 (-1 : Int32) (0 : Int32)).bind (fun o7 =>
    (if zin (3 : Int32) 4 = true then
    (zlet (zsb o7 27 (vp_updL (zgb o7 27) ((3 : Int32)).toNatClampNeg (1 : Int64))) (fun sO18 =>
    (if (zgi sO18 10) ≤ 0 then
    (fX12_findsWhole_36 sO18 (0 : Int32) (0 : Int32))
  else
    (if zin (0 : Int32) 3 = true then
      (fX12_findsWhole_36 sO18 (0 : Int32) (zga sO18 0 ((0 : Int32)).toNatClampNeg)) else none)))) else none)))))
theorem bX12_findsWhole_227 {C : zCtx} (X : zFx C cX12_findsWhole 6 RX12 rmX12_findsWhole (some .boolean)) {aO : Nat → Nat} {k37 : zSt → Int32 → Int32 → Option (Int32 × zSt)} {k77 : zSt → Int32 → Int32 → Int32 → Option (Int32 × zSt)} {k119 : zSt → Int32 → Int32 → Int32 → Int32 → Option (Int32 × zSt)} {sO : zSt} {x1 : Int32} {x2 : Int32} {x3 : Int32} {x4 : Int32} {out : Int32 × zSt} (hQ : zHi C out.1 [wX12 (zcT C) aO out.2] 0 0) (hk37 : ∀ (sO : zSt) (x1 : Int32) (x2 : Int32), k37 sO x1 x2 = some out → zG C 6 [0] 0 0 [wX12 (zcT C) aO sO] 37 [(0, .ref (aO 0)), (1, .int x1), (2, .int x2)] []) (hk77 : ∀ (sO : zSt) (x1 : Int32) (x2 : Int32) (x3 : Int32), k77 sO x1 x2 x3 = some out → zG C 6 [0] 0 0 [wX12 (zcT C) aO sO] 77 [(0, .ref (aO 0)), (1, .int x1), (2, .int x2), (3, .int x3)] []) (hk119 : ∀ (sO : zSt) (x1 : Int32) (x2 : Int32) (x3 : Int32) (x4 : Int32), k119 sO x1 x2 x3 x4 = some out → zG C 6 [0] 0 0 [wX12 (zcT C) aO sO] 119 [(0, .ref (aO 0)), (1, .int x1), (2, .int x2), (3, .int x3), (4, .int x4)] []) (h : fX12_findsWhole_227 k37 k77 k119 sO x1 x2 x3 x4 = some out) : zG C 6 [0] 0 0 [wX12 (zcT C) aO sO] 227 [(0, .ref (aO 0)), (1, .int x1), (2, .int x2), (3, .int x3), (4, .int x4)] [] := by
  unfold fX12_findsWhole_227 at h
  obtain ⟨v227, ev227, h⟩ := zlet_of h
  refine z_iinc (v := v227) (lv2 := [(4, .int v227), (0, .ref (aO 0)), (1, .int x1), (2, .int x2), (3, .int x3)]) X dX12_findsWhole_227 (k := 4) rfl (by rw [ev227]; rfl) (by decide) rfl ?_
  refine z_goto (tgt := 119) X dX12_findsWhole_230 (by decide) ?_
  exact z_at (pc2 := 119) (lv2 := [(0, .ref (aO 0)), (1, .int x1), (2, .int x2), (3, .int x3), (4, .int v227)]) (st2 := []) (ws2 := [wX12 (zcT C) aO sO]) rfl rfl rfl [1, 2, 3, 4, 0] rfl (hk119 sO x1 x2 x3 v227 h)
theorem bX12_findsWhole_199 {C : zCtx} (X : zFx C cX12_findsWhole 6 RX12 rmX12_findsWhole (some .boolean)) {aO : Nat → Nat} {k37 : zSt → Int32 → Int32 → Option (Int32 × zSt)} {k77 : zSt → Int32 → Int32 → Int32 → Option (Int32 × zSt)} {k119 : zSt → Int32 → Int32 → Int32 → Int32 → Option (Int32 × zSt)} {out : Int32 × zSt} (hQ : zHi C out.1 [wX12 (zcT C) aO out.2] 0 0) (hk37 : ∀ (sO : zSt) (x1 : Int32) (x2 : Int32), k37 sO x1 x2 = some out → zG C 6 [0] 0 0 [wX12 (zcT C) aO sO] 37 [(0, .ref (aO 0)), (1, .int x1), (2, .int x2)] []) (hk77 : ∀ (sO : zSt) (x1 : Int32) (x2 : Int32) (x3 : Int32), k77 sO x1 x2 x3 = some out → zG C 6 [0] 0 0 [wX12 (zcT C) aO sO] 77 [(0, .ref (aO 0)), (1, .int x1), (2, .int x2), (3, .int x3)] []) (hk119 : ∀ (sO : zSt) (x1 : Int32) (x2 : Int32) (x3 : Int32) (x4 : Int32), k119 sO x1 x2 x3 x4 = some out → zG C 6 [0] 0 0 [wX12 (zcT C) aO sO] 119 [(0, .ref (aO 0)), (1, .int x1), (2, .int x2), (3, .int x3), (4, .int x4)] []) : ∀ (n : Nat) (sO : zSt) (x2 : Int32) (x3 : Int32) (x4 : Int32) (x5 : Int32), fX12_findsWhole_199 k37 k77 k119 n sO x2 x3 x4 x5 = some out → zG C 6 [0] 0 0 [wX12 (zcT C) aO sO] 199 [(0, .ref (aO 0)), (2, .int x2), (3, .int x3), (4, .int x4), (5, .int x5)] [] := by
  intro n
  induction n with
  | zero =>
    intro sO x2 x3 x4 x5 h
    rw [fX12_findsWhole_199] at h
    exact zno h
  | succ n ih =>
    intro sO x2 x3 x4 x5 h
    rw [fX12_findsWhole_199] at h
    refine z_iload X dX12_findsWhole_199 4 rfl ?_
    refine z_iconst (v := (3 : Int32)) X dX12_findsWhole_201 rfl ?_
    refine z_icmp_ge (tgt := 225) X dX12_findsWhole_202 (by decide) (fun c202 => ?_) (fun c202 => ?_)
    · replace h := zif_t h c202
      refine z_iconst (v := (1 : Int32)) X dX12_findsWhole_225 rfl ?_
      refine z_istore_n (lv2 := [(1, .int (1 : Int32)), (0, .ref (aO 0)), (2, .int x2), (3, .int x3), (4, .int x4), (5, .int x5)]) X dX12_findsWhole_226 rfl (by decide) rfl ?_
      exact z_at (pc2 := 227) (lv2 := [(0, .ref (aO 0)), (1, .int (1 : Int32)), (2, .int x2), (3, .int x3), (4, .int x4)]) (st2 := []) (ws2 := [wX12 (zcT C) aO sO]) rfl rfl rfl [1, 0, 2, 3, 4] rfl (bX12_findsWhole_227 X hQ hk37 hk77 hk119 h)
    · replace h := zif_f h c202
      refine z_aload_n X dX12_findsWhole_205 0 rfl ?_
      refine z_get (v := .ref (aO 31)) X 0 0 13 30 ziX12 rfl (by decide) zw1366 rfl dX12_findsWhole_206 rfl rfl rfl ?_
      refine z_iload X dX12_findsWhole_209 4 rfl ?_
      refine z_aload_n X dX12_findsWhole_211 0 rfl ?_
      refine z_get (v := .ref (aO 28)) X 0 0 13 27 ziX12 rfl (by decide) zw1363 rfl dX12_findsWhole_212 rfl rfl rfl ?_
      refine z_iload X dX12_findsWhole_215 4 rfl ?_
      obtain ⟨g217, h⟩ := zgd_of h
      refine z_lald X 0 19 g217 dX12_findsWhole_217 rfl rfl ?_
      obtain ⟨g218, h⟩ := zgd_of h
      obtain ⟨sO218, esO218, h⟩ := zlet_of h
      refine z_last (ws2 := [wX12 (zcT C) aO sO218]) X 0 22 g218 dX12_findsWhole_218 rfl rfl (by decide) (w2 := wX12 (zcT C) aO sO218) (by rw [esO218]; rfl) rfl ?_
      obtain ⟨v219, ev219, h⟩ := zlet_of h
      refine z_iinc (v := v219) (lv2 := [(5, .int v219), (0, .ref (aO 0)), (2, .int x2), (3, .int x3), (4, .int x4)]) X dX12_findsWhole_219 (k := 4) rfl (by rw [ev219]; rfl) (by decide) rfl ?_
      refine z_goto (tgt := 199) X dX12_findsWhole_222 (by decide) ?_
      exact z_at (pc2 := 199) (lv2 := [(0, .ref (aO 0)), (2, .int x2), (3, .int x3), (4, .int x4), (5, .int v219)]) (st2 := []) (ws2 := [wX12 (zcT C) aO sO218]) rfl rfl rfl [1, 2, 3, 4, 0] rfl (ih sO218 x2 x3 x4 v219 h)
theorem bX12_findsWhole_196 {C : zCtx} (X : zFx C cX12_findsWhole 6 RX12 rmX12_findsWhole (some .boolean)) {aO : Nat → Nat} {k37 : zSt → Int32 → Int32 → Option (Int32 × zSt)} {k77 : zSt → Int32 → Int32 → Int32 → Option (Int32 × zSt)} {k119 : zSt → Int32 → Int32 → Int32 → Int32 → Option (Int32 × zSt)} {sO : zSt} {x2 : Int32} {x3 : Int32} {x4 : Int32} {out : Int32 × zSt} (hQ : zHi C out.1 [wX12 (zcT C) aO out.2] 0 0) (hk37 : ∀ (sO : zSt) (x1 : Int32) (x2 : Int32), k37 sO x1 x2 = some out → zG C 6 [0] 0 0 [wX12 (zcT C) aO sO] 37 [(0, .ref (aO 0)), (1, .int x1), (2, .int x2)] []) (hk77 : ∀ (sO : zSt) (x1 : Int32) (x2 : Int32) (x3 : Int32), k77 sO x1 x2 x3 = some out → zG C 6 [0] 0 0 [wX12 (zcT C) aO sO] 77 [(0, .ref (aO 0)), (1, .int x1), (2, .int x2), (3, .int x3)] []) (hk119 : ∀ (sO : zSt) (x1 : Int32) (x2 : Int32) (x3 : Int32) (x4 : Int32), k119 sO x1 x2 x3 x4 = some out → zG C 6 [0] 0 0 [wX12 (zcT C) aO sO] 119 [(0, .ref (aO 0)), (1, .int x1), (2, .int x2), (3, .int x3), (4, .int x4)] []) (h : fX12_findsWhole_196 k37 k77 k119 sO x2 x3 x4 = some out) : zG C 6 [0] 0 0 [wX12 (zcT C) aO sO] 196 [(0, .ref (aO 0)), (2, .int x2), (3, .int x3), (4, .int x4)] [] := by
  unfold fX12_findsWhole_196 at h
  refine z_iconst (v := (0 : Int32)) X dX12_findsWhole_196 rfl ?_
  refine z_istore (lv2 := [(5, .int (0 : Int32)), (0, .ref (aO 0)), (2, .int x2), (3, .int x3), (4, .int x4)]) X dX12_findsWhole_197 (by decide) rfl ?_
  exact z_at (pc2 := 199) (lv2 := [(0, .ref (aO 0)), (2, .int x2), (3, .int x3), (4, .int x4), (5, .int (0 : Int32))]) (st2 := []) (ws2 := [wX12 (zcT C) aO sO]) rfl rfl rfl [1, 2, 3, 4, 0] rfl (bX12_findsWhole_199 X hQ hk37 hk77 hk119 6000 sO x2 x3 x4 (0 : Int32) h)
theorem bX12_findsWhole_139 {C : zCtx} (X : zFx C cX12_findsWhole 6 RX12 rmX12_findsWhole (some .boolean)) {aO : Nat → Nat} {k37 : zSt → Int32 → Int32 → Option (Int32 × zSt)} {k77 : zSt → Int32 → Int32 → Int32 → Option (Int32 × zSt)} {k119 : zSt → Int32 → Int32 → Int32 → Int32 → Option (Int32 × zSt)} {sO : zSt} {x1 : Int32} {x2 : Int32} {x3 : Int32} {x4 : Int32} {y0 : Int32} {y1 : Int32} {out : Int32 × zSt} (hQ : zHi C out.1 [wX12 (zcT C) aO out.2] 0 0) (hk37 : ∀ (sO : zSt) (x1 : Int32) (x2 : Int32), k37 sO x1 x2 = some out → zG C 6 [0] 0 0 [wX12 (zcT C) aO sO] 37 [(0, .ref (aO 0)), (1, .int x1), (2, .int x2)] []) (hk77 : ∀ (sO : zSt) (x1 : Int32) (x2 : Int32) (x3 : Int32), k77 sO x1 x2 x3 = some out → zG C 6 [0] 0 0 [wX12 (zcT C) aO sO] 77 [(0, .ref (aO 0)), (1, .int x1), (2, .int x2), (3, .int x3)] []) (hk119 : ∀ (sO : zSt) (x1 : Int32) (x2 : Int32) (x3 : Int32) (x4 : Int32), k119 sO x1 x2 x3 x4 = some out → zG C 6 [0] 0 0 [wX12 (zcT C) aO sO] 119 [(0, .ref (aO 0)), (1, .int x1), (2, .int x2), (3, .int x3), (4, .int x4)] []) (h : fX12_findsWhole_139 k37 k77 k119 sO x1 x2 x3 x4 y0 y1 = some out) : zG C 6 [0] 0 0 [wX12 (zcT C) aO sO] 139 [(0, .ref (aO 0)), (1, .int x1), (2, .int x2), (3, .int x3), (4, .int x4)] [.int y1, .int y0] := by
  unfold fX12_findsWhole_139 at h
  refine z_icmp_gt (tgt := 233) X dX12_findsWhole_139 (by decide) (fun c139 => ?_) (fun c139 => ?_)
  · replace h := zif_t h c139
    obtain ⟨v233, ev233, h⟩ := zlet_of h
    refine z_iinc (v := v233) (lv2 := [(3, .int v233), (0, .ref (aO 0)), (1, .int x1), (2, .int x2), (4, .int x4)]) X dX12_findsWhole_233 (k := 3) rfl (by rw [ev233]; rfl) (by decide) rfl ?_
    refine z_goto (tgt := 77) X dX12_findsWhole_236 (by decide) ?_
    exact z_at (pc2 := 77) (lv2 := [(0, .ref (aO 0)), (1, .int x1), (2, .int x2), (3, .int v233)]) (st2 := []) (ws2 := [wX12 (zcT C) aO sO]) rfl rfl rfl [1, 2, 3, 0] rfl (hk77 sO x1 x2 v233 h)
  · replace h := zif_f h c139
    refine z_aload_n X dX12_findsWhole_142 0 rfl ?_
    refine z_get (v := .ref (aO 28)) X 0 0 13 27 ziX12 rfl (by decide) zw1363 rfl dX12_findsWhole_143 rfl rfl rfl ?_
    refine z_iconst (v := (0 : Int32)) X dX12_findsWhole_146 rfl ?_
    refine z_iload_n X dX12_findsWhole_147 2 rfl ?_
    refine z_i2l X dX12_findsWhole_148 ?_
    obtain ⟨g149, h⟩ := zgd_of h
    obtain ⟨sO149, esO149, h⟩ := zlet_of h
    refine z_last (ws2 := [wX12 (zcT C) aO sO149]) X 0 19 g149 dX12_findsWhole_149 rfl rfl (by decide) (w2 := wX12 (zcT C) aO sO149) (by rw [esO149]; rfl) rfl ?_
    refine z_aload_n X dX12_findsWhole_150 0 rfl ?_
    refine z_get (v := .ref (aO 28)) X 0 0 13 27 ziX12 rfl (by decide) zw1363 rfl dX12_findsWhole_151 rfl rfl rfl ?_
    refine z_iconst (v := (1 : Int32)) X dX12_findsWhole_154 rfl ?_
    refine z_iload_n X dX12_findsWhole_155 3 rfl ?_
    refine z_i2l X dX12_findsWhole_156 ?_
    obtain ⟨g157, h⟩ := zgd_of h
    obtain ⟨sO157, esO157, h⟩ := zlet_of h
    refine z_last (ws2 := [wX12 (zcT C) aO sO157]) X 0 19 g157 dX12_findsWhole_157 rfl rfl (by decide) (w2 := wX12 (zcT C) aO sO157) (by rw [esO157]; rfl) rfl ?_
    refine z_aload_n X dX12_findsWhole_158 0 rfl ?_
    refine z_get (v := .ref (aO 28)) X 0 0 13 27 ziX12 rfl (by decide) zw1363 rfl dX12_findsWhole_159 rfl rfl rfl ?_
    refine z_iconst (v := (2 : Int32)) X dX12_findsWhole_162 rfl ?_
    refine z_iload X dX12_findsWhole_163 4 rfl ?_
    refine z_i2l X dX12_findsWhole_165 ?_
    obtain ⟨g166, h⟩ := zgd_of h
    obtain ⟨sO166, esO166, h⟩ := zlet_of h
    refine z_last (ws2 := [wX12 (zcT C) aO sO166]) X 0 19 g166 dX12_findsWhole_166 rfl rfl (by decide) (w2 := wX12 (zcT C) aO sO166) (by rw [esO166]; rfl) rfl ?_
    refine z_aload_n X dX12_findsWhole_167 0 rfl ?_
    refine z_aload_n X dX12_findsWhole_168 0 rfl ?_
    refine z_get (v := .int (zgi sO166 31)) X 0 0 13 31 ziX12 rfl (by decide) zw1367 rfl dX12_findsWhole_169 rfl rfl rfl ?_
    obtain ⟨o172, ho172, h⟩ := zbind_of h
    refine z_callVi (st := []) (ws2 := [wX12 (zcT C) aO sO166]) X (metX12_fits (zcl C) (zcD C) (zcT C) aO ho172) zmX12_fits zw1829 dX12_findsWhole_172 0 0 13 rfl rfl rfl rfl [0] rfl rfl [] rfl (by decide) trivial rfl rfl rfl (Nat.le_of_ble_eq_true rfl) rfl rfl ⟨Nat.le_of_ble_eq_true rfl, Nat.le_of_ble_eq_true rfl⟩ ⟨Nat.le_of_ble_eq_true rfl, Nat.le_of_ble_eq_true rfl⟩ ?_
    refine z_if_eq (tgt := 227) X dX12_findsWhole_175 (by decide) (fun c175 => ?_) (fun c175 => ?_)
    · replace h := zif_t h c175
      exact z_at (pc2 := 227) (lv2 := [(0, .ref (aO 0)), (1, .int x1), (2, .int x2), (3, .int x3), (4, .int x4)]) (st2 := []) (ws2 := [wX12 (zcT C) aO sO166]) rfl rfl rfl [0, 1, 2, 3, 4] rfl (bX12_findsWhole_227 X hQ hk37 hk77 hk119 h)
    · replace h := zif_f h c175
      refine z_iload_n X dX12_findsWhole_178 1 rfl ?_
      refine z_if_eq (tgt := 196) X dX12_findsWhole_179 (by decide) (fun c179 => ?_) (fun c179 => ?_)
      · replace h := zif_t h c179
        exact z_at (pc2 := 196) (lv2 := [(0, .ref (aO 0)), (2, .int x2), (3, .int x3), (4, .int x4)]) (st2 := []) (ws2 := [wX12 (zcT C) aO sO166]) rfl rfl rfl [0, 2, 3, 4] rfl (bX12_findsWhole_196 X hQ hk37 hk77 hk119 h)
      · replace h := zif_f h c179
        refine z_aload_n X dX12_findsWhole_182 0 rfl ?_
        refine z_iload_n X dX12_findsWhole_183 2 rfl ?_
        refine z_iload_n X dX12_findsWhole_184 3 rfl ?_
        refine z_iload X dX12_findsWhole_185 4 rfl ?_
        obtain ⟨o187, ho187, h⟩ := zbind_of h
        refine z_callVi (st := []) (ws2 := [wX12 (zcT C) aO sO166]) X (metX12_isWholeBetter (zcl C) (zcD C) (zcT C) aO ho187) zmX12_isWholeBetter zw1948 dX12_findsWhole_187 0 0 13 rfl rfl rfl rfl [0] rfl rfl [] rfl (by decide) trivial rfl rfl rfl (Nat.le_of_ble_eq_true rfl) rfl rfl ⟨Nat.le_of_ble_eq_true rfl, Nat.le_of_ble_eq_true rfl⟩ ⟨Nat.le_of_ble_eq_true rfl, Nat.le_of_ble_eq_true rfl⟩ ?_
        refine z_if_ne (tgt := 196) X dX12_findsWhole_190 (by decide) (fun c190 => ?_) (fun c190 => ?_)
        · replace h := zif_f h c190
          exact z_at (pc2 := 196) (lv2 := [(0, .ref (aO 0)), (2, .int x2), (3, .int x3), (4, .int x4)]) (st2 := []) (ws2 := [wX12 (zcT C) aO sO166]) rfl rfl rfl [0, 2, 3, 4] rfl (bX12_findsWhole_196 X hQ hk37 hk77 hk119 h)
        · replace h := zif_t h c190
          refine z_goto (tgt := 227) X dX12_findsWhole_193 (by decide) ?_
          exact z_at (pc2 := 227) (lv2 := [(0, .ref (aO 0)), (1, .int x1), (2, .int x2), (3, .int x3), (4, .int x4)]) (st2 := []) (ws2 := [wX12 (zcT C) aO sO166]) rfl rfl rfl [0, 1, 2, 3, 4] rfl (bX12_findsWhole_227 X hQ hk37 hk77 hk119 h)
theorem bX12_findsWhole_119 {C : zCtx} (X : zFx C cX12_findsWhole 6 RX12 rmX12_findsWhole (some .boolean)) {aO : Nat → Nat} {k37 : zSt → Int32 → Int32 → Option (Int32 × zSt)} {k77 : zSt → Int32 → Int32 → Int32 → Option (Int32 × zSt)} {out : Int32 × zSt} (hQ : zHi C out.1 [wX12 (zcT C) aO out.2] 0 0) (hk37 : ∀ (sO : zSt) (x1 : Int32) (x2 : Int32), k37 sO x1 x2 = some out → zG C 6 [0] 0 0 [wX12 (zcT C) aO sO] 37 [(0, .ref (aO 0)), (1, .int x1), (2, .int x2)] []) (hk77 : ∀ (sO : zSt) (x1 : Int32) (x2 : Int32) (x3 : Int32), k77 sO x1 x2 x3 = some out → zG C 6 [0] 0 0 [wX12 (zcT C) aO sO] 77 [(0, .ref (aO 0)), (1, .int x1), (2, .int x2), (3, .int x3)] []) : ∀ (n : Nat) (sO : zSt) (x1 : Int32) (x2 : Int32) (x3 : Int32) (x4 : Int32), fX12_findsWhole_119 k37 k77 n sO x1 x2 x3 x4 = some out → zG C 6 [0] 0 0 [wX12 (zcT C) aO sO] 119 [(0, .ref (aO 0)), (1, .int x1), (2, .int x2), (3, .int x3), (4, .int x4)] [] := by
  intro n
  induction n with
  | zero =>
    intro sO x1 x2 x3 x4 h
    rw [fX12_findsWhole_119] at h
    exact zno h
  | succ n ih =>
    intro sO x1 x2 x3 x4 h
    rw [fX12_findsWhole_119] at h
    refine z_iload X dX12_findsWhole_119 4 rfl ?_
    refine z_aload_n X dX12_findsWhole_121 0 rfl ?_
    refine z_get (v := .int (zgi sO 10)) X 0 0 13 10 ziX12 rfl (by decide) zw1346 rfl dX12_findsWhole_122 rfl rfl rfl ?_
    refine z_iconst (v := (2 : Int32)) X dX12_findsWhole_125 rfl ?_
    refine z_icmp_le (tgt := 138) X dX12_findsWhole_126 (by decide) (fun c126 => ?_) (fun c126 => ?_)
    · replace h := zif_t h c126
      refine z_iconst (v := (0 : Int32)) X dX12_findsWhole_138 rfl ?_
      exact z_at (pc2 := 139) (lv2 := [(0, .ref (aO 0)), (1, .int x1), (2, .int x2), (3, .int x3), (4, .int x4)]) (st2 := [.int (0 : Int32), .int x4]) (ws2 := [wX12 (zcT C) aO sO]) rfl rfl rfl [0, 1, 2, 3, 4] rfl (bX12_findsWhole_139 X hQ hk37 hk77 ih h)
    · replace h := zif_f h c126
      refine z_aload_n X dX12_findsWhole_129 0 rfl ?_
      refine z_get (v := .ref (aO 2)) X 0 0 13 1 ziX12 rfl (by decide) zw1337 rfl dX12_findsWhole_130 rfl rfl rfl ?_
      refine z_iconst (v := (2 : Int32)) X dX12_findsWhole_133 rfl ?_
      obtain ⟨g134, h⟩ := zgd_of h
      refine z_iald X 0 2 g134 dX12_findsWhole_134 rfl rfl ?_
      refine z_goto (tgt := 139) X dX12_findsWhole_135 (by decide) ?_
      exact z_at (pc2 := 139) (lv2 := [(0, .ref (aO 0)), (1, .int x1), (2, .int x2), (3, .int x3), (4, .int x4)]) (st2 := [.int (zga sO 1 ((2 : Int32)).toNatClampNeg), .int x4]) (ws2 := [wX12 (zcT C) aO sO]) rfl rfl rfl [0, 1, 2, 3, 4] rfl (bX12_findsWhole_139 X hQ hk37 hk77 ih h)
theorem bX12_findsWhole_117 {C : zCtx} (X : zFx C cX12_findsWhole 6 RX12 rmX12_findsWhole (some .boolean)) {aO : Nat → Nat} {k37 : zSt → Int32 → Int32 → Option (Int32 × zSt)} {k77 : zSt → Int32 → Int32 → Int32 → Option (Int32 × zSt)} {sO : zSt} {x1 : Int32} {x2 : Int32} {x3 : Int32} {y0 : Int32} {out : Int32 × zSt} (hQ : zHi C out.1 [wX12 (zcT C) aO out.2] 0 0) (hk37 : ∀ (sO : zSt) (x1 : Int32) (x2 : Int32), k37 sO x1 x2 = some out → zG C 6 [0] 0 0 [wX12 (zcT C) aO sO] 37 [(0, .ref (aO 0)), (1, .int x1), (2, .int x2)] []) (hk77 : ∀ (sO : zSt) (x1 : Int32) (x2 : Int32) (x3 : Int32), k77 sO x1 x2 x3 = some out → zG C 6 [0] 0 0 [wX12 (zcT C) aO sO] 77 [(0, .ref (aO 0)), (1, .int x1), (2, .int x2), (3, .int x3)] []) (h : fX12_findsWhole_117 k37 k77 sO x1 x2 x3 y0 = some out) : zG C 6 [0] 0 0 [wX12 (zcT C) aO sO] 117 [(0, .ref (aO 0)), (1, .int x1), (2, .int x2), (3, .int x3)] [.int y0] := by
  unfold fX12_findsWhole_117 at h
  refine z_istore (lv2 := [(4, .int y0), (0, .ref (aO 0)), (1, .int x1), (2, .int x2), (3, .int x3)]) X dX12_findsWhole_117 (by decide) rfl ?_
  exact z_at (pc2 := 119) (lv2 := [(0, .ref (aO 0)), (1, .int x1), (2, .int x2), (3, .int x3), (4, .int y0)]) (st2 := []) (ws2 := [wX12 (zcT C) aO sO]) rfl rfl rfl [1, 2, 3, 4, 0] rfl (bX12_findsWhole_119 X hQ hk37 hk77 6000 sO x1 x2 x3 y0 h)
theorem bX12_findsWhole_96 {C : zCtx} (X : zFx C cX12_findsWhole 6 RX12 rmX12_findsWhole (some .boolean)) {aO : Nat → Nat} {k37 : zSt → Int32 → Int32 → Option (Int32 × zSt)} {k77 : zSt → Int32 → Int32 → Int32 → Option (Int32 × zSt)} {sO : zSt} {x1 : Int32} {x2 : Int32} {x3 : Int32} {y0 : Int32} {y1 : Int32} {out : Int32 × zSt} (hQ : zHi C out.1 [wX12 (zcT C) aO out.2] 0 0) (hk37 : ∀ (sO : zSt) (x1 : Int32) (x2 : Int32), k37 sO x1 x2 = some out → zG C 6 [0] 0 0 [wX12 (zcT C) aO sO] 37 [(0, .ref (aO 0)), (1, .int x1), (2, .int x2)] []) (hk77 : ∀ (sO : zSt) (x1 : Int32) (x2 : Int32) (x3 : Int32), k77 sO x1 x2 x3 = some out → zG C 6 [0] 0 0 [wX12 (zcT C) aO sO] 77 [(0, .ref (aO 0)), (1, .int x1), (2, .int x2), (3, .int x3)] []) (h : fX12_findsWhole_96 k37 k77 sO x1 x2 x3 y0 y1 = some out) : zG C 6 [0] 0 0 [wX12 (zcT C) aO sO] 96 [(0, .ref (aO 0)), (1, .int x1), (2, .int x2), (3, .int x3)] [.int y1, .int y0] := by
  unfold fX12_findsWhole_96 at h
  refine z_icmp_gt (tgt := 239) X dX12_findsWhole_96 (by decide) (fun c96 => ?_) (fun c96 => ?_)
  · replace h := zif_t h c96
    obtain ⟨v239, ev239, h⟩ := zlet_of h
    refine z_iinc (v := v239) (lv2 := [(2, .int v239), (0, .ref (aO 0)), (1, .int x1), (3, .int x3)]) X dX12_findsWhole_239 (k := 2) rfl (by rw [ev239]; rfl) (by decide) rfl ?_
    refine z_goto (tgt := 37) X dX12_findsWhole_242 (by decide) ?_
    exact z_at (pc2 := 37) (lv2 := [(0, .ref (aO 0)), (1, .int x1), (2, .int v239)]) (st2 := []) (ws2 := [wX12 (zcT C) aO sO]) rfl rfl rfl [1, 2, 0] rfl (hk37 sO x1 v239 h)
  · replace h := zif_f h c96
    refine z_aload_n X dX12_findsWhole_99 0 rfl ?_
    refine z_get (v := .int (zgi sO 10)) X 0 0 13 10 ziX12 rfl (by decide) zw1346 rfl dX12_findsWhole_100 rfl rfl rfl ?_
    refine z_iconst (v := (2 : Int32)) X dX12_findsWhole_103 rfl ?_
    refine z_icmp_le (tgt := 116) X dX12_findsWhole_104 (by decide) (fun c104 => ?_) (fun c104 => ?_)
    · replace h := zif_t h c104
      refine z_iconst (v := (0 : Int32)) X dX12_findsWhole_116 rfl ?_
      exact z_at (pc2 := 117) (lv2 := [(0, .ref (aO 0)), (1, .int x1), (2, .int x2), (3, .int x3)]) (st2 := [.int (0 : Int32)]) (ws2 := [wX12 (zcT C) aO sO]) rfl rfl rfl [0, 1, 2, 3] rfl (bX12_findsWhole_117 X hQ hk37 hk77 h)
    · replace h := zif_f h c104
      refine z_aload_n X dX12_findsWhole_107 0 rfl ?_
      refine z_get (v := .ref (aO 1)) X 0 0 13 0 ziX12 rfl (by decide) zw1336 rfl dX12_findsWhole_108 rfl rfl rfl ?_
      refine z_iconst (v := (2 : Int32)) X dX12_findsWhole_111 rfl ?_
      obtain ⟨g112, h⟩ := zgd_of h
      refine z_iald X 0 1 g112 dX12_findsWhole_112 rfl rfl ?_
      refine z_goto (tgt := 117) X dX12_findsWhole_113 (by decide) ?_
      exact z_at (pc2 := 117) (lv2 := [(0, .ref (aO 0)), (1, .int x1), (2, .int x2), (3, .int x3)]) (st2 := [.int (zga sO 0 ((2 : Int32)).toNatClampNeg)]) (ws2 := [wX12 (zcT C) aO sO]) rfl rfl rfl [0, 1, 2, 3] rfl (bX12_findsWhole_117 X hQ hk37 hk77 h)
theorem bX12_findsWhole_77 {C : zCtx} (X : zFx C cX12_findsWhole 6 RX12 rmX12_findsWhole (some .boolean)) {aO : Nat → Nat} {k37 : zSt → Int32 → Int32 → Option (Int32 × zSt)} {out : Int32 × zSt} (hQ : zHi C out.1 [wX12 (zcT C) aO out.2] 0 0) (hk37 : ∀ (sO : zSt) (x1 : Int32) (x2 : Int32), k37 sO x1 x2 = some out → zG C 6 [0] 0 0 [wX12 (zcT C) aO sO] 37 [(0, .ref (aO 0)), (1, .int x1), (2, .int x2)] []) : ∀ (n : Nat) (sO : zSt) (x1 : Int32) (x2 : Int32) (x3 : Int32), fX12_findsWhole_77 k37 n sO x1 x2 x3 = some out → zG C 6 [0] 0 0 [wX12 (zcT C) aO sO] 77 [(0, .ref (aO 0)), (1, .int x1), (2, .int x2), (3, .int x3)] [] := by
  intro n
  induction n with
  | zero =>
    intro sO x1 x2 x3 h
    rw [fX12_findsWhole_77] at h
    exact zno h
  | succ n ih =>
    intro sO x1 x2 x3 h
    rw [fX12_findsWhole_77] at h
    refine z_iload_n X dX12_findsWhole_77 3 rfl ?_
    refine z_aload_n X dX12_findsWhole_78 0 rfl ?_
    refine z_get (v := .int (zgi sO 10)) X 0 0 13 10 ziX12 rfl (by decide) zw1346 rfl dX12_findsWhole_79 rfl rfl rfl ?_
    refine z_iconst (v := (1 : Int32)) X dX12_findsWhole_82 rfl ?_
    refine z_icmp_le (tgt := 95) X dX12_findsWhole_83 (by decide) (fun c83 => ?_) (fun c83 => ?_)
    · replace h := zif_t h c83
      refine z_iconst (v := (0 : Int32)) X dX12_findsWhole_95 rfl ?_
      exact z_at (pc2 := 96) (lv2 := [(0, .ref (aO 0)), (1, .int x1), (2, .int x2), (3, .int x3)]) (st2 := [.int (0 : Int32), .int x3]) (ws2 := [wX12 (zcT C) aO sO]) rfl rfl rfl [0, 1, 2, 3] rfl (bX12_findsWhole_96 X hQ hk37 ih h)
    · replace h := zif_f h c83
      refine z_aload_n X dX12_findsWhole_86 0 rfl ?_
      refine z_get (v := .ref (aO 2)) X 0 0 13 1 ziX12 rfl (by decide) zw1337 rfl dX12_findsWhole_87 rfl rfl rfl ?_
      refine z_iconst (v := (1 : Int32)) X dX12_findsWhole_90 rfl ?_
      obtain ⟨g91, h⟩ := zgd_of h
      refine z_iald X 0 2 g91 dX12_findsWhole_91 rfl rfl ?_
      refine z_goto (tgt := 96) X dX12_findsWhole_92 (by decide) ?_
      exact z_at (pc2 := 96) (lv2 := [(0, .ref (aO 0)), (1, .int x1), (2, .int x2), (3, .int x3)]) (st2 := [.int (zga sO 1 ((1 : Int32)).toNatClampNeg), .int x3]) (ws2 := [wX12 (zcT C) aO sO]) rfl rfl rfl [0, 1, 2, 3] rfl (bX12_findsWhole_96 X hQ hk37 ih h)
theorem bX12_findsWhole_76 {C : zCtx} (X : zFx C cX12_findsWhole 6 RX12 rmX12_findsWhole (some .boolean)) {aO : Nat → Nat} {k37 : zSt → Int32 → Int32 → Option (Int32 × zSt)} {sO : zSt} {x1 : Int32} {x2 : Int32} {y0 : Int32} {out : Int32 × zSt} (hQ : zHi C out.1 [wX12 (zcT C) aO out.2] 0 0) (hk37 : ∀ (sO : zSt) (x1 : Int32) (x2 : Int32), k37 sO x1 x2 = some out → zG C 6 [0] 0 0 [wX12 (zcT C) aO sO] 37 [(0, .ref (aO 0)), (1, .int x1), (2, .int x2)] []) (h : fX12_findsWhole_76 k37 sO x1 x2 y0 = some out) : zG C 6 [0] 0 0 [wX12 (zcT C) aO sO] 76 [(0, .ref (aO 0)), (1, .int x1), (2, .int x2)] [.int y0] := by
  unfold fX12_findsWhole_76 at h
  refine z_istore_n (lv2 := [(3, .int y0), (0, .ref (aO 0)), (1, .int x1), (2, .int x2)]) X dX12_findsWhole_76 rfl (by decide) rfl ?_
  exact z_at (pc2 := 77) (lv2 := [(0, .ref (aO 0)), (1, .int x1), (2, .int x2), (3, .int y0)]) (st2 := []) (ws2 := [wX12 (zcT C) aO sO]) rfl rfl rfl [1, 2, 3, 0] rfl (bX12_findsWhole_77 X hQ hk37 6000 sO x1 x2 y0 h)
theorem bX12_findsWhole_55 {C : zCtx} (X : zFx C cX12_findsWhole 6 RX12 rmX12_findsWhole (some .boolean)) {aO : Nat → Nat} {k37 : zSt → Int32 → Int32 → Option (Int32 × zSt)} {sO : zSt} {x1 : Int32} {x2 : Int32} {y0 : Int32} {y1 : Int32} {out : Int32 × zSt} (hQ : zHi C out.1 [wX12 (zcT C) aO out.2] 0 0) (hk37 : ∀ (sO : zSt) (x1 : Int32) (x2 : Int32), k37 sO x1 x2 = some out → zG C 6 [0] 0 0 [wX12 (zcT C) aO sO] 37 [(0, .ref (aO 0)), (1, .int x1), (2, .int x2)] []) (h : fX12_findsWhole_55 k37 sO x1 x2 y0 y1 = some out) : zG C 6 [0] 0 0 [wX12 (zcT C) aO sO] 55 [(0, .ref (aO 0)), (1, .int x1), (2, .int x2)] [.int y1, .int y0] := by
  unfold fX12_findsWhole_55 at h
  refine z_icmp_gt (tgt := 245) X dX12_findsWhole_55 (by decide) (fun c55 => ?_) (fun c55 => ?_)
  · replace h := zif_t h c55
    refine z_iload_n X dX12_findsWhole_245 1 rfl ?_
    obtain ⟨g246, h⟩ := zgd_of h
    cases h
    exact z_nret X hQ g246 dX12_findsWhole_246 rfl [0] rfl (by decide) (by decide)
  · replace h := zif_f h c55
    refine z_aload_n X dX12_findsWhole_58 0 rfl ?_
    refine z_get (v := .int (zgi sO 10)) X 0 0 13 10 ziX12 rfl (by decide) zw1346 rfl dX12_findsWhole_59 rfl rfl rfl ?_
    refine z_iconst (v := (1 : Int32)) X dX12_findsWhole_62 rfl ?_
    refine z_icmp_le (tgt := 75) X dX12_findsWhole_63 (by decide) (fun c63 => ?_) (fun c63 => ?_)
    · replace h := zif_t h c63
      refine z_iconst (v := (0 : Int32)) X dX12_findsWhole_75 rfl ?_
      exact z_at (pc2 := 76) (lv2 := [(0, .ref (aO 0)), (1, .int x1), (2, .int x2)]) (st2 := [.int (0 : Int32)]) (ws2 := [wX12 (zcT C) aO sO]) rfl rfl rfl [0, 1, 2] rfl (bX12_findsWhole_76 X hQ hk37 h)
    · replace h := zif_f h c63
      refine z_aload_n X dX12_findsWhole_66 0 rfl ?_
      refine z_get (v := .ref (aO 1)) X 0 0 13 0 ziX12 rfl (by decide) zw1336 rfl dX12_findsWhole_67 rfl rfl rfl ?_
      refine z_iconst (v := (1 : Int32)) X dX12_findsWhole_70 rfl ?_
      obtain ⟨g71, h⟩ := zgd_of h
      refine z_iald X 0 1 g71 dX12_findsWhole_71 rfl rfl ?_
      refine z_goto (tgt := 76) X dX12_findsWhole_72 (by decide) ?_
      exact z_at (pc2 := 76) (lv2 := [(0, .ref (aO 0)), (1, .int x1), (2, .int x2)]) (st2 := [.int (zga sO 0 ((1 : Int32)).toNatClampNeg)]) (ws2 := [wX12 (zcT C) aO sO]) rfl rfl rfl [0, 1, 2] rfl (bX12_findsWhole_76 X hQ hk37 h)
theorem bX12_findsWhole_37 {C : zCtx} (X : zFx C cX12_findsWhole 6 RX12 rmX12_findsWhole (some .boolean)) {aO : Nat → Nat} {out : Int32 × zSt} (hQ : zHi C out.1 [wX12 (zcT C) aO out.2] 0 0) : ∀ (n : Nat) (sO : zSt) (x1 : Int32) (x2 : Int32), fX12_findsWhole_37 n sO x1 x2 = some out → zG C 6 [0] 0 0 [wX12 (zcT C) aO sO] 37 [(0, .ref (aO 0)), (1, .int x1), (2, .int x2)] [] := by
  intro n
  induction n with
  | zero =>
    intro sO x1 x2 h
    rw [fX12_findsWhole_37] at h
    exact zno h
  | succ n ih =>
    intro sO x1 x2 h
    rw [fX12_findsWhole_37] at h
    refine z_iload_n X dX12_findsWhole_37 2 rfl ?_
    refine z_aload_n X dX12_findsWhole_38 0 rfl ?_
    refine z_get (v := .int (zgi sO 10)) X 0 0 13 10 ziX12 rfl (by decide) zw1346 rfl dX12_findsWhole_39 rfl rfl rfl ?_
    refine z_if_le (tgt := 54) X dX12_findsWhole_42 (by decide) (fun c42 => ?_) (fun c42 => ?_)
    · replace h := zif_t h c42
      refine z_iconst (v := (0 : Int32)) X dX12_findsWhole_54 rfl ?_
      exact z_at (pc2 := 55) (lv2 := [(0, .ref (aO 0)), (1, .int x1), (2, .int x2)]) (st2 := [.int (0 : Int32), .int x2]) (ws2 := [wX12 (zcT C) aO sO]) rfl rfl rfl [0, 1, 2] rfl (bX12_findsWhole_55 X hQ ih h)
    · replace h := zif_f h c42
      refine z_aload_n X dX12_findsWhole_45 0 rfl ?_
      refine z_get (v := .ref (aO 2)) X 0 0 13 1 ziX12 rfl (by decide) zw1337 rfl dX12_findsWhole_46 rfl rfl rfl ?_
      refine z_iconst (v := (0 : Int32)) X dX12_findsWhole_49 rfl ?_
      obtain ⟨g50, h⟩ := zgd_of h
      refine z_iald X 0 2 g50 dX12_findsWhole_50 rfl rfl ?_
      refine z_goto (tgt := 55) X dX12_findsWhole_51 (by decide) ?_
      exact z_at (pc2 := 55) (lv2 := [(0, .ref (aO 0)), (1, .int x1), (2, .int x2)]) (st2 := [.int (zga sO 1 ((0 : Int32)).toNatClampNeg), .int x2]) (ws2 := [wX12 (zcT C) aO sO]) rfl rfl rfl [0, 1, 2] rfl (bX12_findsWhole_55 X hQ ih h)
theorem bX12_findsWhole_36 {C : zCtx} (X : zFx C cX12_findsWhole 6 RX12 rmX12_findsWhole (some .boolean)) {aO : Nat → Nat} {sO : zSt} {x1 : Int32} {y0 : Int32} {out : Int32 × zSt} (hQ : zHi C out.1 [wX12 (zcT C) aO out.2] 0 0) (h : fX12_findsWhole_36 sO x1 y0 = some out) : zG C 6 [0] 0 0 [wX12 (zcT C) aO sO] 36 [(0, .ref (aO 0)), (1, .int x1)] [.int y0] := by
  unfold fX12_findsWhole_36 at h
  refine z_istore_n (lv2 := [(2, .int y0), (0, .ref (aO 0)), (1, .int x1)]) X dX12_findsWhole_36 rfl (by decide) rfl ?_
  exact z_at (pc2 := 37) (lv2 := [(0, .ref (aO 0)), (1, .int x1), (2, .int y0)]) (st2 := []) (ws2 := [wX12 (zcT C) aO sO]) rfl rfl rfl [1, 2, 0] rfl (bX12_findsWhole_37 X hQ  6000 sO x1 y0 h)
theorem bX12_findsWhole_0 {C : zCtx} (X : zFx C cX12_findsWhole 6 RX12 rmX12_findsWhole (some .boolean)) {aO : Nat → Nat} {sO : zSt} {out : Int32 × zSt} (hQ : zHi C out.1 [wX12 (zcT C) aO out.2] 0 0) (h : fX12_findsWhole sO = some out) : zG C 6 [0] 0 0 [wX12 (zcT C) aO sO] 0 [(0, .ref (aO 0))] [] := by
  unfold fX12_findsWhole at h
  refine z_aload_n X dX12_findsWhole_0 0 rfl ?_
  refine z_aload_n X dX12_findsWhole_1 0 rfl ?_
  obtain ⟨o2, ho2, h⟩ := zbind_of h
  refine z_callVi (st := [.ref (aO 0)]) (ws2 := [wX12 (zcT C) aO sO]) X (metX12_allLeft (zcl C) (zcD C) (zcT C) aO ho2) zmX12_allLeft zw1796 dX12_findsWhole_2 0 0 13 rfl rfl rfl rfl [0] rfl rfl [] rfl (by decide) trivial rfl rfl rfl (Nat.le_of_ble_eq_true rfl) rfl rfl ⟨Nat.le_of_ble_eq_true rfl, Nat.le_of_ble_eq_true rfl⟩ ⟨Nat.le_of_ble_eq_true rfl, Nat.le_of_ble_eq_true rfl⟩ ?_
  refine z_iconst (v := (-1 : Int32)) X dX12_findsWhole_5 rfl ?_
  refine z_iconst (v := (0 : Int32)) X dX12_findsWhole_6 rfl ?_
  obtain ⟨o7, ho7, h⟩ := zbind_of h
  refine z_callVv (st := []) (ws2 := [wX12 (zcT C) aO o7]) X (metX12_laysPlanes (zcl C) (zcD C) (zcT C) aO ho7) zmX12_laysPlanes zw1808 dX12_findsWhole_7 0 0 13 rfl rfl rfl rfl [0] rfl rfl [0] rfl (by decide) ⟨zsX12 , trivial⟩ rfl rfl rfl (Nat.le_of_ble_eq_true rfl) rfl rfl ⟨Nat.le_of_ble_eq_true rfl, Nat.le_of_ble_eq_true rfl⟩ ⟨Nat.le_of_ble_eq_true rfl, Nat.le_of_ble_eq_true rfl⟩ ?_
  refine z_iconst (v := (0 : Int32)) X dX12_findsWhole_10 rfl ?_
  refine z_istore_n (lv2 := [(1, .int (0 : Int32)), (0, .ref (aO 0))]) X dX12_findsWhole_11 rfl (by decide) rfl ?_
  refine z_aload_n X dX12_findsWhole_12 1 rfl ?_
  refine z_get (v := .ref (aO 28)) X 0 0 13 27 ziX12 rfl (by decide) zw1363 rfl dX12_findsWhole_13 rfl rfl rfl ?_
  refine z_iconst (v := (3 : Int32)) X dX12_findsWhole_16 rfl ?_
  refine z_lconst (v := (1 : Int64)) X dX12_findsWhole_17 rfl ?_
  obtain ⟨g18, h⟩ := zgd_of h
  obtain ⟨sO18, esO18, h⟩ := zlet_of h
  refine z_last (ws2 := [wX12 (zcT C) aO sO18]) X 0 19 g18 dX12_findsWhole_18 rfl rfl (by decide) (w2 := wX12 (zcT C) aO sO18) (by rw [esO18]; rfl) rfl ?_
  refine z_aload_n X dX12_findsWhole_19 1 rfl ?_
  refine z_get (v := .int (zgi sO18 10)) X 0 0 13 10 ziX12 rfl (by decide) zw1346 rfl dX12_findsWhole_20 rfl rfl rfl ?_
  refine z_if_le (tgt := 35) X dX12_findsWhole_23 (by decide) (fun c23 => ?_) (fun c23 => ?_)
  · replace h := zif_t h c23
    refine z_iconst (v := (0 : Int32)) X dX12_findsWhole_35 rfl ?_
    exact z_at (pc2 := 36) (lv2 := [(0, .ref (aO 0)), (1, .int (0 : Int32))]) (st2 := [.int (0 : Int32)]) (ws2 := [wX12 (zcT C) aO sO18]) rfl rfl rfl [1, 0] rfl (bX12_findsWhole_36 X hQ  h)
  · replace h := zif_f h c23
    refine z_aload_n X dX12_findsWhole_26 1 rfl ?_
    refine z_get (v := .ref (aO 1)) X 0 0 13 0 ziX12 rfl (by decide) zw1336 rfl dX12_findsWhole_27 rfl rfl rfl ?_
    refine z_iconst (v := (0 : Int32)) X dX12_findsWhole_30 rfl ?_
    obtain ⟨g31, h⟩ := zgd_of h
    refine z_iald X 0 1 g31 dX12_findsWhole_31 rfl rfl ?_
    refine z_goto (tgt := 36) X dX12_findsWhole_32 (by decide) ?_
    exact z_at (pc2 := 36) (lv2 := [(0, .ref (aO 0)), (1, .int (0 : Int32))]) (st2 := [.int (zga sO18 0 ((0 : Int32)).toNatClampNeg)]) (ws2 := [wX12 (zcT C) aO sO18]) rfl rfl rfl [1, 0] rfl (bX12_findsWhole_36 X hQ  h)
theorem metX12_findsWhole (l : Launch) (D : va_G) (T : Nat → ClassId) (aO : Nat → Nat) {sO : zSt} {out : Int32 × zSt} (hf : fX12_findsWhole sO = some out) (sz : Nat) : Met l yX12_findsWhole (zws yX12_findsWhole cX12_findsWhole 6 (some .boolean)) rmX12_findsWhole (zPc D T [.ref (aO 0)] [wX12 T aO sO] sz) (zQi D out.1 [wX12 T aO out.2] (zA [wX12 T aO sO] sz)) 0 0 (zA [wX12 T aO sO] sz) :=
  zMet (D := D) (T := T) (av := [.ref (aO 0)]) (ws := fun T => [wX12 T aO sO]) (wm := fun T => [wX12 T aO sO]) (lv0 := [(0, .ref (aO 0))]) [0] (Qc := fun D T A => zQi D out.1 [wX12 T aO out.2] A) (by decide +kernel) rfl (Nat.le_of_ble_eq_true rfl) rfl (fun C X hQ => bX12_findsWhole_0 X hQ hf) sz
/-- public int wholeAt(int); of TableaufloorModel -/
abbrev rmX12_wholeAt : Room := { frames := 4, cells := 0, slots := 0, locals := 103 }
def fX12_wholeAt_57 (sO : zSt) (y0 : Int32) : Option (Int32 × zSt) :=
  some (y0, sO)
def fX12_wholeAt_36 (sO : zSt) (x1 : Int32) (y1 : Int32) : Option (Int32 × zSt) :=
  (zlet (zsi sO 9 y1) (fun sO36 =>
    (if (zgi sO36 9) ≤ 0 then
    (if zin x1 3 = true then
      (fX12_wholeAt_57 sO36 (((zgb sO36 30 (x1).toNatClampNeg)).toInt32)) else none)
  else
    (fX12_wholeAt_57 sO36 (0 : Int32)))))
def fX12_wholeAt (sO : zSt) (x1 : Int32) : Option (Int32 × zSt) :=
  ((fX12_isVariable sO x1).bind (fun o3 =>
    (if o3 = 0 then
    (fX12_wholeAt_36 sO x1 (1 : Int32))
  else
    ((fX12_isWholeLooked sO).bind (fun o14 =>
      (if o14 = 0 then
      (fX12_wholeAt_36 sO x1 (2 : Int32))
    else
      ((fX12_findsWhole sO).bind (fun o25 =>
        (if o25.1 = 0 then
        (fX12_wholeAt_36 o25.2 x1 (3 : Int32))
      else
        (fX12_wholeAt_36 o25.2 x1 (0 : Int32)))))))))))
theorem bX12_wholeAt_57 {C : zCtx} (X : zFx C cX12_wholeAt 2 RX12 rmX12_wholeAt (some .int)) {aO : Nat → Nat} {sO : zSt} {y0 : Int32} {out : Int32 × zSt} (hQ : zHi C out.1 [wX12 (zcT C) aO out.2] 0 0) (h : fX12_wholeAt_57 sO y0 = some out) : zG C 2 [0] 0 0 [wX12 (zcT C) aO sO] 57 [] [.int y0] := by
  unfold fX12_wholeAt_57 at h
  cases h
  exact z_iret X hQ dX12_wholeAt_57 rfl [0] rfl (by decide) (by decide)
theorem bX12_wholeAt_36 {C : zCtx} (X : zFx C cX12_wholeAt 2 RX12 rmX12_wholeAt (some .int)) {aO : Nat → Nat} {sO : zSt} {x1 : Int32} {y1 : Int32} {out : Int32 × zSt} (hQ : zHi C out.1 [wX12 (zcT C) aO out.2] 0 0) (h : fX12_wholeAt_36 sO x1 y1 = some out) : zG C 2 [0] 0 0 [wX12 (zcT C) aO sO] 36 [(0, .ref (aO 0)), (1, .int x1)] [.int y1, .ref (aO 0)] := by
  unfold fX12_wholeAt_36 at h
  obtain ⟨sO36, esO36, h⟩ := zlet_of h
  refine z_put (ws2 := [wX12 (zcT C) aO sO36]) X 0 0 13 9 ziX12 rfl tyX12 tyX12_ok nmX12 (by decide) zw1345 rfl rfl (ty := .int) (by decide +kernel) rfl rfl (by show 9 < 40; decide) dX12_wholeAt_36 rfl rfl (by decide) (w2 := wX12 (zcT C) aO sO36) (by rw [esO36]; rfl) rfl ?_
  refine z_aload_n X dX12_wholeAt_39 0 rfl ?_
  refine z_get (v := .int (zgi sO36 9)) X 0 0 13 9 ziX12 rfl (by decide) zw1345 rfl dX12_wholeAt_40 rfl rfl rfl ?_
  refine z_if_le (tgt := 50) X dX12_wholeAt_43 (by decide) (fun c43 => ?_) (fun c43 => ?_)
  · replace h := zif_t h c43
    refine z_aload_n X dX12_wholeAt_50 0 rfl ?_
    refine z_get (v := .ref (aO 31)) X 0 0 13 30 ziX12 rfl (by decide) zw1366 rfl dX12_wholeAt_51 rfl rfl rfl ?_
    refine z_iload_n X dX12_wholeAt_54 1 rfl ?_
    obtain ⟨g55, h⟩ := zgd_of h
    refine z_lald X 0 22 g55 dX12_wholeAt_55 rfl rfl ?_
    refine z_l2i X dX12_wholeAt_56 ?_
    exact z_at (pc2 := 57) (lv2 := []) (st2 := [.int (((zgb sO36 30 (x1).toNatClampNeg)).toInt32)]) (ws2 := [wX12 (zcT C) aO sO36]) rfl rfl rfl [] rfl (bX12_wholeAt_57 X hQ  h)
  · replace h := zif_f h c43
    refine z_iconst (v := (0 : Int32)) X dX12_wholeAt_46 rfl ?_
    refine z_goto (tgt := 57) X dX12_wholeAt_47 (by decide) ?_
    exact z_at (pc2 := 57) (lv2 := []) (st2 := [.int (0 : Int32)]) (ws2 := [wX12 (zcT C) aO sO36]) rfl rfl rfl [] rfl (bX12_wholeAt_57 X hQ  h)
theorem bX12_wholeAt_0 {C : zCtx} (X : zFx C cX12_wholeAt 2 RX12 rmX12_wholeAt (some .int)) {aO : Nat → Nat} {sO : zSt} {x1 : Int32} {out : Int32 × zSt} (hQ : zHi C out.1 [wX12 (zcT C) aO out.2] 0 0) (h : fX12_wholeAt sO x1 = some out) : zG C 2 [0] 0 0 [wX12 (zcT C) aO sO] 0 [(0, .ref (aO 0)), (1, .int x1)] [] := by
  unfold fX12_wholeAt at h
  refine z_aload_n X dX12_wholeAt_0 0 rfl ?_
  refine z_aload_n X dX12_wholeAt_1 0 rfl ?_
  refine z_iload_n X dX12_wholeAt_2 1 rfl ?_
  obtain ⟨o3, ho3, h⟩ := zbind_of h
  refine z_callVi (st := [.ref (aO 0)]) (ws2 := [wX12 (zcT C) aO sO]) X (metX12_isVariable (zcl C) (zcD C) (zcT C) aO ho3) zmX12_isVariable zw1472 dX12_wholeAt_3 0 0 13 rfl rfl rfl rfl [0] rfl rfl [] rfl (by decide) trivial rfl rfl rfl (Nat.le_of_ble_eq_true rfl) rfl rfl ⟨Nat.le_of_ble_eq_true rfl, Nat.le_of_ble_eq_true rfl⟩ ⟨Nat.le_of_ble_eq_true rfl, Nat.le_of_ble_eq_true rfl⟩ ?_
  refine z_if_ne (tgt := 13) X dX12_wholeAt_6 (by decide) (fun c6 => ?_) (fun c6 => ?_)
  · replace h := zif_f h c6
    refine z_aload_n X dX12_wholeAt_13 0 rfl ?_
    obtain ⟨o14, ho14, h⟩ := zbind_of h
    refine z_callVi (st := [.ref (aO 0)]) (ws2 := [wX12 (zcT C) aO sO]) X (metX12_isWholeLooked (zcl C) (zcD C) (zcT C) aO ho14) zmX12_isWholeLooked zw1940 dX12_wholeAt_14 0 0 13 rfl rfl rfl rfl [0] rfl rfl [] rfl (by decide) trivial rfl rfl rfl (Nat.le_of_ble_eq_true rfl) rfl rfl ⟨Nat.le_of_ble_eq_true rfl, Nat.le_of_ble_eq_true rfl⟩ ⟨Nat.le_of_ble_eq_true rfl, Nat.le_of_ble_eq_true rfl⟩ ?_
    refine z_if_ne (tgt := 24) X dX12_wholeAt_17 (by decide) (fun c17 => ?_) (fun c17 => ?_)
    · replace h := zif_f h c17
      refine z_aload_n X dX12_wholeAt_24 0 rfl ?_
      obtain ⟨o25, ho25, h⟩ := zbind_of h
      refine z_callVi (st := [.ref (aO 0)]) (ws2 := [wX12 (zcT C) aO o25.2]) X (metX12_findsWhole (zcl C) (zcD C) (zcT C) aO ho25) zmX12_findsWhole zw1944 dX12_wholeAt_25 0 0 13 rfl rfl rfl rfl [0] rfl rfl [0] rfl (by decide) ⟨zsX12 , trivial⟩ rfl rfl rfl (Nat.le_of_ble_eq_true rfl) rfl rfl ⟨Nat.le_of_ble_eq_true rfl, Nat.le_of_ble_eq_true rfl⟩ ⟨Nat.le_of_ble_eq_true rfl, Nat.le_of_ble_eq_true rfl⟩ ?_
      refine z_if_ne (tgt := 35) X dX12_wholeAt_28 (by decide) (fun c28 => ?_) (fun c28 => ?_)
      · replace h := zif_f h c28
        refine z_iconst (v := (0 : Int32)) X dX12_wholeAt_35 rfl ?_
        exact z_at (pc2 := 36) (lv2 := [(0, .ref (aO 0)), (1, .int x1)]) (st2 := [.int (0 : Int32), .ref (aO 0)]) (ws2 := [wX12 (zcT C) aO o25.2]) rfl rfl rfl [0, 1] rfl (bX12_wholeAt_36 X hQ  h)
      · replace h := zif_t h c28
        refine z_iconst (v := (3 : Int32)) X dX12_wholeAt_31 rfl ?_
        refine z_goto (tgt := 36) X dX12_wholeAt_32 (by decide) ?_
        exact z_at (pc2 := 36) (lv2 := [(0, .ref (aO 0)), (1, .int x1)]) (st2 := [.int (3 : Int32), .ref (aO 0)]) (ws2 := [wX12 (zcT C) aO o25.2]) rfl rfl rfl [0, 1] rfl (bX12_wholeAt_36 X hQ  h)
    · replace h := zif_t h c17
      refine z_iconst (v := (2 : Int32)) X dX12_wholeAt_20 rfl ?_
      refine z_goto (tgt := 36) X dX12_wholeAt_21 (by decide) ?_
      exact z_at (pc2 := 36) (lv2 := [(0, .ref (aO 0)), (1, .int x1)]) (st2 := [.int (2 : Int32), .ref (aO 0)]) (ws2 := [wX12 (zcT C) aO sO]) rfl rfl rfl [0, 1] rfl (bX12_wholeAt_36 X hQ  h)
  · replace h := zif_t h c6
    refine z_iconst (v := (1 : Int32)) X dX12_wholeAt_9 rfl ?_
    refine z_goto (tgt := 36) X dX12_wholeAt_10 (by decide) ?_
    exact z_at (pc2 := 36) (lv2 := [(0, .ref (aO 0)), (1, .int x1)]) (st2 := [.int (1 : Int32), .ref (aO 0)]) (ws2 := [wX12 (zcT C) aO sO]) rfl rfl rfl [0, 1] rfl (bX12_wholeAt_36 X hQ  h)
theorem metX12_wholeAt (l : Launch) (D : va_G) (T : Nat → ClassId) (aO : Nat → Nat) {sO : zSt} {x1 : Int32} {out : Int32 × zSt} (hf : fX12_wholeAt sO x1 = some out) (sz : Nat) : Met l yX12_wholeAt (zws yX12_wholeAt cX12_wholeAt 2 (some .int)) rmX12_wholeAt (zPc D T [.ref (aO 0), .int x1] [wX12 T aO sO] sz) (zQi D out.1 [wX12 T aO out.2] (zA [wX12 T aO sO] sz)) 0 0 (zA [wX12 T aO sO] sz) :=
  zMet (D := D) (T := T) (av := [.ref (aO 0), .int x1]) (ws := fun T => [wX12 T aO sO]) (wm := fun T => [wX12 T aO sO]) (lv0 := [(0, .ref (aO 0)), (1, .int x1)]) [0] (Qc := fun D T A => zQi D out.1 [wX12 T aO out.2] A) (by decide +kernel) rfl (Nat.le_of_ble_eq_true rfl) rfl (fun C X hQ => bX12_wholeAt_0 X hQ hf) sz
/-- public int wholeValue(int); of TableaufloorModel -/
abbrev rmX12_wholeValue : Room := { frames := 4, cells := 0, slots := 0, locals := 103 }
def fX12_wholeValue_52 : Nat → zSt → Int32 → Int32 → Int32 → Option (Int32 × zSt)
  | 0, _, _, _, _ => none
  | n + 1, sO, x1, x2, x3 =>
    (if (3 : Int32) ≤ x3 then
      some (x2, sO)
    else
      (if zin (((3 : Int32) * x1) + x3) 9 = true then
        (if zin x3 3 = true then
        (zlet (x2 + ((zga sO 5 ((((3 : Int32) * x1) + x3)).toNatClampNeg) * (((zgb sO 30 (x3).toNatClampNeg)).toInt32))) (fun v77 =>
        (zlet (x3 + 1) (fun v78 =>
        (fX12_wholeValue_52 n sO x1 v77 v78))))) else none) else none))
def fX12_wholeValue_36 (sO : zSt) (x1 : Int32) (y1 : Int32) : Option (Int32 × zSt) :=
  (zlet (zsi sO 9 y1) (fun sO36 =>
    (if (zgi sO36 9) ≤ 0 then
    (fX12_wholeValue_52 6000 sO36 x1 (0 : Int32) (0 : Int32))
  else
    some ((0 : Int32), sO36))))
def fX12_wholeValue (sO : zSt) (x1 : Int32) : Option (Int32 × zSt) :=
  ((fX12_isAimIn sO x1).bind (fun o3 =>
    (if o3 = 0 then
    (fX12_wholeValue_36 sO x1 (1 : Int32))
  else
    ((fX12_isWholeLooked sO).bind (fun o14 =>
      (if o14 = 0 then
      (fX12_wholeValue_36 sO x1 (2 : Int32))
    else
      ((fX12_findsWhole sO).bind (fun o25 =>
        (if o25.1 = 0 then
        (fX12_wholeValue_36 o25.2 x1 (3 : Int32))
      else
        (fX12_wholeValue_36 o25.2 x1 (0 : Int32)))))))))))
theorem bX12_wholeValue_52 {C : zCtx} (X : zFx C cX12_wholeValue 4 RX12 rmX12_wholeValue (some .int)) {aO : Nat → Nat} {out : Int32 × zSt} (hQ : zHi C out.1 [wX12 (zcT C) aO out.2] 0 0) : ∀ (n : Nat) (sO : zSt) (x1 : Int32) (x2 : Int32) (x3 : Int32), fX12_wholeValue_52 n sO x1 x2 x3 = some out → zG C 4 [0] 0 0 [wX12 (zcT C) aO sO] 52 [(0, .ref (aO 0)), (1, .int x1), (2, .int x2), (3, .int x3)] [] := by
  intro n
  induction n with
  | zero =>
    intro sO x1 x2 x3 h
    rw [fX12_wholeValue_52] at h
    exact zno h
  | succ n ih =>
    intro sO x1 x2 x3 h
    rw [fX12_wholeValue_52] at h
    refine z_iload_n X dX12_wholeValue_52 3 rfl ?_
    refine z_iconst (v := (3 : Int32)) X dX12_wholeValue_53 rfl ?_
    refine z_icmp_ge (tgt := 84) X dX12_wholeValue_54 (by decide) (fun c54 => ?_) (fun c54 => ?_)
    · replace h := zif_t h c54
      refine z_iload_n X dX12_wholeValue_84 2 rfl ?_
      cases h
      exact z_iret X hQ dX12_wholeValue_85 rfl [0] rfl (by decide) (by decide)
    · replace h := zif_f h c54
      refine z_iload_n X dX12_wholeValue_57 2 rfl ?_
      refine z_aload_n X dX12_wholeValue_58 0 rfl ?_
      refine z_get (v := .ref (aO 6)) X 0 0 13 5 ziX12 rfl (by decide) zw1341 rfl dX12_wholeValue_59 rfl rfl rfl ?_
      refine z_iconst (v := (3 : Int32)) X dX12_wholeValue_62 rfl ?_
      refine z_iload_n X dX12_wholeValue_63 1 rfl ?_
      refine z_imul X dX12_wholeValue_64 ?_
      refine z_iload_n X dX12_wholeValue_65 3 rfl ?_
      refine z_iadd X dX12_wholeValue_66 ?_
      obtain ⟨g67, h⟩ := zgd_of h
      refine z_iald X 0 6 g67 dX12_wholeValue_67 rfl rfl ?_
      refine z_aload_n X dX12_wholeValue_68 0 rfl ?_
      refine z_get (v := .ref (aO 31)) X 0 0 13 30 ziX12 rfl (by decide) zw1366 rfl dX12_wholeValue_69 rfl rfl rfl ?_
      refine z_iload_n X dX12_wholeValue_72 3 rfl ?_
      obtain ⟨g73, h⟩ := zgd_of h
      refine z_lald X 0 22 g73 dX12_wholeValue_73 rfl rfl ?_
      refine z_l2i X dX12_wholeValue_74 ?_
      refine z_imul X dX12_wholeValue_75 ?_
      refine z_iadd X dX12_wholeValue_76 ?_
      obtain ⟨v77, ev77, h⟩ := zlet_of h
      refine z_topi ev77 ?_
      refine z_istore_n (lv2 := [(2, .int v77), (0, .ref (aO 0)), (1, .int x1), (3, .int x3)]) X dX12_wholeValue_77 rfl (by decide) rfl ?_
      obtain ⟨v78, ev78, h⟩ := zlet_of h
      refine z_iinc (v := v78) (lv2 := [(3, .int v78), (2, .int v77), (0, .ref (aO 0)), (1, .int x1)]) X dX12_wholeValue_78 (k := 3) rfl (by rw [ev78]; rfl) (by decide) rfl ?_
      refine z_goto (tgt := 52) X dX12_wholeValue_81 (by decide) ?_
      exact z_at (pc2 := 52) (lv2 := [(0, .ref (aO 0)), (1, .int x1), (2, .int v77), (3, .int v78)]) (st2 := []) (ws2 := [wX12 (zcT C) aO sO]) rfl rfl rfl [2, 3, 1, 0] rfl (ih sO x1 v77 v78 h)
theorem bX12_wholeValue_36 {C : zCtx} (X : zFx C cX12_wholeValue 4 RX12 rmX12_wholeValue (some .int)) {aO : Nat → Nat} {sO : zSt} {x1 : Int32} {y1 : Int32} {out : Int32 × zSt} (hQ : zHi C out.1 [wX12 (zcT C) aO out.2] 0 0) (h : fX12_wholeValue_36 sO x1 y1 = some out) : zG C 4 [0] 0 0 [wX12 (zcT C) aO sO] 36 [(0, .ref (aO 0)), (1, .int x1)] [.int y1, .ref (aO 0)] := by
  unfold fX12_wholeValue_36 at h
  obtain ⟨sO36, esO36, h⟩ := zlet_of h
  refine z_put (ws2 := [wX12 (zcT C) aO sO36]) X 0 0 13 9 ziX12 rfl tyX12 tyX12_ok nmX12 (by decide) zw1345 rfl rfl (ty := .int) (by decide +kernel) rfl rfl (by show 9 < 40; decide) dX12_wholeValue_36 rfl rfl (by decide) (w2 := wX12 (zcT C) aO sO36) (by rw [esO36]; rfl) rfl ?_
  refine z_aload_n X dX12_wholeValue_39 0 rfl ?_
  refine z_get (v := .int (zgi sO36 9)) X 0 0 13 9 ziX12 rfl (by decide) zw1345 rfl dX12_wholeValue_40 rfl rfl rfl ?_
  refine z_if_le (tgt := 48) X dX12_wholeValue_43 (by decide) (fun c43 => ?_) (fun c43 => ?_)
  · replace h := zif_t h c43
    refine z_iconst (v := (0 : Int32)) X dX12_wholeValue_48 rfl ?_
    refine z_istore_n (lv2 := [(2, .int (0 : Int32)), (0, .ref (aO 0)), (1, .int x1)]) X dX12_wholeValue_49 rfl (by decide) rfl ?_
    refine z_iconst (v := (0 : Int32)) X dX12_wholeValue_50 rfl ?_
    refine z_istore_n (lv2 := [(3, .int (0 : Int32)), (2, .int (0 : Int32)), (0, .ref (aO 0)), (1, .int x1)]) X dX12_wholeValue_51 rfl (by decide) rfl ?_
    exact z_at (pc2 := 52) (lv2 := [(0, .ref (aO 0)), (1, .int x1), (2, .int (0 : Int32)), (3, .int (0 : Int32))]) (st2 := []) (ws2 := [wX12 (zcT C) aO sO36]) rfl rfl rfl [2, 3, 1, 0] rfl (bX12_wholeValue_52 X hQ  6000 sO36 x1 (0 : Int32) (0 : Int32) h)
  · replace h := zif_f h c43
    refine z_iconst (v := (0 : Int32)) X dX12_wholeValue_46 rfl ?_
    cases h
    exact z_iret X hQ dX12_wholeValue_47 rfl [0] rfl (by decide) (by decide)
theorem bX12_wholeValue_0 {C : zCtx} (X : zFx C cX12_wholeValue 4 RX12 rmX12_wholeValue (some .int)) {aO : Nat → Nat} {sO : zSt} {x1 : Int32} {out : Int32 × zSt} (hQ : zHi C out.1 [wX12 (zcT C) aO out.2] 0 0) (h : fX12_wholeValue sO x1 = some out) : zG C 4 [0] 0 0 [wX12 (zcT C) aO sO] 0 [(0, .ref (aO 0)), (1, .int x1)] [] := by
  unfold fX12_wholeValue at h
  refine z_aload_n X dX12_wholeValue_0 0 rfl ?_
  refine z_aload_n X dX12_wholeValue_1 0 rfl ?_
  refine z_iload_n X dX12_wholeValue_2 1 rfl ?_
  obtain ⟨o3, ho3, h⟩ := zbind_of h
  refine z_callVi (st := [.ref (aO 0)]) (ws2 := [wX12 (zcT C) aO sO]) X (metX12_isAimIn (zcl C) (zcD C) (zcT C) aO ho3) zmX12_isAimIn zw1876 dX12_wholeValue_3 0 0 13 rfl rfl rfl rfl [0] rfl rfl [] rfl (by decide) trivial rfl rfl rfl (Nat.le_of_ble_eq_true rfl) rfl rfl ⟨Nat.le_of_ble_eq_true rfl, Nat.le_of_ble_eq_true rfl⟩ ⟨Nat.le_of_ble_eq_true rfl, Nat.le_of_ble_eq_true rfl⟩ ?_
  refine z_if_ne (tgt := 13) X dX12_wholeValue_6 (by decide) (fun c6 => ?_) (fun c6 => ?_)
  · replace h := zif_f h c6
    refine z_aload_n X dX12_wholeValue_13 0 rfl ?_
    obtain ⟨o14, ho14, h⟩ := zbind_of h
    refine z_callVi (st := [.ref (aO 0)]) (ws2 := [wX12 (zcT C) aO sO]) X (metX12_isWholeLooked (zcl C) (zcD C) (zcT C) aO ho14) zmX12_isWholeLooked zw1940 dX12_wholeValue_14 0 0 13 rfl rfl rfl rfl [0] rfl rfl [] rfl (by decide) trivial rfl rfl rfl (Nat.le_of_ble_eq_true rfl) rfl rfl ⟨Nat.le_of_ble_eq_true rfl, Nat.le_of_ble_eq_true rfl⟩ ⟨Nat.le_of_ble_eq_true rfl, Nat.le_of_ble_eq_true rfl⟩ ?_
    refine z_if_ne (tgt := 24) X dX12_wholeValue_17 (by decide) (fun c17 => ?_) (fun c17 => ?_)
    · replace h := zif_f h c17
      refine z_aload_n X dX12_wholeValue_24 0 rfl ?_
      obtain ⟨o25, ho25, h⟩ := zbind_of h
      refine z_callVi (st := [.ref (aO 0)]) (ws2 := [wX12 (zcT C) aO o25.2]) X (metX12_findsWhole (zcl C) (zcD C) (zcT C) aO ho25) zmX12_findsWhole zw1944 dX12_wholeValue_25 0 0 13 rfl rfl rfl rfl [0] rfl rfl [0] rfl (by decide) ⟨zsX12 , trivial⟩ rfl rfl rfl (Nat.le_of_ble_eq_true rfl) rfl rfl ⟨Nat.le_of_ble_eq_true rfl, Nat.le_of_ble_eq_true rfl⟩ ⟨Nat.le_of_ble_eq_true rfl, Nat.le_of_ble_eq_true rfl⟩ ?_
      refine z_if_ne (tgt := 35) X dX12_wholeValue_28 (by decide) (fun c28 => ?_) (fun c28 => ?_)
      · replace h := zif_f h c28
        refine z_iconst (v := (0 : Int32)) X dX12_wholeValue_35 rfl ?_
        exact z_at (pc2 := 36) (lv2 := [(0, .ref (aO 0)), (1, .int x1)]) (st2 := [.int (0 : Int32), .ref (aO 0)]) (ws2 := [wX12 (zcT C) aO o25.2]) rfl rfl rfl [0, 1] rfl (bX12_wholeValue_36 X hQ  h)
      · replace h := zif_t h c28
        refine z_iconst (v := (3 : Int32)) X dX12_wholeValue_31 rfl ?_
        refine z_goto (tgt := 36) X dX12_wholeValue_32 (by decide) ?_
        exact z_at (pc2 := 36) (lv2 := [(0, .ref (aO 0)), (1, .int x1)]) (st2 := [.int (3 : Int32), .ref (aO 0)]) (ws2 := [wX12 (zcT C) aO o25.2]) rfl rfl rfl [0, 1] rfl (bX12_wholeValue_36 X hQ  h)
    · replace h := zif_t h c17
      refine z_iconst (v := (2 : Int32)) X dX12_wholeValue_20 rfl ?_
      refine z_goto (tgt := 36) X dX12_wholeValue_21 (by decide) ?_
      exact z_at (pc2 := 36) (lv2 := [(0, .ref (aO 0)), (1, .int x1)]) (st2 := [.int (2 : Int32), .ref (aO 0)]) (ws2 := [wX12 (zcT C) aO sO]) rfl rfl rfl [0, 1] rfl (bX12_wholeValue_36 X hQ  h)
  · replace h := zif_t h c6
    refine z_iconst (v := (1 : Int32)) X dX12_wholeValue_9 rfl ?_
    refine z_goto (tgt := 36) X dX12_wholeValue_10 (by decide) ?_
    exact z_at (pc2 := 36) (lv2 := [(0, .ref (aO 0)), (1, .int x1)]) (st2 := [.int (1 : Int32), .ref (aO 0)]) (ws2 := [wX12 (zcT C) aO sO]) rfl rfl rfl [0, 1] rfl (bX12_wholeValue_36 X hQ  h)
theorem metX12_wholeValue (l : Launch) (D : va_G) (T : Nat → ClassId) (aO : Nat → Nat) {sO : zSt} {x1 : Int32} {out : Int32 × zSt} (hf : fX12_wholeValue sO x1 = some out) (sz : Nat) : Met l yX12_wholeValue (zws yX12_wholeValue cX12_wholeValue 4 (some .int)) rmX12_wholeValue (zPc D T [.ref (aO 0), .int x1] [wX12 T aO sO] sz) (zQi D out.1 [wX12 T aO out.2] (zA [wX12 T aO sO] sz)) 0 0 (zA [wX12 T aO sO] sz) :=
  zMet (D := D) (T := T) (av := [.ref (aO 0), .int x1]) (ws := fun T => [wX12 T aO sO]) (wm := fun T => [wX12 T aO sO]) (lv0 := [(0, .ref (aO 0)), (1, .int x1)]) [0] (Qc := fun D T A => zQi D out.1 [wX12 T aO out.2] A) (by decide +kernel) rfl (Nat.le_of_ble_eq_true rfl) rfl (fun C X hQ => bX12_wholeValue_0 X hQ hf) sz
