/-- int coefficientOf(int); of Tableaufloor$Text -/
abbrev rmX8_coefficientOf : Room := { frames := 0, cells := 0, slots := 0, locals := 0 }
def fX8_coefficientOf_23 (sO : zSt) (y0 : Int32) : Option (Int32) :=
  some (y0)
def fX8_coefficientOf_22 (sO : zSt) : Option (Int32) :=
  (fX8_coefficientOf_23 sO (0 : Int32))
def fX8_coefficientOf (sO : zSt) (x1 : Int32) : Option (Int32) :=
  (if x1 < 0 then
    (fX8_coefficientOf_22 sO)
  else
    (if (3 : Int32) ≤ x1 then
      (fX8_coefficientOf_22 sO)
    else
      (if zin x1 3 = true then
        (fX8_coefficientOf_23 sO (zga sO 1 (x1).toNatClampNeg)) else none)))
theorem bX8_coefficientOf_23 {C : zCtx} (X : zFx C cX8_coefficientOf 2 RX8 rmX8_coefficientOf (some .int)) {aO : Nat → Nat} {sO : zSt} {y0 : Int32} {out : Int32} (hQ : zHi C out [] 0 0) (h : fX8_coefficientOf_23 sO y0 = some out) : zG C 2 [] 0 0 [wX8 (zcT C) aO sO] 23 [] [.int y0] := by
  unfold fX8_coefficientOf_23 at h
  cases h
  exact z_iret X hQ dX8_coefficientOf_23 rfl [] rfl (by decide) (by decide)
theorem bX8_coefficientOf_22 {C : zCtx} (X : zFx C cX8_coefficientOf 2 RX8 rmX8_coefficientOf (some .int)) {aO : Nat → Nat} {sO : zSt} {out : Int32} (hQ : zHi C out [] 0 0) (h : fX8_coefficientOf_22 sO = some out) : zG C 2 [] 0 0 [wX8 (zcT C) aO sO] 22 [] [] := by
  unfold fX8_coefficientOf_22 at h
  refine z_iconst (v := (0 : Int32)) X dX8_coefficientOf_22 rfl ?_
  exact z_at (pc2 := 23) (lv2 := []) (st2 := [.int (0 : Int32)]) (ws2 := [wX8 (zcT C) aO sO]) rfl rfl rfl [] rfl (bX8_coefficientOf_23 X hQ  h)
theorem bX8_coefficientOf_0 {C : zCtx} (X : zFx C cX8_coefficientOf 2 RX8 rmX8_coefficientOf (some .int)) {aO : Nat → Nat} {sO : zSt} {x1 : Int32} {out : Int32} (hQ : zHi C out [] 0 0) (h : fX8_coefficientOf sO x1 = some out) : zG C 2 [] 0 0 [wX8 (zcT C) aO sO] 0 [(0, .ref (aO 0)), (1, .int x1)] [] := by
  unfold fX8_coefficientOf at h
  refine z_iload_n X dX8_coefficientOf_0 1 rfl ?_
  refine z_if_lt (tgt := 22) X dX8_coefficientOf_1 (by decide) (fun c1 => ?_) (fun c1 => ?_)
  · replace h := zif_t h c1
    exact z_at (pc2 := 22) (lv2 := []) (st2 := []) (ws2 := [wX8 (zcT C) aO sO]) rfl rfl rfl [] rfl (bX8_coefficientOf_22 X hQ  h)
  · replace h := zif_f h c1
    refine z_iload_n X dX8_coefficientOf_4 1 rfl ?_
    refine z_aload_n X dX8_coefficientOf_5 0 rfl ?_
    refine z_get (v := .ref (aO 2)) X 0 0 9 1 ziX8 rfl (by decide) zw108 rfl dX8_coefficientOf_6 rfl rfl rfl ?_
    refine z_alen (v := (3 : Int32)) X 0 2 1 rfl rfl dX8_coefficientOf_9 rfl rfl ?_
    refine z_icmp_ge (tgt := 22) X dX8_coefficientOf_10 (by decide) (fun c10 => ?_) (fun c10 => ?_)
    · replace h := zif_t h c10
      exact z_at (pc2 := 22) (lv2 := []) (st2 := []) (ws2 := [wX8 (zcT C) aO sO]) rfl rfl rfl [] rfl (bX8_coefficientOf_22 X hQ  h)
    · replace h := zif_f h c10
      refine z_aload_n X dX8_coefficientOf_13 0 rfl ?_
      refine z_get (v := .ref (aO 2)) X 0 0 9 1 ziX8 rfl (by decide) zw108 rfl dX8_coefficientOf_14 rfl rfl rfl ?_
      refine z_iload_n X dX8_coefficientOf_17 1 rfl ?_
      obtain ⟨g18, h⟩ := zgd_of h
      refine z_iald X 0 2 g18 dX8_coefficientOf_18 rfl rfl ?_
      refine z_goto (tgt := 23) X dX8_coefficientOf_19 (by decide) ?_
      exact z_at (pc2 := 23) (lv2 := []) (st2 := [.int (zga sO 1 (x1).toNatClampNeg)]) (ws2 := [wX8 (zcT C) aO sO]) rfl rfl rfl [] rfl (bX8_coefficientOf_23 X hQ  h)
theorem metX8_coefficientOf (l : Launch) (D : va_G) (T : Nat → ClassId) (aO : Nat → Nat) {sO : zSt} {x1 : Int32} {out : Int32} (hf : fX8_coefficientOf sO x1 = some out) (sz : Nat) : Met l yX8_coefficientOf (zws yX8_coefficientOf cX8_coefficientOf 2 (some .int)) rmX8_coefficientOf (zPc D T [.ref (aO 0), .int x1] [wX8 T aO sO] sz) (zQi D out [] (zA [] sz)) 0 0 (zA [] sz) :=
  zMet (D := D) (T := T) (av := [.ref (aO 0), .int x1]) (ws := fun T => [wX8 T aO sO]) (wm := fun T => []) (lv0 := [(0, .ref (aO 0)), (1, .int x1)]) [] (Qc := fun D T A => zQi D out [] A) (by decide +kernel) rfl (Nat.le_of_ble_eq_true rfl) rfl (fun C X hQ => bX8_coefficientOf_0 X hQ hf) sz
/-- private static boolean isDigit(char); of Tableaufloor$Text -/
abbrev rmX8_isDigit : Room := { frames := 0, cells := 0, slots := 0, locals := 0 }
def fX8_isDigit_17 (y0 : Int32) : Option (Int32) :=
  (if znar .boolean y0 = true then
    some (y0) else none)
def fX8_isDigit_16 : Option (Int32) :=
  (fX8_isDigit_17 (0 : Int32))
def fX8_isDigit (x0 : Int32) : Option (Int32) :=
  (if x0 < (48 : Int32) then
    (fX8_isDigit_16)
  else
    (if (57 : Int32) < x0 then
      (fX8_isDigit_16)
    else
      (fX8_isDigit_17 (1 : Int32))))
theorem bX8_isDigit_17 {C : zCtx} (X : zFx C cX8_isDigit 1 RX8 rmX8_isDigit (some .boolean)) {y0 : Int32} {out : Int32} (hQ : zHi C out [] 0 0) (h : fX8_isDigit_17 y0 = some out) : zG C 1 [] 0 0 [] 17 [] [.int y0] := by
  unfold fX8_isDigit_17 at h
  obtain ⟨g17, h⟩ := zgd_of h
  cases h
  exact z_nret X hQ g17 dX8_isDigit_17 rfl [] rfl (by decide) (by decide)
theorem bX8_isDigit_16 {C : zCtx} (X : zFx C cX8_isDigit 1 RX8 rmX8_isDigit (some .boolean)) {out : Int32} (hQ : zHi C out [] 0 0) (h : fX8_isDigit_16 = some out) : zG C 1 [] 0 0 [] 16 [] [] := by
  unfold fX8_isDigit_16 at h
  refine z_iconst (v := (0 : Int32)) X dX8_isDigit_16 rfl ?_
  exact z_at (pc2 := 17) (lv2 := []) (st2 := [.int (0 : Int32)]) (ws2 := []) rfl rfl rfl [] rfl (bX8_isDigit_17 X hQ  h)
theorem bX8_isDigit_0 {C : zCtx} (X : zFx C cX8_isDigit 1 RX8 rmX8_isDigit (some .boolean)) {x0 : Int32} {out : Int32} (hQ : zHi C out [] 0 0) (h : fX8_isDigit x0 = some out) : zG C 1 [] 0 0 [] 0 [(0, .int x0)] [] := by
  unfold fX8_isDigit at h
  refine z_iload_n X dX8_isDigit_0 0 rfl ?_
  refine z_bipush (v := (48 : Int32)) X dX8_isDigit_1 rfl ?_
  refine z_icmp_lt (tgt := 16) X dX8_isDigit_3 (by decide) (fun c3 => ?_) (fun c3 => ?_)
  · replace h := zif_t h c3
    exact z_at (pc2 := 16) (lv2 := []) (st2 := []) (ws2 := []) rfl rfl rfl [] rfl (bX8_isDigit_16 X hQ  h)
  · replace h := zif_f h c3
    refine z_iload_n X dX8_isDigit_6 0 rfl ?_
    refine z_bipush (v := (57 : Int32)) X dX8_isDigit_7 rfl ?_
    refine z_icmp_gt (tgt := 16) X dX8_isDigit_9 (by decide) (fun c9 => ?_) (fun c9 => ?_)
    · replace h := zif_t h c9
      exact z_at (pc2 := 16) (lv2 := []) (st2 := []) (ws2 := []) rfl rfl rfl [] rfl (bX8_isDigit_16 X hQ  h)
    · replace h := zif_f h c9
      refine z_iconst (v := (1 : Int32)) X dX8_isDigit_12 rfl ?_
      refine z_goto (tgt := 17) X dX8_isDigit_13 (by decide) ?_
      exact z_at (pc2 := 17) (lv2 := []) (st2 := [.int (1 : Int32)]) (ws2 := []) rfl rfl rfl [] rfl (bX8_isDigit_17 X hQ  h)
theorem metX8_isDigit (l : Launch) (D : va_G) (T : Nat → ClassId) {x0 : Int32} {out : Int32} (hf : fX8_isDigit x0 = some out) (sz : Nat) : Met l yX8_isDigit (zws yX8_isDigit cX8_isDigit 1 (some .boolean)) rmX8_isDigit (zPc D T [.int x0] [] sz) (zQi D out [] (zA [] sz)) 0 0 (zA [] sz) :=
  zMet (D := D) (T := T) (av := [.int x0]) (ws := fun T => []) (wm := fun T => []) (lv0 := [(0, .int x0)]) [] (Qc := fun D T A => zQi D out [] A) (by decide +kernel) rfl (Nat.le_of_ble_eq_true rfl) rfl (fun C X hQ => bX8_isDigit_0 X hQ hf) sz
/-- static boolean canBeTyped(char); of Tableaufloor$Text -/
abbrev rmX8_canBeTyped : Room := { frames := 1, cells := 0, slots := 0, locals := 20 }
def fX8_canBeTyped_54 (y0 : Int32) : Option (Int32) :=
  (if znar .boolean y0 = true then
    some (y0) else none)
def fX8_canBeTyped_49 : Option (Int32) :=
  (fX8_canBeTyped_54 (1 : Int32))
def fX8_canBeTyped_12 (x0 : Int32) : Option (Int32) :=
  ((fX8_isDigit x0).bind (fun o13 =>
    (if o13 = 0 then
    (if x0 = (43 : Int32) then
      (fX8_canBeTyped_49)
    else
      (if x0 = (45 : Int32) then
        (fX8_canBeTyped_49)
      else
        (if x0 = (60 : Int32) then
          (fX8_canBeTyped_49)
        else
          (if x0 = (62 : Int32) then
            (fX8_canBeTyped_49)
          else
            (if x0 = (61 : Int32) then
              (fX8_canBeTyped_49)
            else
              (fX8_canBeTyped_54 (0 : Int32)))))))
  else
    (fX8_canBeTyped_49))))
def fX8_canBeTyped (x0 : Int32) : Option (Int32) :=
  (if x0 < (97 : Int32) then
    (fX8_canBeTyped_12 x0)
  else
    (if x0 ≤ (122 : Int32) then
      (fX8_canBeTyped_49)
    else
      (fX8_canBeTyped_12 x0)))
theorem bX8_canBeTyped_54 {C : zCtx} (X : zFx C cX8_canBeTyped 1 RX8 rmX8_canBeTyped (some .boolean)) {y0 : Int32} {out : Int32} (hQ : zHi C out [] 0 0) (h : fX8_canBeTyped_54 y0 = some out) : zG C 1 [] 0 0 [] 54 [] [.int y0] := by
  unfold fX8_canBeTyped_54 at h
  obtain ⟨g54, h⟩ := zgd_of h
  cases h
  exact z_nret X hQ g54 dX8_canBeTyped_54 rfl [] rfl (by decide) (by decide)
theorem bX8_canBeTyped_49 {C : zCtx} (X : zFx C cX8_canBeTyped 1 RX8 rmX8_canBeTyped (some .boolean)) {out : Int32} (hQ : zHi C out [] 0 0) (h : fX8_canBeTyped_49 = some out) : zG C 1 [] 0 0 [] 49 [] [] := by
  unfold fX8_canBeTyped_49 at h
  refine z_iconst (v := (1 : Int32)) X dX8_canBeTyped_49 rfl ?_
  refine z_goto (tgt := 54) X dX8_canBeTyped_50 (by decide) ?_
  exact z_at (pc2 := 54) (lv2 := []) (st2 := [.int (1 : Int32)]) (ws2 := []) rfl rfl rfl [] rfl (bX8_canBeTyped_54 X hQ  h)
theorem bX8_canBeTyped_12 {C : zCtx} (X : zFx C cX8_canBeTyped 1 RX8 rmX8_canBeTyped (some .boolean)) {x0 : Int32} {out : Int32} (hQ : zHi C out [] 0 0) (h : fX8_canBeTyped_12 x0 = some out) : zG C 1 [] 0 0 [] 12 [(0, .int x0)] [] := by
  unfold fX8_canBeTyped_12 at h
  refine z_iload_n X dX8_canBeTyped_12 0 rfl ?_
  obtain ⟨o13, ho13, h⟩ := zbind_of h
  refine z_callSi (st := []) (ws2 := []) X (metX8_isDigit (zcl C) (zcD C) (zcT C)  ho13) zmX8_isDigit zw452 dX8_canBeTyped_13 [] rfl rfl [] rfl (by decide) trivial rfl rfl rfl (Nat.le_of_ble_eq_true rfl) rfl rfl ⟨Nat.le_of_ble_eq_true rfl, Nat.le_of_ble_eq_true rfl⟩ ⟨Nat.le_of_ble_eq_true rfl, Nat.le_of_ble_eq_true rfl⟩ ?_
  refine z_if_ne (tgt := 49) X dX8_canBeTyped_16 (by decide) (fun c16 => ?_) (fun c16 => ?_)
  · replace h := zif_f h c16
    exact z_at (pc2 := 49) (lv2 := []) (st2 := []) (ws2 := []) rfl rfl rfl [] rfl (bX8_canBeTyped_49 X hQ  h)
  · replace h := zif_t h c16
    refine z_iload_n X dX8_canBeTyped_19 0 rfl ?_
    refine z_bipush (v := (43 : Int32)) X dX8_canBeTyped_20 rfl ?_
    refine z_icmp_eq (tgt := 49) X dX8_canBeTyped_22 (by decide) (fun c22 => ?_) (fun c22 => ?_)
    · replace h := zif_t h c22
      exact z_at (pc2 := 49) (lv2 := []) (st2 := []) (ws2 := []) rfl rfl rfl [] rfl (bX8_canBeTyped_49 X hQ  h)
    · replace h := zif_f h c22
      refine z_iload_n X dX8_canBeTyped_25 0 rfl ?_
      refine z_bipush (v := (45 : Int32)) X dX8_canBeTyped_26 rfl ?_
      refine z_icmp_eq (tgt := 49) X dX8_canBeTyped_28 (by decide) (fun c28 => ?_) (fun c28 => ?_)
      · replace h := zif_t h c28
        exact z_at (pc2 := 49) (lv2 := []) (st2 := []) (ws2 := []) rfl rfl rfl [] rfl (bX8_canBeTyped_49 X hQ  h)
      · replace h := zif_f h c28
        refine z_iload_n X dX8_canBeTyped_31 0 rfl ?_
        refine z_bipush (v := (60 : Int32)) X dX8_canBeTyped_32 rfl ?_
        refine z_icmp_eq (tgt := 49) X dX8_canBeTyped_34 (by decide) (fun c34 => ?_) (fun c34 => ?_)
        · replace h := zif_t h c34
          exact z_at (pc2 := 49) (lv2 := []) (st2 := []) (ws2 := []) rfl rfl rfl [] rfl (bX8_canBeTyped_49 X hQ  h)
        · replace h := zif_f h c34
          refine z_iload_n X dX8_canBeTyped_37 0 rfl ?_
          refine z_bipush (v := (62 : Int32)) X dX8_canBeTyped_38 rfl ?_
          refine z_icmp_eq (tgt := 49) X dX8_canBeTyped_40 (by decide) (fun c40 => ?_) (fun c40 => ?_)
          · replace h := zif_t h c40
            exact z_at (pc2 := 49) (lv2 := []) (st2 := []) (ws2 := []) rfl rfl rfl [] rfl (bX8_canBeTyped_49 X hQ  h)
          · replace h := zif_f h c40
            refine z_iload_n X dX8_canBeTyped_43 0 rfl ?_
            refine z_bipush (v := (61 : Int32)) X dX8_canBeTyped_44 rfl ?_
            refine z_icmp_ne (tgt := 53) X dX8_canBeTyped_46 (by decide) (fun c46 => ?_) (fun c46 => ?_)
            · replace h := zif_f h c46
              refine z_iconst (v := (0 : Int32)) X dX8_canBeTyped_53 rfl ?_
              exact z_at (pc2 := 54) (lv2 := []) (st2 := [.int (0 : Int32)]) (ws2 := []) rfl rfl rfl [] rfl (bX8_canBeTyped_54 X hQ  h)
            · replace h := zif_t h c46
              exact z_at (pc2 := 49) (lv2 := []) (st2 := []) (ws2 := []) rfl rfl rfl [] rfl (bX8_canBeTyped_49 X hQ  h)
theorem bX8_canBeTyped_0 {C : zCtx} (X : zFx C cX8_canBeTyped 1 RX8 rmX8_canBeTyped (some .boolean)) {x0 : Int32} {out : Int32} (hQ : zHi C out [] 0 0) (h : fX8_canBeTyped x0 = some out) : zG C 1 [] 0 0 [] 0 [(0, .int x0)] [] := by
  unfold fX8_canBeTyped at h
  refine z_iload_n X dX8_canBeTyped_0 0 rfl ?_
  refine z_bipush (v := (97 : Int32)) X dX8_canBeTyped_1 rfl ?_
  refine z_icmp_lt (tgt := 12) X dX8_canBeTyped_3 (by decide) (fun c3 => ?_) (fun c3 => ?_)
  · replace h := zif_t h c3
    exact z_at (pc2 := 12) (lv2 := [(0, .int x0)]) (st2 := []) (ws2 := []) rfl rfl rfl [0] rfl (bX8_canBeTyped_12 X hQ  h)
  · replace h := zif_f h c3
    refine z_iload_n X dX8_canBeTyped_6 0 rfl ?_
    refine z_bipush (v := (122 : Int32)) X dX8_canBeTyped_7 rfl ?_
    refine z_icmp_le (tgt := 49) X dX8_canBeTyped_9 (by decide) (fun c9 => ?_) (fun c9 => ?_)
    · replace h := zif_t h c9
      exact z_at (pc2 := 49) (lv2 := []) (st2 := []) (ws2 := []) rfl rfl rfl [] rfl (bX8_canBeTyped_49 X hQ  h)
    · replace h := zif_f h c9
      exact z_at (pc2 := 12) (lv2 := [(0, .int x0)]) (st2 := []) (ws2 := []) rfl rfl rfl [0] rfl (bX8_canBeTyped_12 X hQ  h)
theorem metX8_canBeTyped (l : Launch) (D : va_G) (T : Nat → ClassId) {x0 : Int32} {out : Int32} (hf : fX8_canBeTyped x0 = some out) (sz : Nat) : Met l yX8_canBeTyped (zws yX8_canBeTyped cX8_canBeTyped 1 (some .boolean)) rmX8_canBeTyped (zPc D T [.int x0] [] sz) (zQi D out [] (zA [] sz)) 0 0 (zA [] sz) :=
  zMet (D := D) (T := T) (av := [.int x0]) (ws := fun T => []) (wm := fun T => []) (lv0 := [(0, .int x0)]) [] (Qc := fun D T A => zQi D out [] A) (by decide +kernel) rfl (Nat.le_of_ble_eq_true rfl) rfl (fun C X hQ => bX8_canBeTyped_0 X hQ hf) sz
/-- int append(char); of Tableaufloor$Text -/
abbrev rmX8_append : Room := { frames := 0, cells := 0, slots := 0, locals := 0 }
def fX8_append_39 (sO : zSt) : Option (Int32 × zSt) :=
  some ((zgi sO 2), sO)
def fX8_append (sO : zSt) (x1 : Int32) : Option (Int32 × zSt) :=
  (if (zgi sO 2) < 0 then
    (fX8_append_39 sO)
  else
    (if (30 : Int32) ≤ (zgi sO 2) then
      (fX8_append_39 sO)
    else
      (if zin (zgi sO 2) 30 = true then
        (zlet (zsa sO 0 (upd (zga sO 0) ((zgi sO 2)).toNatClampNeg (vp_nar .char x1))) (fun sO28 =>
        (zlet (zsi sO28 2 ((zgi sO28 2) + (1 : Int32))) (fun sO36 =>
        (fX8_append_39 sO36))))) else none)))
theorem bX8_append_39 {C : zCtx} (X : zFx C cX8_append 2 RX8 rmX8_append (some .int)) {aO : Nat → Nat} {sO : zSt} {out : Int32 × zSt} (hQ : zHi C out.1 [wX8 (zcT C) aO out.2] 0 0) (h : fX8_append_39 sO = some out) : zG C 2 [0] 0 0 [wX8 (zcT C) aO sO] 39 [(0, .ref (aO 0))] [] := by
  unfold fX8_append_39 at h
  refine z_aload_n X dX8_append_39 0 rfl ?_
  refine z_get (v := .int (zgi sO 2)) X 0 0 9 2 ziX8 rfl (by decide) zw109 rfl dX8_append_40 rfl rfl rfl ?_
  cases h
  exact z_iret X hQ dX8_append_43 rfl [0] rfl (by decide) (by decide)
theorem bX8_append_0 {C : zCtx} (X : zFx C cX8_append 2 RX8 rmX8_append (some .int)) {aO : Nat → Nat} {sO : zSt} {x1 : Int32} {out : Int32 × zSt} (hQ : zHi C out.1 [wX8 (zcT C) aO out.2] 0 0) (h : fX8_append sO x1 = some out) : zG C 2 [0] 0 0 [wX8 (zcT C) aO sO] 0 [(0, .ref (aO 0)), (1, .int x1)] [] := by
  unfold fX8_append at h
  refine z_aload_n X dX8_append_0 0 rfl ?_
  refine z_get (v := .int (zgi sO 2)) X 0 0 9 2 ziX8 rfl (by decide) zw109 rfl dX8_append_1 rfl rfl rfl ?_
  refine z_if_lt (tgt := 39) X dX8_append_4 (by decide) (fun c4 => ?_) (fun c4 => ?_)
  · replace h := zif_t h c4
    exact z_at (pc2 := 39) (lv2 := [(0, .ref (aO 0))]) (st2 := []) (ws2 := [wX8 (zcT C) aO sO]) rfl rfl rfl [0] rfl (bX8_append_39 X hQ  h)
  · replace h := zif_f h c4
    refine z_aload_n X dX8_append_7 0 rfl ?_
    refine z_get (v := .int (zgi sO 2)) X 0 0 9 2 ziX8 rfl (by decide) zw109 rfl dX8_append_8 rfl rfl rfl ?_
    refine z_aload_n X dX8_append_11 0 rfl ?_
    refine z_get (v := .ref (aO 1)) X 0 0 9 0 ziX8 rfl (by decide) zw107 rfl dX8_append_12 rfl rfl rfl ?_
    refine z_alen (v := (30 : Int32)) X 0 1 0 rfl rfl dX8_append_15 rfl rfl ?_
    refine z_icmp_ge (tgt := 39) X dX8_append_16 (by decide) (fun c16 => ?_) (fun c16 => ?_)
    · replace h := zif_t h c16
      exact z_at (pc2 := 39) (lv2 := [(0, .ref (aO 0))]) (st2 := []) (ws2 := [wX8 (zcT C) aO sO]) rfl rfl rfl [0] rfl (bX8_append_39 X hQ  h)
    · replace h := zif_f h c16
      refine z_aload_n X dX8_append_19 0 rfl ?_
      refine z_get (v := .ref (aO 1)) X 0 0 9 0 ziX8 rfl (by decide) zw107 rfl dX8_append_20 rfl rfl rfl ?_
      refine z_aload_n X dX8_append_23 0 rfl ?_
      refine z_get (v := .int (zgi sO 2)) X 0 0 9 2 ziX8 rfl (by decide) zw109 rfl dX8_append_24 rfl rfl rfl ?_
      refine z_iload_n X dX8_append_27 1 rfl ?_
      obtain ⟨g28, h⟩ := zgd_of h
      obtain ⟨sO28, esO28, h⟩ := zlet_of h
      refine z_cast (ws2 := [wX8 (zcT C) aO sO28]) X 0 1 g28 dX8_append_28 rfl rfl (by decide) (w2 := wX8 (zcT C) aO sO28) (by rw [esO28]; rfl) rfl ?_
      refine z_aload_n X dX8_append_29 0 rfl ?_
      refine z_dup X dX8_append_30 rfl ?_
      refine z_get (v := .int (zgi sO28 2)) X 0 0 9 2 ziX8 rfl (by decide) zw109 rfl dX8_append_31 rfl rfl rfl ?_
      refine z_iconst (v := (1 : Int32)) X dX8_append_34 rfl ?_
      refine z_iadd X dX8_append_35 ?_
      obtain ⟨sO36, esO36, h⟩ := zlet_of h
      refine z_put (ws2 := [wX8 (zcT C) aO sO36]) X 0 0 9 2 ziX8 rfl tyX8 tyX8_ok nmX8 (by decide) zw109 rfl rfl (ty := .int) (by decide +kernel) rfl rfl (by show 2 < 10; decide) dX8_append_36 rfl rfl (by decide) (w2 := wX8 (zcT C) aO sO36) (by rw [esO36]; rfl) rfl ?_
      exact z_at (pc2 := 39) (lv2 := [(0, .ref (aO 0))]) (st2 := []) (ws2 := [wX8 (zcT C) aO sO36]) rfl rfl rfl [0] rfl (bX8_append_39 X hQ  h)
theorem metX8_append (l : Launch) (D : va_G) (T : Nat → ClassId) (aO : Nat → Nat) {sO : zSt} {x1 : Int32} {out : Int32 × zSt} (hf : fX8_append sO x1 = some out) (sz : Nat) : Met l yX8_append (zws yX8_append cX8_append 2 (some .int)) rmX8_append (zPc D T [.ref (aO 0), .int x1] [wX8 T aO sO] sz) (zQi D out.1 [wX8 T aO out.2] (zA [wX8 T aO sO] sz)) 0 0 (zA [wX8 T aO sO] sz) :=
  zMet (D := D) (T := T) (av := [.ref (aO 0), .int x1]) (ws := fun T => [wX8 T aO sO]) (wm := fun T => [wX8 T aO sO]) (lv0 := [(0, .ref (aO 0)), (1, .int x1)]) [0] (Qc := fun D T A => zQi D out.1 [wX8 T aO out.2] A) (by decide +kernel) rfl (Nat.le_of_ble_eq_true rfl) rfl (fun C X hQ => bX8_append_0 X hQ hf) sz
/-- boolean beginsAsAim(); of Tableaufloor$Text -/
abbrev rmX8_beginsAsAim : Room := { frames := 0, cells := 0, slots := 0, locals := 0 }
def fX8_beginsAsAim_31 (sO : zSt) (y0 : Int32) : Option (Int32) :=
  (if znar .boolean y0 = true then
    some (y0) else none)
def fX8_beginsAsAim_30 (sO : zSt) : Option (Int32) :=
  (fX8_beginsAsAim_31 sO (0 : Int32))
def fX8_beginsAsAim (sO : zSt) : Option (Int32) :=
  (if (zgi sO 2) ≤ 0 then
    (fX8_beginsAsAim_30 sO)
  else
    (if (30 : Int32) ≤ 0 then
      (fX8_beginsAsAim_30 sO)
    else
      (if zin (0 : Int32) 30 = true then
        (if (zga sO 0 ((0 : Int32)).toNatClampNeg) = (109 : Int32) then
        (fX8_beginsAsAim_31 sO (1 : Int32))
      else
        (fX8_beginsAsAim_30 sO)) else none)))
theorem bX8_beginsAsAim_31 {C : zCtx} (X : zFx C cX8_beginsAsAim 1 RX8 rmX8_beginsAsAim (some .boolean)) {aO : Nat → Nat} {sO : zSt} {y0 : Int32} {out : Int32} (hQ : zHi C out [] 0 0) (h : fX8_beginsAsAim_31 sO y0 = some out) : zG C 1 [] 0 0 [wX8 (zcT C) aO sO] 31 [] [.int y0] := by
  unfold fX8_beginsAsAim_31 at h
  obtain ⟨g31, h⟩ := zgd_of h
  cases h
  exact z_nret X hQ g31 dX8_beginsAsAim_31 rfl [] rfl (by decide) (by decide)
theorem bX8_beginsAsAim_30 {C : zCtx} (X : zFx C cX8_beginsAsAim 1 RX8 rmX8_beginsAsAim (some .boolean)) {aO : Nat → Nat} {sO : zSt} {out : Int32} (hQ : zHi C out [] 0 0) (h : fX8_beginsAsAim_30 sO = some out) : zG C 1 [] 0 0 [wX8 (zcT C) aO sO] 30 [] [] := by
  unfold fX8_beginsAsAim_30 at h
  refine z_iconst (v := (0 : Int32)) X dX8_beginsAsAim_30 rfl ?_
  exact z_at (pc2 := 31) (lv2 := []) (st2 := [.int (0 : Int32)]) (ws2 := [wX8 (zcT C) aO sO]) rfl rfl rfl [] rfl (bX8_beginsAsAim_31 X hQ  h)
theorem bX8_beginsAsAim_0 {C : zCtx} (X : zFx C cX8_beginsAsAim 1 RX8 rmX8_beginsAsAim (some .boolean)) {aO : Nat → Nat} {sO : zSt} {out : Int32} (hQ : zHi C out [] 0 0) (h : fX8_beginsAsAim sO = some out) : zG C 1 [] 0 0 [wX8 (zcT C) aO sO] 0 [(0, .ref (aO 0))] [] := by
  unfold fX8_beginsAsAim at h
  refine z_aload_n X dX8_beginsAsAim_0 0 rfl ?_
  refine z_get (v := .int (zgi sO 2)) X 0 0 9 2 ziX8 rfl (by decide) zw109 rfl dX8_beginsAsAim_1 rfl rfl rfl ?_
  refine z_if_le (tgt := 30) X dX8_beginsAsAim_4 (by decide) (fun c4 => ?_) (fun c4 => ?_)
  · replace h := zif_t h c4
    exact z_at (pc2 := 30) (lv2 := []) (st2 := []) (ws2 := [wX8 (zcT C) aO sO]) rfl rfl rfl [] rfl (bX8_beginsAsAim_30 X hQ  h)
  · replace h := zif_f h c4
    refine z_aload_n X dX8_beginsAsAim_7 0 rfl ?_
    refine z_get (v := .ref (aO 1)) X 0 0 9 0 ziX8 rfl (by decide) zw107 rfl dX8_beginsAsAim_8 rfl rfl rfl ?_
    refine z_alen (v := (30 : Int32)) X 0 1 0 rfl rfl dX8_beginsAsAim_11 rfl rfl ?_
    refine z_if_le (tgt := 30) X dX8_beginsAsAim_12 (by decide) (fun c12 => ?_) (fun c12 => ?_)
    · replace h := zif_t h c12
      exact z_at (pc2 := 30) (lv2 := []) (st2 := []) (ws2 := [wX8 (zcT C) aO sO]) rfl rfl rfl [] rfl (bX8_beginsAsAim_30 X hQ  h)
    · replace h := zif_f h c12
      refine z_aload_n X dX8_beginsAsAim_15 0 rfl ?_
      refine z_get (v := .ref (aO 1)) X 0 0 9 0 ziX8 rfl (by decide) zw107 rfl dX8_beginsAsAim_16 rfl rfl rfl ?_
      refine z_iconst (v := (0 : Int32)) X dX8_beginsAsAim_19 rfl ?_
      obtain ⟨g20, h⟩ := zgd_of h
      refine z_cald X 0 1 g20 dX8_beginsAsAim_20 rfl rfl ?_
      refine z_bipush (v := (109 : Int32)) X dX8_beginsAsAim_21 rfl ?_
      refine z_icmp_ne (tgt := 30) X dX8_beginsAsAim_23 (by decide) (fun c23 => ?_) (fun c23 => ?_)
      · replace h := zif_f h c23
        exact z_at (pc2 := 30) (lv2 := []) (st2 := []) (ws2 := [wX8 (zcT C) aO sO]) rfl rfl rfl [] rfl (bX8_beginsAsAim_30 X hQ  h)
      · replace h := zif_t h c23
        refine z_iconst (v := (1 : Int32)) X dX8_beginsAsAim_26 rfl ?_
        refine z_goto (tgt := 31) X dX8_beginsAsAim_27 (by decide) ?_
        exact z_at (pc2 := 31) (lv2 := []) (st2 := [.int (1 : Int32)]) (ws2 := [wX8 (zcT C) aO sO]) rfl rfl rfl [] rfl (bX8_beginsAsAim_31 X hQ  h)
theorem metX8_beginsAsAim (l : Launch) (D : va_G) (T : Nat → ClassId) (aO : Nat → Nat) {sO : zSt} {out : Int32} (hf : fX8_beginsAsAim sO = some out) (sz : Nat) : Met l yX8_beginsAsAim (zws yX8_beginsAsAim cX8_beginsAsAim 1 (some .boolean)) rmX8_beginsAsAim (zPc D T [.ref (aO 0)] [wX8 T aO sO] sz) (zQi D out [] (zA [] sz)) 0 0 (zA [] sz) :=
  zMet (D := D) (T := T) (av := [.ref (aO 0)]) (ws := fun T => [wX8 T aO sO]) (wm := fun T => []) (lv0 := [(0, .ref (aO 0))]) [] (Qc := fun D T A => zQi D out [] A) (by decide +kernel) rfl (Nat.le_of_ble_eq_true rfl) rfl (fun C X hQ => bX8_beginsAsAim_0 X hQ hf) sz
/-- boolean hasFault(); of Tableaufloor$Text -/
abbrev rmX8_hasFault : Room := { frames := 0, cells := 0, slots := 0, locals := 0 }
def fX8_hasFault_14 (sO : zSt) (y0 : Int32) : Option (Int32) :=
  (if znar .boolean y0 = true then
    some (y0) else none)
def fX8_hasFault (sO : zSt) : Option (Int32) :=
  (if (zgi sO 5) = (45 : Int32) then
    (fX8_hasFault_14 sO (0 : Int32))
  else
    (fX8_hasFault_14 sO (1 : Int32)))
theorem bX8_hasFault_14 {C : zCtx} (X : zFx C cX8_hasFault 1 RX8 rmX8_hasFault (some .boolean)) {aO : Nat → Nat} {sO : zSt} {y0 : Int32} {out : Int32} (hQ : zHi C out [] 0 0) (h : fX8_hasFault_14 sO y0 = some out) : zG C 1 [] 0 0 [wX8 (zcT C) aO sO] 14 [] [.int y0] := by
  unfold fX8_hasFault_14 at h
  obtain ⟨g14, h⟩ := zgd_of h
  cases h
  exact z_nret X hQ g14 dX8_hasFault_14 rfl [] rfl (by decide) (by decide)
theorem bX8_hasFault_0 {C : zCtx} (X : zFx C cX8_hasFault 1 RX8 rmX8_hasFault (some .boolean)) {aO : Nat → Nat} {sO : zSt} {out : Int32} (hQ : zHi C out [] 0 0) (h : fX8_hasFault sO = some out) : zG C 1 [] 0 0 [wX8 (zcT C) aO sO] 0 [(0, .ref (aO 0))] [] := by
  unfold fX8_hasFault at h
  refine z_aload_n X dX8_hasFault_0 0 rfl ?_
  refine z_get (v := .int (zgi sO 5)) X 0 0 9 5 ziX8 rfl (by decide) zw113 rfl dX8_hasFault_1 rfl rfl rfl ?_
  refine z_bipush (v := (45 : Int32)) X dX8_hasFault_4 rfl ?_
  refine z_icmp_eq (tgt := 13) X dX8_hasFault_6 (by decide) (fun c6 => ?_) (fun c6 => ?_)
  · replace h := zif_t h c6
    refine z_iconst (v := (0 : Int32)) X dX8_hasFault_13 rfl ?_
    exact z_at (pc2 := 14) (lv2 := []) (st2 := [.int (0 : Int32)]) (ws2 := [wX8 (zcT C) aO sO]) rfl rfl rfl [] rfl (bX8_hasFault_14 X hQ  h)
  · replace h := zif_f h c6
    refine z_iconst (v := (1 : Int32)) X dX8_hasFault_9 rfl ?_
    refine z_goto (tgt := 14) X dX8_hasFault_10 (by decide) ?_
    exact z_at (pc2 := 14) (lv2 := []) (st2 := [.int (1 : Int32)]) (ws2 := [wX8 (zcT C) aO sO]) rfl rfl rfl [] rfl (bX8_hasFault_14 X hQ  h)
theorem metX8_hasFault (l : Launch) (D : va_G) (T : Nat → ClassId) (aO : Nat → Nat) {sO : zSt} {out : Int32} (hf : fX8_hasFault sO = some out) (sz : Nat) : Met l yX8_hasFault (zws yX8_hasFault cX8_hasFault 1 (some .boolean)) rmX8_hasFault (zPc D T [.ref (aO 0)] [wX8 T aO sO] sz) (zQi D out [] (zA [] sz)) 0 0 (zA [] sz) :=
  zMet (D := D) (T := T) (av := [.ref (aO 0)]) (ws := fun T => [wX8 T aO sO]) (wm := fun T => []) (lv0 := [(0, .ref (aO 0))]) [] (Qc := fun D T A => zQi D out [] A) (by decide +kernel) rfl (Nat.le_of_ble_eq_true rfl) rfl (fun C X hQ => bX8_hasFault_0 X hQ hf) sz
/-- private char here(); of Tableaufloor$Text -/
abbrev rmX8_here : Room := { frames := 0, cells := 0, slots := 0, locals := 0 }
def fX8_here_43 (sO : zSt) (y0 : Int32) : Option (Int32) :=
  (if znar .char y0 = true then
    some (y0) else none)
def fX8_here_42 (sO : zSt) : Option (Int32) :=
  (fX8_here_43 sO (0 : Int32))
def fX8_here (sO : zSt) : Option (Int32) :=
  (if (zgi sO 4) < 0 then
    (fX8_here_42 sO)
  else
    (if (zgi sO 2) ≤ (zgi sO 4) then
      (fX8_here_42 sO)
    else
      (if (30 : Int32) ≤ (zgi sO 4) then
        (fX8_here_42 sO)
      else
        (if zin (zgi sO 4) 30 = true then
          (fX8_here_43 sO (zga sO 0 ((zgi sO 4)).toNatClampNeg)) else none))))
theorem bX8_here_43 {C : zCtx} (X : zFx C cX8_here 1 RX8 rmX8_here (some .char)) {aO : Nat → Nat} {sO : zSt} {y0 : Int32} {out : Int32} (hQ : zHi C out [] 0 0) (h : fX8_here_43 sO y0 = some out) : zG C 1 [] 0 0 [wX8 (zcT C) aO sO] 43 [] [.int y0] := by
  unfold fX8_here_43 at h
  obtain ⟨g43, h⟩ := zgd_of h
  cases h
  exact z_nret X hQ g43 dX8_here_43 rfl [] rfl (by decide) (by decide)
theorem bX8_here_42 {C : zCtx} (X : zFx C cX8_here 1 RX8 rmX8_here (some .char)) {aO : Nat → Nat} {sO : zSt} {out : Int32} (hQ : zHi C out [] 0 0) (h : fX8_here_42 sO = some out) : zG C 1 [] 0 0 [wX8 (zcT C) aO sO] 42 [] [] := by
  unfold fX8_here_42 at h
  refine z_iconst (v := (0 : Int32)) X dX8_here_42 rfl ?_
  exact z_at (pc2 := 43) (lv2 := []) (st2 := [.int (0 : Int32)]) (ws2 := [wX8 (zcT C) aO sO]) rfl rfl rfl [] rfl (bX8_here_43 X hQ  h)
theorem bX8_here_0 {C : zCtx} (X : zFx C cX8_here 1 RX8 rmX8_here (some .char)) {aO : Nat → Nat} {sO : zSt} {out : Int32} (hQ : zHi C out [] 0 0) (h : fX8_here sO = some out) : zG C 1 [] 0 0 [wX8 (zcT C) aO sO] 0 [(0, .ref (aO 0))] [] := by
  unfold fX8_here at h
  refine z_aload_n X dX8_here_0 0 rfl ?_
  refine z_get (v := .int (zgi sO 4)) X 0 0 9 4 ziX8 rfl (by decide) zw112 rfl dX8_here_1 rfl rfl rfl ?_
  refine z_if_lt (tgt := 42) X dX8_here_4 (by decide) (fun c4 => ?_) (fun c4 => ?_)
  · replace h := zif_t h c4
    exact z_at (pc2 := 42) (lv2 := []) (st2 := []) (ws2 := [wX8 (zcT C) aO sO]) rfl rfl rfl [] rfl (bX8_here_42 X hQ  h)
  · replace h := zif_f h c4
    refine z_aload_n X dX8_here_7 0 rfl ?_
    refine z_get (v := .int (zgi sO 4)) X 0 0 9 4 ziX8 rfl (by decide) zw112 rfl dX8_here_8 rfl rfl rfl ?_
    refine z_aload_n X dX8_here_11 0 rfl ?_
    refine z_get (v := .int (zgi sO 2)) X 0 0 9 2 ziX8 rfl (by decide) zw109 rfl dX8_here_12 rfl rfl rfl ?_
    refine z_icmp_ge (tgt := 42) X dX8_here_15 (by decide) (fun c15 => ?_) (fun c15 => ?_)
    · replace h := zif_t h c15
      exact z_at (pc2 := 42) (lv2 := []) (st2 := []) (ws2 := [wX8 (zcT C) aO sO]) rfl rfl rfl [] rfl (bX8_here_42 X hQ  h)
    · replace h := zif_f h c15
      refine z_aload_n X dX8_here_18 0 rfl ?_
      refine z_get (v := .int (zgi sO 4)) X 0 0 9 4 ziX8 rfl (by decide) zw112 rfl dX8_here_19 rfl rfl rfl ?_
      refine z_aload_n X dX8_here_22 0 rfl ?_
      refine z_get (v := .ref (aO 1)) X 0 0 9 0 ziX8 rfl (by decide) zw107 rfl dX8_here_23 rfl rfl rfl ?_
      refine z_alen (v := (30 : Int32)) X 0 1 0 rfl rfl dX8_here_26 rfl rfl ?_
      refine z_icmp_ge (tgt := 42) X dX8_here_27 (by decide) (fun c27 => ?_) (fun c27 => ?_)
      · replace h := zif_t h c27
        exact z_at (pc2 := 42) (lv2 := []) (st2 := []) (ws2 := [wX8 (zcT C) aO sO]) rfl rfl rfl [] rfl (bX8_here_42 X hQ  h)
      · replace h := zif_f h c27
        refine z_aload_n X dX8_here_30 0 rfl ?_
        refine z_get (v := .ref (aO 1)) X 0 0 9 0 ziX8 rfl (by decide) zw107 rfl dX8_here_31 rfl rfl rfl ?_
        refine z_aload_n X dX8_here_34 0 rfl ?_
        refine z_get (v := .int (zgi sO 4)) X 0 0 9 4 ziX8 rfl (by decide) zw112 rfl dX8_here_35 rfl rfl rfl ?_
        obtain ⟨g38, h⟩ := zgd_of h
        refine z_cald X 0 1 g38 dX8_here_38 rfl rfl ?_
        refine z_goto (tgt := 43) X dX8_here_39 (by decide) ?_
        exact z_at (pc2 := 43) (lv2 := []) (st2 := [.int (zga sO 0 ((zgi sO 4)).toNatClampNeg)]) (ws2 := [wX8 (zcT C) aO sO]) rfl rfl rfl [] rfl (bX8_here_43 X hQ  h)
theorem metX8_here (l : Launch) (D : va_G) (T : Nat → ClassId) (aO : Nat → Nat) {sO : zSt} {out : Int32} (hf : fX8_here sO = some out) (sz : Nat) : Met l yX8_here (zws yX8_here cX8_here 1 (some .char)) rmX8_here (zPc D T [.ref (aO 0)] [wX8 T aO sO] sz) (zQi D out [] (zA [] sz)) 0 0 (zA [] sz) :=
  zMet (D := D) (T := T) (av := [.ref (aO 0)]) (ws := fun T => [wX8 T aO sO]) (wm := fun T => []) (lv0 := [(0, .ref (aO 0))]) [] (Qc := fun D T A => zQi D out [] A) (by decide +kernel) rfl (Nat.le_of_ble_eq_true rfl) rfl (fun C X hQ => bX8_here_0 X hQ hf) sz
/-- private boolean takes(char); of Tableaufloor$Text -/
abbrev rmX8_takes : Room := { frames := 1, cells := 0, slots := 0, locals := 20 }
def fX8_takes_35 (sO : zSt) (x2 : Int32) : Option (Int32 × zSt) :=
  (if znar .boolean x2 = true then
    some (x2, sO) else none)
def fX8_takes_20 (sO : zSt) (y0 : Int32) : Option (Int32 × zSt) :=
  (if y0 = 0 then
    (fX8_takes_35 sO y0)
  else
    (zlet (zsi sO 4 ((zgi sO 4) + (1 : Int32))) (fun sO32 =>
      (fX8_takes_35 sO32 y0))))
def fX8_takes_19 (sO : zSt) : Option (Int32 × zSt) :=
  (fX8_takes_20 sO (0 : Int32))
def fX8_takes (sO : zSt) (x1 : Int32) : Option (Int32 × zSt) :=
  ((fX8_hasFault sO).bind (fun o1 =>
    (if o1 = 0 then
    ((fX8_here sO).bind (fun o8 =>
      (if o8 = x1 then
      (fX8_takes_20 sO (1 : Int32))
    else
      (fX8_takes_19 sO))))
  else
    (fX8_takes_19 sO))))
theorem bX8_takes_35 {C : zCtx} (X : zFx C cX8_takes 3 RX8 rmX8_takes (some .boolean)) {aO : Nat → Nat} {sO : zSt} {x2 : Int32} {out : Int32 × zSt} (hQ : zHi C out.1 [wX8 (zcT C) aO out.2] 0 0) (h : fX8_takes_35 sO x2 = some out) : zG C 3 [0] 0 0 [wX8 (zcT C) aO sO] 35 [(2, .int x2)] [] := by
  unfold fX8_takes_35 at h
  refine z_iload_n X dX8_takes_35 0 rfl ?_
  obtain ⟨g36, h⟩ := zgd_of h
  cases h
  exact z_nret X hQ g36 dX8_takes_36 rfl [0] rfl (by decide) (by decide)
theorem bX8_takes_20 {C : zCtx} (X : zFx C cX8_takes 3 RX8 rmX8_takes (some .boolean)) {aO : Nat → Nat} {sO : zSt} {y0 : Int32} {out : Int32 × zSt} (hQ : zHi C out.1 [wX8 (zcT C) aO out.2] 0 0) (h : fX8_takes_20 sO y0 = some out) : zG C 3 [0] 0 0 [wX8 (zcT C) aO sO] 20 [(0, .ref (aO 0))] [.int y0] := by
  unfold fX8_takes_20 at h
  refine z_istore_n (lv2 := [(2, .int y0), (0, .ref (aO 0))]) X dX8_takes_20 rfl (by decide) rfl ?_
  refine z_iload_n X dX8_takes_21 0 rfl ?_
  refine z_if_eq (tgt := 35) X dX8_takes_22 (by decide) (fun c22 => ?_) (fun c22 => ?_)
  · replace h := zif_t h c22
    exact z_at (pc2 := 35) (lv2 := [(2, .int y0)]) (st2 := []) (ws2 := [wX8 (zcT C) aO sO]) rfl rfl rfl [0] rfl (bX8_takes_35 X hQ  h)
  · replace h := zif_f h c22
    refine z_aload_n X dX8_takes_25 1 rfl ?_
    refine z_dup X dX8_takes_26 rfl ?_
    refine z_get (v := .int (zgi sO 4)) X 0 0 9 4 ziX8 rfl (by decide) zw112 rfl dX8_takes_27 rfl rfl rfl ?_
    refine z_iconst (v := (1 : Int32)) X dX8_takes_30 rfl ?_
    refine z_iadd X dX8_takes_31 ?_
    obtain ⟨sO32, esO32, h⟩ := zlet_of h
    refine z_put (ws2 := [wX8 (zcT C) aO sO32]) X 0 0 9 4 ziX8 rfl tyX8 tyX8_ok nmX8 (by decide) zw112 rfl rfl (ty := .int) (by decide +kernel) rfl rfl (by show 4 < 10; decide) dX8_takes_32 rfl rfl (by decide) (w2 := wX8 (zcT C) aO sO32) (by rw [esO32]; rfl) rfl ?_
    exact z_at (pc2 := 35) (lv2 := [(2, .int y0)]) (st2 := []) (ws2 := [wX8 (zcT C) aO sO32]) rfl rfl rfl [0] rfl (bX8_takes_35 X hQ  h)
theorem bX8_takes_19 {C : zCtx} (X : zFx C cX8_takes 3 RX8 rmX8_takes (some .boolean)) {aO : Nat → Nat} {sO : zSt} {out : Int32 × zSt} (hQ : zHi C out.1 [wX8 (zcT C) aO out.2] 0 0) (h : fX8_takes_19 sO = some out) : zG C 3 [0] 0 0 [wX8 (zcT C) aO sO] 19 [(0, .ref (aO 0))] [] := by
  unfold fX8_takes_19 at h
  refine z_iconst (v := (0 : Int32)) X dX8_takes_19 rfl ?_
  exact z_at (pc2 := 20) (lv2 := [(0, .ref (aO 0))]) (st2 := [.int (0 : Int32)]) (ws2 := [wX8 (zcT C) aO sO]) rfl rfl rfl [0] rfl (bX8_takes_20 X hQ  h)
theorem bX8_takes_0 {C : zCtx} (X : zFx C cX8_takes 3 RX8 rmX8_takes (some .boolean)) {aO : Nat → Nat} {sO : zSt} {x1 : Int32} {out : Int32 × zSt} (hQ : zHi C out.1 [wX8 (zcT C) aO out.2] 0 0) (h : fX8_takes sO x1 = some out) : zG C 3 [0] 0 0 [wX8 (zcT C) aO sO] 0 [(0, .ref (aO 0)), (1, .int x1)] [] := by
  unfold fX8_takes at h
  refine z_aload_n X dX8_takes_0 0 rfl ?_
  obtain ⟨o1, ho1, h⟩ := zbind_of h
  refine z_callVi (st := []) (ws2 := [wX8 (zcT C) aO sO]) X (metX8_hasFault (zcl C) (zcD C) (zcT C) aO ho1) zmX8_hasFault zw432 dX8_takes_1 0 0 9 rfl rfl rfl rfl [0] rfl rfl [] rfl (by decide) trivial rfl rfl rfl (Nat.le_of_ble_eq_true rfl) rfl rfl ⟨Nat.le_of_ble_eq_true rfl, Nat.le_of_ble_eq_true rfl⟩ ⟨Nat.le_of_ble_eq_true rfl, Nat.le_of_ble_eq_true rfl⟩ ?_
  refine z_if_ne (tgt := 19) X dX8_takes_4 (by decide) (fun c4 => ?_) (fun c4 => ?_)
  · replace h := zif_f h c4
    exact z_at (pc2 := 19) (lv2 := [(0, .ref (aO 0))]) (st2 := []) (ws2 := [wX8 (zcT C) aO sO]) rfl rfl rfl [0] rfl (bX8_takes_19 X hQ  h)
  · replace h := zif_t h c4
    refine z_aload_n X dX8_takes_7 0 rfl ?_
    obtain ⟨o8, ho8, h⟩ := zbind_of h
    refine z_callVi (st := []) (ws2 := [wX8 (zcT C) aO sO]) X (metX8_here (zcl C) (zcD C) (zcT C) aO ho8) zmX8_here zw424 dX8_takes_8 0 0 9 rfl rfl rfl rfl [0] rfl rfl [] rfl (by decide) trivial rfl rfl rfl (Nat.le_of_ble_eq_true rfl) rfl rfl ⟨Nat.le_of_ble_eq_true rfl, Nat.le_of_ble_eq_true rfl⟩ ⟨Nat.le_of_ble_eq_true rfl, Nat.le_of_ble_eq_true rfl⟩ ?_
    refine z_iload_n X dX8_takes_11 1 rfl ?_
    refine z_icmp_ne (tgt := 19) X dX8_takes_12 (by decide) (fun c12 => ?_) (fun c12 => ?_)
    · replace h := zif_f h c12
      exact z_at (pc2 := 19) (lv2 := [(0, .ref (aO 0))]) (st2 := []) (ws2 := [wX8 (zcT C) aO sO]) rfl rfl rfl [0] rfl (bX8_takes_19 X hQ  h)
    · replace h := zif_t h c12
      refine z_iconst (v := (1 : Int32)) X dX8_takes_15 rfl ?_
      refine z_goto (tgt := 20) X dX8_takes_16 (by decide) ?_
      exact z_at (pc2 := 20) (lv2 := [(0, .ref (aO 0))]) (st2 := [.int (1 : Int32)]) (ws2 := [wX8 (zcT C) aO sO]) rfl rfl rfl [0] rfl (bX8_takes_20 X hQ  h)
theorem metX8_takes (l : Launch) (D : va_G) (T : Nat → ClassId) (aO : Nat → Nat) {sO : zSt} {x1 : Int32} {out : Int32 × zSt} (hf : fX8_takes sO x1 = some out) (sz : Nat) : Met l yX8_takes (zws yX8_takes cX8_takes 3 (some .boolean)) rmX8_takes (zPc D T [.ref (aO 0), .int x1] [wX8 T aO sO] sz) (zQi D out.1 [wX8 T aO out.2] (zA [wX8 T aO sO] sz)) 0 0 (zA [wX8 T aO sO] sz) :=
  zMet (D := D) (T := T) (av := [.ref (aO 0), .int x1]) (ws := fun T => [wX8 T aO sO]) (wm := fun T => [wX8 T aO sO]) (lv0 := [(0, .ref (aO 0)), (1, .int x1)]) [0] (Qc := fun D T A => zQi D out.1 [wX8 T aO out.2] A) (by decide +kernel) rfl (Nat.le_of_ble_eq_true rfl) rfl (fun C X hQ => bX8_takes_0 X hQ hf) sz
/-- private void blame(char); of Tableaufloor$Text -/
abbrev rmX8_blame : Room := { frames := 0, cells := 0, slots := 0, locals := 0 }
def fX8_blame (sO : zSt) (x1 : Int32) : Option (zSt) :=
  (if znar .char x1 = true then
    (zlet (zsi sO 5 x1) (fun sO2 =>
    (zlet (zsi sO2 6 (zgi sO2 4)) (fun sO10 =>
    some (sO10))))) else none)
theorem bX8_blame_0 {C : zCtx} (X : zFx C cX8_blame 2 RX8 rmX8_blame none) {aO : Nat → Nat} {sO : zSt} {x1 : Int32} {out : zSt} (hQ : zHv C [wX8 (zcT C) aO out] 0 0) (h : fX8_blame sO x1 = some out) : zG C 2 [0] 0 0 [wX8 (zcT C) aO sO] 0 [(0, .ref (aO 0)), (1, .int x1)] [] := by
  unfold fX8_blame at h
  refine z_aload_n X dX8_blame_0 0 rfl ?_
  refine z_iload_n X dX8_blame_1 1 rfl ?_
  obtain ⟨g2, h⟩ := zgd_of h
  obtain ⟨sO2, esO2, h⟩ := zlet_of h
  refine z_put (ws2 := [wX8 (zcT C) aO sO2]) X 0 0 9 5 ziX8 rfl tyX8 tyX8_ok nmX8 (by decide) zw113 rfl rfl (ty := .char) (by decide +kernel) (znar_of g2).1 (znar_of g2).2 (by show 5 < 10; decide) dX8_blame_2 rfl rfl (by decide) (w2 := wX8 (zcT C) aO sO2) (by rw [esO2]; rfl) rfl ?_
  refine z_aload_n X dX8_blame_5 0 rfl ?_
  refine z_aload_n X dX8_blame_6 0 rfl ?_
  refine z_get (v := .int (zgi sO2 4)) X 0 0 9 4 ziX8 rfl (by decide) zw112 rfl dX8_blame_7 rfl rfl rfl ?_
  obtain ⟨sO10, esO10, h⟩ := zlet_of h
  refine z_put (ws2 := [wX8 (zcT C) aO sO10]) X 0 0 9 6 ziX8 rfl tyX8 tyX8_ok nmX8 (by decide) zw115 rfl rfl (ty := .int) (by decide +kernel) rfl rfl (by show 6 < 10; decide) dX8_blame_10 rfl rfl (by decide) (w2 := wX8 (zcT C) aO sO10) (by rw [esO10]; rfl) rfl ?_
  cases h
  exact z_vret X hQ dX8_blame_13 [0] rfl (by decide) (by decide)
theorem metX8_blame (l : Launch) (D : va_G) (T : Nat → ClassId) (aO : Nat → Nat) {sO : zSt} {x1 : Int32} {out : zSt} (hf : fX8_blame sO x1 = some out) (sz : Nat) : Met l yX8_blame (zws yX8_blame cX8_blame 2 none) rmX8_blame (zPc D T [.ref (aO 0), .int x1] [wX8 T aO sO] sz) (zQv D [wX8 T aO out] (zA [wX8 T aO sO] sz)) 0 0 (zA [wX8 T aO sO] sz) :=
  zMet (D := D) (T := T) (av := [.ref (aO 0), .int x1]) (ws := fun T => [wX8 T aO sO]) (wm := fun T => [wX8 T aO sO]) (lv0 := [(0, .ref (aO 0)), (1, .int x1)]) [0] (Qc := fun D T A => zQv D [wX8 T aO out] A) (by decide +kernel) rfl (Nat.le_of_ble_eq_true rfl) rfl (fun C X hQ => bX8_blame_0 X hQ hf) sz
/-- private void pass(char); of Tableaufloor$Text -/
abbrev rmX8_pass : Room := { frames := 2, cells := 0, slots := 0, locals := 42 }
def fX8_pass_21 (sO : zSt) : Option (zSt) :=
  some (sO)
def fX8_pass (sO : zSt) (x1 : Int32) : Option (zSt) :=
  ((fX8_hasFault sO).bind (fun o1 =>
    (if o1 = 0 then
    ((fX8_takes sO x1).bind (fun o9 =>
      (if o9.1 = 0 then
      ((fX8_blame o9.2 (115 : Int32)).bind (fun o18 =>
        (fX8_pass_21 o18)))
    else
      (fX8_pass_21 o9.2))))
  else
    (fX8_pass_21 sO))))
theorem bX8_pass_21 {C : zCtx} (X : zFx C cX8_pass 2 RX8 rmX8_pass none) {aO : Nat → Nat} {sO : zSt} {out : zSt} (hQ : zHv C [wX8 (zcT C) aO out] 0 0) (h : fX8_pass_21 sO = some out) : zG C 2 [0] 0 0 [wX8 (zcT C) aO sO] 21 [] [] := by
  unfold fX8_pass_21 at h
  cases h
  exact z_vret X hQ dX8_pass_21 [0] rfl (by decide) (by decide)
theorem bX8_pass_0 {C : zCtx} (X : zFx C cX8_pass 2 RX8 rmX8_pass none) {aO : Nat → Nat} {sO : zSt} {x1 : Int32} {out : zSt} (hQ : zHv C [wX8 (zcT C) aO out] 0 0) (h : fX8_pass sO x1 = some out) : zG C 2 [0] 0 0 [wX8 (zcT C) aO sO] 0 [(0, .ref (aO 0)), (1, .int x1)] [] := by
  unfold fX8_pass at h
  refine z_aload_n X dX8_pass_0 0 rfl ?_
  obtain ⟨o1, ho1, h⟩ := zbind_of h
  refine z_callVi (st := []) (ws2 := [wX8 (zcT C) aO sO]) X (metX8_hasFault (zcl C) (zcD C) (zcT C) aO ho1) zmX8_hasFault zw432 dX8_pass_1 0 0 9 rfl rfl rfl rfl [0] rfl rfl [] rfl (by decide) trivial rfl rfl rfl (Nat.le_of_ble_eq_true rfl) rfl rfl ⟨Nat.le_of_ble_eq_true rfl, Nat.le_of_ble_eq_true rfl⟩ ⟨Nat.le_of_ble_eq_true rfl, Nat.le_of_ble_eq_true rfl⟩ ?_
  refine z_if_ne (tgt := 21) X dX8_pass_4 (by decide) (fun c4 => ?_) (fun c4 => ?_)
  · replace h := zif_f h c4
    exact z_at (pc2 := 21) (lv2 := []) (st2 := []) (ws2 := [wX8 (zcT C) aO sO]) rfl rfl rfl [] rfl (bX8_pass_21 X hQ  h)
  · replace h := zif_t h c4
    refine z_aload_n X dX8_pass_7 0 rfl ?_
    refine z_iload_n X dX8_pass_8 1 rfl ?_
    obtain ⟨o9, ho9, h⟩ := zbind_of h
    refine z_callVi (st := []) (ws2 := [wX8 (zcT C) aO o9.2]) X (metX8_takes (zcl C) (zcD C) (zcT C) aO ho9) zmX8_takes zw436 dX8_pass_9 0 0 9 rfl rfl rfl rfl [0] rfl rfl [0] rfl (by decide) ⟨zsX8 , trivial⟩ rfl rfl rfl (Nat.le_of_ble_eq_true rfl) rfl rfl ⟨Nat.le_of_ble_eq_true rfl, Nat.le_of_ble_eq_true rfl⟩ ⟨Nat.le_of_ble_eq_true rfl, Nat.le_of_ble_eq_true rfl⟩ ?_
    refine z_if_ne (tgt := 21) X dX8_pass_12 (by decide) (fun c12 => ?_) (fun c12 => ?_)
    · replace h := zif_f h c12
      exact z_at (pc2 := 21) (lv2 := []) (st2 := []) (ws2 := [wX8 (zcT C) aO o9.2]) rfl rfl rfl [] rfl (bX8_pass_21 X hQ  h)
    · replace h := zif_t h c12
      refine z_aload_n X dX8_pass_15 0 rfl ?_
      refine z_bipush (v := (115 : Int32)) X dX8_pass_16 rfl ?_
      obtain ⟨o18, ho18, h⟩ := zbind_of h
      refine z_callVv (st := []) (ws2 := [wX8 (zcT C) aO o18]) X (metX8_blame (zcl C) (zcD C) (zcT C) aO ho18) zmX8_blame zw440 dX8_pass_18 0 0 9 rfl rfl rfl rfl [0] rfl rfl [0] rfl (by decide) ⟨zsX8 , trivial⟩ rfl rfl rfl (Nat.le_of_ble_eq_true rfl) rfl rfl ⟨Nat.le_of_ble_eq_true rfl, Nat.le_of_ble_eq_true rfl⟩ ⟨Nat.le_of_ble_eq_true rfl, Nat.le_of_ble_eq_true rfl⟩ ?_
      exact z_at (pc2 := 21) (lv2 := []) (st2 := []) (ws2 := [wX8 (zcT C) aO o18]) rfl rfl rfl [] rfl (bX8_pass_21 X hQ  h)
theorem metX8_pass (l : Launch) (D : va_G) (T : Nat → ClassId) (aO : Nat → Nat) {sO : zSt} {x1 : Int32} {out : zSt} (hf : fX8_pass sO x1 = some out) (sz : Nat) : Met l yX8_pass (zws yX8_pass cX8_pass 2 none) rmX8_pass (zPc D T [.ref (aO 0), .int x1] [wX8 T aO sO] sz) (zQv D [wX8 T aO out] (zA [wX8 T aO sO] sz)) 0 0 (zA [wX8 T aO sO] sz) :=
  zMet (D := D) (T := T) (av := [.ref (aO 0), .int x1]) (ws := fun T => [wX8 T aO sO]) (wm := fun T => [wX8 T aO sO]) (lv0 := [(0, .ref (aO 0)), (1, .int x1)]) [0] (Qc := fun D T A => zQv D [wX8 T aO out] A) (by decide +kernel) rfl (Nat.le_of_ble_eq_true rfl) rfl (fun C X hQ => bX8_pass_0 X hQ hf) sz
/-- private void readTerm(boolean); of Tableaufloor$Text -/
abbrev rmX8_readTerm : Room := { frames := 1, cells := 0, slots := 0, locals := 21 }
def fX8_readTerm_119 (sO : zSt) : Option (zSt) :=
  some (sO)
def fX8_readTerm_64 (sO : zSt) : Option (zSt) :=
  ((fX8_blame sO (115 : Int32)).bind (fun o67 =>
    (fX8_readTerm_119 o67)))
def fX8_readTerm_107 (sO : zSt) (y1 : Int32) (y2 : Int32) (y3 : Int32) : Option (zSt) :=
  (if zin y1 3 = true then
    (zlet (zsa sO 1 (upd (zga sO 1) (y1).toNatClampNeg (y2 + y3))) (fun sO108 =>
    (zlet (zsi sO108 4 ((zgi sO108 4) + (1 : Int32))) (fun sO116 =>
    (fX8_readTerm_119 sO116))))) else none)
def fX8_readTerm_38 (sO : zSt) (x1 : Int32) (x2 : Int32) : Option (zSt) :=
  ((fX8_here sO).bind (fun o39 =>
    (zlet (o39 - (97 : Int32)) (fun v45 =>
    (if v45 < 0 then
    (fX8_readTerm_64 sO)
  else
    (if (3 : Int32) ≤ v45 then
      (fX8_readTerm_64 sO)
    else
      (if v45 < (3 : Int32) then
        (if v45 < (zgi sO 3) then
          (if zin v45 3 = true then
            (if x1 = 0 then
            (fX8_readTerm_107 sO v45 (zga sO 1 (v45).toNatClampNeg) x2)
          else
            (fX8_readTerm_107 sO v45 (zga sO 1 (v45).toNatClampNeg) (-x2))) else none)
        else
          ((fX8_blame sO (118 : Int32)).bind (fun o84 =>
            (fX8_readTerm_119 o84))))
      else
        (fX8_readTerm_64 sO))))))))
def fX8_readTerm (sO : zSt) (x1 : Int32) : Option (zSt) :=
  ((fX8_hasFault sO).bind (fun o1 =>
    (if o1 = 0 then
    ((fX8_here sO).bind (fun o11 =>
      ((fX8_isDigit o11).bind (fun o14 =>
      (if o14 = 0 then
      (fX8_readTerm_38 sO x1 (1 : Int32))
    else
      ((fX8_here sO).bind (fun o21 =>
        (zlet (o21 - (48 : Int32)) (fun v27 =>
        (zlet (zsi sO 4 ((zgi sO 4) + (1 : Int32))) (fun sO35 =>
        (fX8_readTerm_38 sO35 x1 v27))))))))))))
  else
    some (sO))))
theorem bX8_readTerm_119 {C : zCtx} (X : zFx C cX8_readTerm 4 RX8 rmX8_readTerm none) {aO : Nat → Nat} {sO : zSt} {out : zSt} (hQ : zHv C [wX8 (zcT C) aO out] 0 0) (h : fX8_readTerm_119 sO = some out) : zG C 4 [0] 0 0 [wX8 (zcT C) aO sO] 119 [] [] := by
  unfold fX8_readTerm_119 at h
  cases h
  exact z_vret X hQ dX8_readTerm_119 [0] rfl (by decide) (by decide)
theorem bX8_readTerm_64 {C : zCtx} (X : zFx C cX8_readTerm 4 RX8 rmX8_readTerm none) {aO : Nat → Nat} {sO : zSt} {out : zSt} (hQ : zHv C [wX8 (zcT C) aO out] 0 0) (h : fX8_readTerm_64 sO = some out) : zG C 4 [0] 0 0 [wX8 (zcT C) aO sO] 64 [(0, .ref (aO 0))] [] := by
  unfold fX8_readTerm_64 at h
  refine z_aload_n X dX8_readTerm_64 0 rfl ?_
  refine z_bipush (v := (115 : Int32)) X dX8_readTerm_65 rfl ?_
  obtain ⟨o67, ho67, h⟩ := zbind_of h
  refine z_callVv (st := []) (ws2 := [wX8 (zcT C) aO o67]) X (metX8_blame (zcl C) (zcD C) (zcT C) aO ho67) zmX8_blame zw440 dX8_readTerm_67 0 0 9 rfl rfl rfl rfl [0] rfl rfl [0] rfl (by decide) ⟨zsX8 , trivial⟩ rfl rfl rfl (Nat.le_of_ble_eq_true rfl) rfl rfl ⟨Nat.le_of_ble_eq_true rfl, Nat.le_of_ble_eq_true rfl⟩ ⟨Nat.le_of_ble_eq_true rfl, Nat.le_of_ble_eq_true rfl⟩ ?_
  refine z_goto (tgt := 119) X dX8_readTerm_70 (by decide) ?_
  exact z_at (pc2 := 119) (lv2 := []) (st2 := []) (ws2 := [wX8 (zcT C) aO o67]) rfl rfl rfl [] rfl (bX8_readTerm_119 X hQ  h)
theorem bX8_readTerm_107 {C : zCtx} (X : zFx C cX8_readTerm 4 RX8 rmX8_readTerm none) {aO : Nat → Nat} {sO : zSt} {y1 : Int32} {y2 : Int32} {y3 : Int32} {out : zSt} (hQ : zHv C [wX8 (zcT C) aO out] 0 0) (h : fX8_readTerm_107 sO y1 y2 y3 = some out) : zG C 4 [0] 0 0 [wX8 (zcT C) aO sO] 107 [(0, .ref (aO 0))] [.int y3, .int y2, .int y1, .ref (aO 2)] := by
  unfold fX8_readTerm_107 at h
  refine z_iadd X dX8_readTerm_107 ?_
  obtain ⟨g108, h⟩ := zgd_of h
  obtain ⟨sO108, esO108, h⟩ := zlet_of h
  refine z_iast (ws2 := [wX8 (zcT C) aO sO108]) X 0 2 g108 dX8_readTerm_108 rfl rfl (by decide) (w2 := wX8 (zcT C) aO sO108) (by rw [esO108]; rfl) rfl ?_
  refine z_aload_n X dX8_readTerm_109 0 rfl ?_
  refine z_dup X dX8_readTerm_110 rfl ?_
  refine z_get (v := .int (zgi sO108 4)) X 0 0 9 4 ziX8 rfl (by decide) zw112 rfl dX8_readTerm_111 rfl rfl rfl ?_
  refine z_iconst (v := (1 : Int32)) X dX8_readTerm_114 rfl ?_
  refine z_iadd X dX8_readTerm_115 ?_
  obtain ⟨sO116, esO116, h⟩ := zlet_of h
  refine z_put (ws2 := [wX8 (zcT C) aO sO116]) X 0 0 9 4 ziX8 rfl tyX8 tyX8_ok nmX8 (by decide) zw112 rfl rfl (ty := .int) (by decide +kernel) rfl rfl (by show 4 < 10; decide) dX8_readTerm_116 rfl rfl (by decide) (w2 := wX8 (zcT C) aO sO116) (by rw [esO116]; rfl) rfl ?_
  exact z_at (pc2 := 119) (lv2 := []) (st2 := []) (ws2 := [wX8 (zcT C) aO sO116]) rfl rfl rfl [] rfl (bX8_readTerm_119 X hQ  h)
theorem bX8_readTerm_38 {C : zCtx} (X : zFx C cX8_readTerm 4 RX8 rmX8_readTerm none) {aO : Nat → Nat} {sO : zSt} {x1 : Int32} {x2 : Int32} {out : zSt} (hQ : zHv C [wX8 (zcT C) aO out] 0 0) (h : fX8_readTerm_38 sO x1 x2 = some out) : zG C 4 [0] 0 0 [wX8 (zcT C) aO sO] 38 [(0, .ref (aO 0)), (1, .int x1), (2, .int x2)] [] := by
  unfold fX8_readTerm_38 at h
  refine z_aload_n X dX8_readTerm_38 0 rfl ?_
  obtain ⟨o39, ho39, h⟩ := zbind_of h
  refine z_callVi (st := []) (ws2 := [wX8 (zcT C) aO sO]) X (metX8_here (zcl C) (zcD C) (zcT C) aO ho39) zmX8_here zw424 dX8_readTerm_39 0 0 9 rfl rfl rfl rfl [0] rfl rfl [] rfl (by decide) trivial rfl rfl rfl (Nat.le_of_ble_eq_true rfl) rfl rfl ⟨Nat.le_of_ble_eq_true rfl, Nat.le_of_ble_eq_true rfl⟩ ⟨Nat.le_of_ble_eq_true rfl, Nat.le_of_ble_eq_true rfl⟩ ?_
  refine z_bipush (v := (97 : Int32)) X dX8_readTerm_42 rfl ?_
  refine z_isub X dX8_readTerm_44 ?_
  obtain ⟨v45, ev45, h⟩ := zlet_of h
  refine z_topi ev45 ?_
  refine z_istore_n (lv2 := [(3, .int v45), (0, .ref (aO 0)), (1, .int x1), (2, .int x2)]) X dX8_readTerm_45 rfl (by decide) rfl ?_
  refine z_iload_n X dX8_readTerm_46 0 rfl ?_
  refine z_if_lt (tgt := 64) X dX8_readTerm_47 (by decide) (fun c47 => ?_) (fun c47 => ?_)
  · replace h := zif_t h c47
    exact z_at (pc2 := 64) (lv2 := [(0, .ref (aO 0))]) (st2 := []) (ws2 := [wX8 (zcT C) aO sO]) rfl rfl rfl [1] rfl (bX8_readTerm_64 X hQ  h)
  · replace h := zif_f h c47
    refine z_iload_n X dX8_readTerm_50 0 rfl ?_
    refine z_iconst (v := (3 : Int32)) X dX8_readTerm_51 rfl ?_
    refine z_icmp_ge (tgt := 64) X dX8_readTerm_52 (by decide) (fun c52 => ?_) (fun c52 => ?_)
    · replace h := zif_t h c52
      exact z_at (pc2 := 64) (lv2 := [(0, .ref (aO 0))]) (st2 := []) (ws2 := [wX8 (zcT C) aO sO]) rfl rfl rfl [1] rfl (bX8_readTerm_64 X hQ  h)
    · replace h := zif_f h c52
      refine z_iload_n X dX8_readTerm_55 0 rfl ?_
      refine z_aload_n X dX8_readTerm_56 1 rfl ?_
      refine z_get (v := .ref (aO 2)) X 0 0 9 1 ziX8 rfl (by decide) zw108 rfl dX8_readTerm_57 rfl rfl rfl ?_
      refine z_alen (v := (3 : Int32)) X 0 2 1 rfl rfl dX8_readTerm_60 rfl rfl ?_
      refine z_icmp_lt (tgt := 73) X dX8_readTerm_61 (by decide) (fun c61 => ?_) (fun c61 => ?_)
      · replace h := zif_t h c61
        refine z_iload_n X dX8_readTerm_73 0 rfl ?_
        refine z_aload_n X dX8_readTerm_74 1 rfl ?_
        refine z_get (v := .int (zgi sO 3)) X 0 0 9 3 ziX8 rfl (by decide) zw111 rfl dX8_readTerm_75 rfl rfl rfl ?_
        refine z_icmp_lt (tgt := 90) X dX8_readTerm_78 (by decide) (fun c78 => ?_) (fun c78 => ?_)
        · replace h := zif_t h c78
          refine z_aload_n X dX8_readTerm_90 1 rfl ?_
          refine z_get (v := .ref (aO 2)) X 0 0 9 1 ziX8 rfl (by decide) zw108 rfl dX8_readTerm_91 rfl rfl rfl ?_
          refine z_iload_n X dX8_readTerm_94 0 rfl ?_
          refine z_dup2 X dX8_readTerm_95 rfl rfl ?_
          obtain ⟨g96, h⟩ := zgd_of h
          refine z_iald X 0 2 g96 dX8_readTerm_96 rfl rfl ?_
          refine z_iload_n X dX8_readTerm_97 2 rfl ?_
          refine z_if_eq (tgt := 106) X dX8_readTerm_98 (by decide) (fun c98 => ?_) (fun c98 => ?_)
          · replace h := zif_t h c98
            refine z_iload_n X dX8_readTerm_106 3 rfl ?_
            exact z_at (pc2 := 107) (lv2 := [(0, .ref (aO 0))]) (st2 := [.int x2, .int (zga sO 1 (v45).toNatClampNeg), .int v45, .ref (aO 2)]) (ws2 := [wX8 (zcT C) aO sO]) rfl rfl rfl [1] rfl (bX8_readTerm_107 X hQ  h)
          · replace h := zif_f h c98
            refine z_iload_n X dX8_readTerm_101 3 rfl ?_
            refine z_ineg X dX8_readTerm_102 ?_
            refine z_goto (tgt := 107) X dX8_readTerm_103 (by decide) ?_
            exact z_at (pc2 := 107) (lv2 := [(0, .ref (aO 0))]) (st2 := [.int (-x2), .int (zga sO 1 (v45).toNatClampNeg), .int v45, .ref (aO 2)]) (ws2 := [wX8 (zcT C) aO sO]) rfl rfl rfl [1] rfl (bX8_readTerm_107 X hQ  h)
        · replace h := zif_f h c78
          refine z_aload_n X dX8_readTerm_81 1 rfl ?_
          refine z_bipush (v := (118 : Int32)) X dX8_readTerm_82 rfl ?_
          obtain ⟨o84, ho84, h⟩ := zbind_of h
          refine z_callVv (st := []) (ws2 := [wX8 (zcT C) aO o84]) X (metX8_blame (zcl C) (zcD C) (zcT C) aO ho84) zmX8_blame zw440 dX8_readTerm_84 0 0 9 rfl rfl rfl rfl [0] rfl rfl [0] rfl (by decide) ⟨zsX8 , trivial⟩ rfl rfl rfl (Nat.le_of_ble_eq_true rfl) rfl rfl ⟨Nat.le_of_ble_eq_true rfl, Nat.le_of_ble_eq_true rfl⟩ ⟨Nat.le_of_ble_eq_true rfl, Nat.le_of_ble_eq_true rfl⟩ ?_
          refine z_goto (tgt := 119) X dX8_readTerm_87 (by decide) ?_
          exact z_at (pc2 := 119) (lv2 := []) (st2 := []) (ws2 := [wX8 (zcT C) aO o84]) rfl rfl rfl [] rfl (bX8_readTerm_119 X hQ  h)
      · replace h := zif_f h c61
        exact z_at (pc2 := 64) (lv2 := [(0, .ref (aO 0))]) (st2 := []) (ws2 := [wX8 (zcT C) aO sO]) rfl rfl rfl [1] rfl (bX8_readTerm_64 X hQ  h)
theorem bX8_readTerm_0 {C : zCtx} (X : zFx C cX8_readTerm 4 RX8 rmX8_readTerm none) {aO : Nat → Nat} {sO : zSt} {x1 : Int32} {out : zSt} (hQ : zHv C [wX8 (zcT C) aO out] 0 0) (h : fX8_readTerm sO x1 = some out) : zG C 4 [0] 0 0 [wX8 (zcT C) aO sO] 0 [(0, .ref (aO 0)), (1, .int x1)] [] := by
  unfold fX8_readTerm at h
  refine z_aload_n X dX8_readTerm_0 0 rfl ?_
  obtain ⟨o1, ho1, h⟩ := zbind_of h
  refine z_callVi (st := []) (ws2 := [wX8 (zcT C) aO sO]) X (metX8_hasFault (zcl C) (zcD C) (zcT C) aO ho1) zmX8_hasFault zw432 dX8_readTerm_1 0 0 9 rfl rfl rfl rfl [0] rfl rfl [] rfl (by decide) trivial rfl rfl rfl (Nat.le_of_ble_eq_true rfl) rfl rfl ⟨Nat.le_of_ble_eq_true rfl, Nat.le_of_ble_eq_true rfl⟩ ⟨Nat.le_of_ble_eq_true rfl, Nat.le_of_ble_eq_true rfl⟩ ?_
  refine z_if_eq (tgt := 8) X dX8_readTerm_4 (by decide) (fun c4 => ?_) (fun c4 => ?_)
  · replace h := zif_t h c4
    refine z_iconst (v := (1 : Int32)) X dX8_readTerm_8 rfl ?_
    refine z_istore_n (lv2 := [(2, .int (1 : Int32)), (0, .ref (aO 0)), (1, .int x1)]) X dX8_readTerm_9 rfl (by decide) rfl ?_
    refine z_aload_n X dX8_readTerm_10 1 rfl ?_
    obtain ⟨o11, ho11, h⟩ := zbind_of h
    refine z_callVi (st := []) (ws2 := [wX8 (zcT C) aO sO]) X (metX8_here (zcl C) (zcD C) (zcT C) aO ho11) zmX8_here zw424 dX8_readTerm_11 0 0 9 rfl rfl rfl rfl [0] rfl rfl [] rfl (by decide) trivial rfl rfl rfl (Nat.le_of_ble_eq_true rfl) rfl rfl ⟨Nat.le_of_ble_eq_true rfl, Nat.le_of_ble_eq_true rfl⟩ ⟨Nat.le_of_ble_eq_true rfl, Nat.le_of_ble_eq_true rfl⟩ ?_
    obtain ⟨o14, ho14, h⟩ := zbind_of h
    refine z_callSi (st := []) (ws2 := [wX8 (zcT C) aO sO]) X (metX8_isDigit (zcl C) (zcD C) (zcT C)  ho14) zmX8_isDigit zw452 dX8_readTerm_14 [] rfl rfl [] rfl (by decide) trivial rfl rfl rfl (Nat.le_of_ble_eq_true rfl) rfl rfl ⟨Nat.le_of_ble_eq_true rfl, Nat.le_of_ble_eq_true rfl⟩ ⟨Nat.le_of_ble_eq_true rfl, Nat.le_of_ble_eq_true rfl⟩ ?_
    refine z_if_eq (tgt := 38) X dX8_readTerm_17 (by decide) (fun c17 => ?_) (fun c17 => ?_)
    · replace h := zif_t h c17
      exact z_at (pc2 := 38) (lv2 := [(0, .ref (aO 0)), (1, .int x1), (2, .int (1 : Int32))]) (st2 := []) (ws2 := [wX8 (zcT C) aO sO]) rfl rfl rfl [1, 2, 0] rfl (bX8_readTerm_38 X hQ  h)
    · replace h := zif_f h c17
      refine z_aload_n X dX8_readTerm_20 1 rfl ?_
      obtain ⟨o21, ho21, h⟩ := zbind_of h
      refine z_callVi (st := []) (ws2 := [wX8 (zcT C) aO sO]) X (metX8_here (zcl C) (zcD C) (zcT C) aO ho21) zmX8_here zw424 dX8_readTerm_21 0 0 9 rfl rfl rfl rfl [0] rfl rfl [] rfl (by decide) trivial rfl rfl rfl (Nat.le_of_ble_eq_true rfl) rfl rfl ⟨Nat.le_of_ble_eq_true rfl, Nat.le_of_ble_eq_true rfl⟩ ⟨Nat.le_of_ble_eq_true rfl, Nat.le_of_ble_eq_true rfl⟩ ?_
      refine z_bipush (v := (48 : Int32)) X dX8_readTerm_24 rfl ?_
      refine z_isub X dX8_readTerm_26 ?_
      obtain ⟨v27, ev27, h⟩ := zlet_of h
      refine z_topi ev27 ?_
      refine z_istore_n (lv2 := [(2, .int v27), (0, .ref (aO 0)), (1, .int x1)]) X dX8_readTerm_27 rfl (by decide) rfl ?_
      refine z_aload_n X dX8_readTerm_28 1 rfl ?_
      refine z_dup X dX8_readTerm_29 rfl ?_
      refine z_get (v := .int (zgi sO 4)) X 0 0 9 4 ziX8 rfl (by decide) zw112 rfl dX8_readTerm_30 rfl rfl rfl ?_
      refine z_iconst (v := (1 : Int32)) X dX8_readTerm_33 rfl ?_
      refine z_iadd X dX8_readTerm_34 ?_
      obtain ⟨sO35, esO35, h⟩ := zlet_of h
      refine z_put (ws2 := [wX8 (zcT C) aO sO35]) X 0 0 9 4 ziX8 rfl tyX8 tyX8_ok nmX8 (by decide) zw112 rfl rfl (ty := .int) (by decide +kernel) rfl rfl (by show 4 < 10; decide) dX8_readTerm_35 rfl rfl (by decide) (w2 := wX8 (zcT C) aO sO35) (by rw [esO35]; rfl) rfl ?_
      exact z_at (pc2 := 38) (lv2 := [(0, .ref (aO 0)), (1, .int x1), (2, .int v27)]) (st2 := []) (ws2 := [wX8 (zcT C) aO sO35]) rfl rfl rfl [1, 2, 0] rfl (bX8_readTerm_38 X hQ  h)
  · replace h := zif_f h c4
    cases h
    exact z_vret X hQ dX8_readTerm_7 [0] rfl (by decide) (by decide)
theorem metX8_readTerm (l : Launch) (D : va_G) (T : Nat → ClassId) (aO : Nat → Nat) {sO : zSt} {x1 : Int32} {out : zSt} (hf : fX8_readTerm sO x1 = some out) (sz : Nat) : Met l yX8_readTerm (zws yX8_readTerm cX8_readTerm 4 none) rmX8_readTerm (zPc D T [.ref (aO 0), .int x1] [wX8 T aO sO] sz) (zQv D [wX8 T aO out] (zA [wX8 T aO sO] sz)) 0 0 (zA [wX8 T aO sO] sz) :=
  zMet (D := D) (T := T) (av := [.ref (aO 0), .int x1]) (ws := fun T => [wX8 T aO sO]) (wm := fun T => [wX8 T aO sO]) (lv0 := [(0, .ref (aO 0)), (1, .int x1)]) [0] (Qc := fun D T A => zQv D [wX8 T aO out] A) (by decide +kernel) rfl (Nat.le_of_ble_eq_true rfl) rfl (fun C X hQ => bX8_readTerm_0 X hQ hf) sz
/-- private void readSum(); of Tableaufloor$Text -/
abbrev rmX8_readSum : Room := { frames := 2, cells := 0, slots := 0, locals := 44 }
def fX8_readSum_43 (sO : zSt) : Option (zSt) :=
  some (sO)
def fX8_readSum_58 (k12 : zSt → Int32 → Option (zSt)) (sO : zSt) (x1 : Int32) (y0 : Int32) : Option (zSt) :=
  (zlet (zsi sO 4 ((zgi sO 4) + (1 : Int32))) (fun sO66 =>
    ((fX8_readTerm sO66 y0).bind (fun o71 =>
    (zlet (x1 + 1) (fun v74 =>
    (k12 o71 v74)))))))
def fX8_readSum_44 (k12 : zSt → Int32 → Option (zSt)) (sO : zSt) (x1 : Int32) : Option (zSt) :=
  ((fX8_here sO).bind (fun o45 =>
    (if o45 = (45 : Int32) then
    (fX8_readSum_58 k12 sO x1 (1 : Int32))
  else
    (fX8_readSum_58 k12 sO x1 (0 : Int32)))))
def fX8_readSum_12 : Nat → zSt → Int32 → Option (zSt)
  | 0, _, _ => none
  | n + 1, sO, x1 =>
    (if (30 : Int32) ≤ x1 then
      some (sO)
    else
      ((fX8_hasFault sO).bind (fun o19 =>
        (if o19 = 0 then
        ((fX8_here sO).bind (fun o26 =>
          (if o26 = (43 : Int32) then
          (fX8_readSum_44 (fX8_readSum_12 n) sO x1)
        else
          ((fX8_here sO).bind (fun o35 =>
            (if o35 = (45 : Int32) then
            (fX8_readSum_44 (fX8_readSum_12 n) sO x1)
          else
            (fX8_readSum_43 sO)))))))
      else
        (fX8_readSum_43 sO)))))
def fX8_readSum (sO : zSt) : Option (zSt) :=
  ((fX8_takes sO (45 : Int32)).bind (fun o4 =>
    ((fX8_readTerm o4.2 o4.1).bind (fun o7 =>
    (fX8_readSum_12 6000 o7 (1 : Int32))))))
theorem bX8_readSum_43 {C : zCtx} (X : zFx C cX8_readSum 3 RX8 rmX8_readSum none) {aO : Nat → Nat} {sO : zSt} {out : zSt} (hQ : zHv C [wX8 (zcT C) aO out] 0 0) (h : fX8_readSum_43 sO = some out) : zG C 3 [0] 0 0 [wX8 (zcT C) aO sO] 43 [] [] := by
  unfold fX8_readSum_43 at h
  cases h
  exact z_vret X hQ dX8_readSum_43 [0] rfl (by decide) (by decide)
theorem bX8_readSum_58 {C : zCtx} (X : zFx C cX8_readSum 3 RX8 rmX8_readSum none) {aO : Nat → Nat} {k12 : zSt → Int32 → Option (zSt)} {sO : zSt} {x1 : Int32} {y0 : Int32} {out : zSt} (hQ : zHv C [wX8 (zcT C) aO out] 0 0) (hk12 : ∀ (sO : zSt) (x1 : Int32), k12 sO x1 = some out → zG C 3 [0] 0 0 [wX8 (zcT C) aO sO] 12 [(0, .ref (aO 0)), (1, .int x1)] []) (h : fX8_readSum_58 k12 sO x1 y0 = some out) : zG C 3 [0] 0 0 [wX8 (zcT C) aO sO] 58 [(0, .ref (aO 0)), (1, .int x1)] [.int y0] := by
  unfold fX8_readSum_58 at h
  refine z_istore_n (lv2 := [(2, .int y0), (0, .ref (aO 0)), (1, .int x1)]) X dX8_readSum_58 rfl (by decide) rfl ?_
  refine z_aload_n X dX8_readSum_59 1 rfl ?_
  refine z_dup X dX8_readSum_60 rfl ?_
  refine z_get (v := .int (zgi sO 4)) X 0 0 9 4 ziX8 rfl (by decide) zw112 rfl dX8_readSum_61 rfl rfl rfl ?_
  refine z_iconst (v := (1 : Int32)) X dX8_readSum_64 rfl ?_
  refine z_iadd X dX8_readSum_65 ?_
  obtain ⟨sO66, esO66, h⟩ := zlet_of h
  refine z_put (ws2 := [wX8 (zcT C) aO sO66]) X 0 0 9 4 ziX8 rfl tyX8 tyX8_ok nmX8 (by decide) zw112 rfl rfl (ty := .int) (by decide +kernel) rfl rfl (by show 4 < 10; decide) dX8_readSum_66 rfl rfl (by decide) (w2 := wX8 (zcT C) aO sO66) (by rw [esO66]; rfl) rfl ?_
  refine z_aload_n X dX8_readSum_69 1 rfl ?_
  refine z_iload_n X dX8_readSum_70 0 rfl ?_
  obtain ⟨o71, ho71, h⟩ := zbind_of h
  refine z_callVv (st := []) (ws2 := [wX8 (zcT C) aO o71]) X (metX8_readTerm (zcl C) (zcD C) (zcT C) aO ho71) zmX8_readTerm zw448 dX8_readSum_71 0 0 9 rfl rfl rfl rfl [0] rfl rfl [0] rfl (by decide) ⟨zsX8 , trivial⟩ rfl rfl rfl (Nat.le_of_ble_eq_true rfl) rfl rfl ⟨Nat.le_of_ble_eq_true rfl, Nat.le_of_ble_eq_true rfl⟩ ⟨Nat.le_of_ble_eq_true rfl, Nat.le_of_ble_eq_true rfl⟩ ?_
  obtain ⟨v74, ev74, h⟩ := zlet_of h
  refine z_iinc (v := v74) (lv2 := [(1, .int v74), (2, .int y0), (0, .ref (aO 0))]) X dX8_readSum_74 (k := 2) rfl (by rw [ev74]; rfl) (by decide) rfl ?_
  refine z_goto (tgt := 12) X dX8_readSum_77 (by decide) ?_
  exact z_at (pc2 := 12) (lv2 := [(0, .ref (aO 0)), (1, .int v74)]) (st2 := []) (ws2 := [wX8 (zcT C) aO o71]) rfl rfl rfl [2, 0] rfl (hk12 o71 v74 h)
theorem bX8_readSum_44 {C : zCtx} (X : zFx C cX8_readSum 3 RX8 rmX8_readSum none) {aO : Nat → Nat} {k12 : zSt → Int32 → Option (zSt)} {sO : zSt} {x1 : Int32} {out : zSt} (hQ : zHv C [wX8 (zcT C) aO out] 0 0) (hk12 : ∀ (sO : zSt) (x1 : Int32), k12 sO x1 = some out → zG C 3 [0] 0 0 [wX8 (zcT C) aO sO] 12 [(0, .ref (aO 0)), (1, .int x1)] []) (h : fX8_readSum_44 k12 sO x1 = some out) : zG C 3 [0] 0 0 [wX8 (zcT C) aO sO] 44 [(0, .ref (aO 0)), (1, .int x1)] [] := by
  unfold fX8_readSum_44 at h
  refine z_aload_n X dX8_readSum_44 0 rfl ?_
  obtain ⟨o45, ho45, h⟩ := zbind_of h
  refine z_callVi (st := []) (ws2 := [wX8 (zcT C) aO sO]) X (metX8_here (zcl C) (zcD C) (zcT C) aO ho45) zmX8_here zw424 dX8_readSum_45 0 0 9 rfl rfl rfl rfl [0] rfl rfl [] rfl (by decide) trivial rfl rfl rfl (Nat.le_of_ble_eq_true rfl) rfl rfl ⟨Nat.le_of_ble_eq_true rfl, Nat.le_of_ble_eq_true rfl⟩ ⟨Nat.le_of_ble_eq_true rfl, Nat.le_of_ble_eq_true rfl⟩ ?_
  refine z_bipush (v := (45 : Int32)) X dX8_readSum_48 rfl ?_
  refine z_icmp_ne (tgt := 57) X dX8_readSum_50 (by decide) (fun c50 => ?_) (fun c50 => ?_)
  · replace h := zif_f h c50
    refine z_iconst (v := (0 : Int32)) X dX8_readSum_57 rfl ?_
    exact z_at (pc2 := 58) (lv2 := [(0, .ref (aO 0)), (1, .int x1)]) (st2 := [.int (0 : Int32)]) (ws2 := [wX8 (zcT C) aO sO]) rfl rfl rfl [0, 1] rfl (bX8_readSum_58 X hQ hk12 h)
  · replace h := zif_t h c50
    refine z_iconst (v := (1 : Int32)) X dX8_readSum_53 rfl ?_
    refine z_goto (tgt := 58) X dX8_readSum_54 (by decide) ?_
    exact z_at (pc2 := 58) (lv2 := [(0, .ref (aO 0)), (1, .int x1)]) (st2 := [.int (1 : Int32)]) (ws2 := [wX8 (zcT C) aO sO]) rfl rfl rfl [0, 1] rfl (bX8_readSum_58 X hQ hk12 h)
theorem bX8_readSum_12 {C : zCtx} (X : zFx C cX8_readSum 3 RX8 rmX8_readSum none) {aO : Nat → Nat} {out : zSt} (hQ : zHv C [wX8 (zcT C) aO out] 0 0) : ∀ (n : Nat) (sO : zSt) (x1 : Int32), fX8_readSum_12 n sO x1 = some out → zG C 3 [0] 0 0 [wX8 (zcT C) aO sO] 12 [(0, .ref (aO 0)), (1, .int x1)] [] := by
  intro n
  induction n with
  | zero =>
    intro sO x1 h
    rw [fX8_readSum_12] at h
    exact zno h
  | succ n ih =>
    intro sO x1 h
    rw [fX8_readSum_12] at h
    refine z_iload_n X dX8_readSum_12 1 rfl ?_
    refine z_bipush (v := (30 : Int32)) X dX8_readSum_13 rfl ?_
    refine z_icmp_ge (tgt := 80) X dX8_readSum_15 (by decide) (fun c15 => ?_) (fun c15 => ?_)
    · replace h := zif_t h c15
      cases h
      exact z_vret X hQ dX8_readSum_80 [0] rfl (by decide) (by decide)
    · replace h := zif_f h c15
      refine z_aload_n X dX8_readSum_18 0 rfl ?_
      obtain ⟨o19, ho19, h⟩ := zbind_of h
      refine z_callVi (st := []) (ws2 := [wX8 (zcT C) aO sO]) X (metX8_hasFault (zcl C) (zcD C) (zcT C) aO ho19) zmX8_hasFault zw432 dX8_readSum_19 0 0 9 rfl rfl rfl rfl [0] rfl rfl [] rfl (by decide) trivial rfl rfl rfl (Nat.le_of_ble_eq_true rfl) rfl rfl ⟨Nat.le_of_ble_eq_true rfl, Nat.le_of_ble_eq_true rfl⟩ ⟨Nat.le_of_ble_eq_true rfl, Nat.le_of_ble_eq_true rfl⟩ ?_
      refine z_if_ne (tgt := 43) X dX8_readSum_22 (by decide) (fun c22 => ?_) (fun c22 => ?_)
      · replace h := zif_f h c22
        exact z_at (pc2 := 43) (lv2 := []) (st2 := []) (ws2 := [wX8 (zcT C) aO sO]) rfl rfl rfl [] rfl (bX8_readSum_43 X hQ  h)
      · replace h := zif_t h c22
        refine z_aload_n X dX8_readSum_25 0 rfl ?_
        obtain ⟨o26, ho26, h⟩ := zbind_of h
        refine z_callVi (st := []) (ws2 := [wX8 (zcT C) aO sO]) X (metX8_here (zcl C) (zcD C) (zcT C) aO ho26) zmX8_here zw424 dX8_readSum_26 0 0 9 rfl rfl rfl rfl [0] rfl rfl [] rfl (by decide) trivial rfl rfl rfl (Nat.le_of_ble_eq_true rfl) rfl rfl ⟨Nat.le_of_ble_eq_true rfl, Nat.le_of_ble_eq_true rfl⟩ ⟨Nat.le_of_ble_eq_true rfl, Nat.le_of_ble_eq_true rfl⟩ ?_
        refine z_bipush (v := (43 : Int32)) X dX8_readSum_29 rfl ?_
        refine z_icmp_eq (tgt := 44) X dX8_readSum_31 (by decide) (fun c31 => ?_) (fun c31 => ?_)
        · replace h := zif_t h c31
          exact z_at (pc2 := 44) (lv2 := [(0, .ref (aO 0)), (1, .int x1)]) (st2 := []) (ws2 := [wX8 (zcT C) aO sO]) rfl rfl rfl [0, 1] rfl (bX8_readSum_44 X hQ ih h)
        · replace h := zif_f h c31
          refine z_aload_n X dX8_readSum_34 0 rfl ?_
          obtain ⟨o35, ho35, h⟩ := zbind_of h
          refine z_callVi (st := []) (ws2 := [wX8 (zcT C) aO sO]) X (metX8_here (zcl C) (zcD C) (zcT C) aO ho35) zmX8_here zw424 dX8_readSum_35 0 0 9 rfl rfl rfl rfl [0] rfl rfl [] rfl (by decide) trivial rfl rfl rfl (Nat.le_of_ble_eq_true rfl) rfl rfl ⟨Nat.le_of_ble_eq_true rfl, Nat.le_of_ble_eq_true rfl⟩ ⟨Nat.le_of_ble_eq_true rfl, Nat.le_of_ble_eq_true rfl⟩ ?_
          refine z_bipush (v := (45 : Int32)) X dX8_readSum_38 rfl ?_
          refine z_icmp_eq (tgt := 44) X dX8_readSum_40 (by decide) (fun c40 => ?_) (fun c40 => ?_)
          · replace h := zif_t h c40
            exact z_at (pc2 := 44) (lv2 := [(0, .ref (aO 0)), (1, .int x1)]) (st2 := []) (ws2 := [wX8 (zcT C) aO sO]) rfl rfl rfl [0, 1] rfl (bX8_readSum_44 X hQ ih h)
          · replace h := zif_f h c40
            exact z_at (pc2 := 43) (lv2 := []) (st2 := []) (ws2 := [wX8 (zcT C) aO sO]) rfl rfl rfl [] rfl (bX8_readSum_43 X hQ  h)
theorem bX8_readSum_0 {C : zCtx} (X : zFx C cX8_readSum 3 RX8 rmX8_readSum none) {aO : Nat → Nat} {sO : zSt} {out : zSt} (hQ : zHv C [wX8 (zcT C) aO out] 0 0) (h : fX8_readSum sO = some out) : zG C 3 [0] 0 0 [wX8 (zcT C) aO sO] 0 [(0, .ref (aO 0))] [] := by
  unfold fX8_readSum at h
  refine z_aload_n X dX8_readSum_0 0 rfl ?_
  refine z_aload_n X dX8_readSum_1 0 rfl ?_
  refine z_bipush (v := (45 : Int32)) X dX8_readSum_2 rfl ?_
  obtain ⟨o4, ho4, h⟩ := zbind_of h
  refine z_callVi (st := [.ref (aO 0)]) (ws2 := [wX8 (zcT C) aO o4.2]) X (metX8_takes (zcl C) (zcD C) (zcT C) aO ho4) zmX8_takes zw436 dX8_readSum_4 0 0 9 rfl rfl rfl rfl [0] rfl rfl [0] rfl (by decide) ⟨zsX8 , trivial⟩ rfl rfl rfl (Nat.le_of_ble_eq_true rfl) rfl rfl ⟨Nat.le_of_ble_eq_true rfl, Nat.le_of_ble_eq_true rfl⟩ ⟨Nat.le_of_ble_eq_true rfl, Nat.le_of_ble_eq_true rfl⟩ ?_
  obtain ⟨o7, ho7, h⟩ := zbind_of h
  refine z_callVv (st := []) (ws2 := [wX8 (zcT C) aO o7]) X (metX8_readTerm (zcl C) (zcD C) (zcT C) aO ho7) zmX8_readTerm zw448 dX8_readSum_7 0 0 9 rfl rfl rfl rfl [0] rfl rfl [0] rfl (by decide) ⟨zsX8 , trivial⟩ rfl rfl rfl (Nat.le_of_ble_eq_true rfl) rfl rfl ⟨Nat.le_of_ble_eq_true rfl, Nat.le_of_ble_eq_true rfl⟩ ⟨Nat.le_of_ble_eq_true rfl, Nat.le_of_ble_eq_true rfl⟩ ?_
  refine z_iconst (v := (1 : Int32)) X dX8_readSum_10 rfl ?_
  refine z_istore_n (lv2 := [(1, .int (1 : Int32)), (0, .ref (aO 0))]) X dX8_readSum_11 rfl (by decide) rfl ?_
  exact z_at (pc2 := 12) (lv2 := [(0, .ref (aO 0)), (1, .int (1 : Int32))]) (st2 := []) (ws2 := [wX8 (zcT C) aO o7]) rfl rfl rfl [1, 0] rfl (bX8_readSum_12 X hQ  6000 o7 (1 : Int32) h)
theorem metX8_readSum (l : Launch) (D : va_G) (T : Nat → ClassId) (aO : Nat → Nat) {sO : zSt} {out : zSt} (hf : fX8_readSum sO = some out) (sz : Nat) : Met l yX8_readSum (zws yX8_readSum cX8_readSum 3 none) rmX8_readSum (zPc D T [.ref (aO 0)] [wX8 T aO sO] sz) (zQv D [wX8 T aO out] (zA [wX8 T aO sO] sz)) 0 0 (zA [wX8 T aO sO] sz) :=
  zMet (D := D) (T := T) (av := [.ref (aO 0)]) (ws := fun T => [wX8 T aO sO]) (wm := fun T => [wX8 T aO sO]) (lv0 := [(0, .ref (aO 0))]) [0] (Qc := fun D T A => zQv D [wX8 T aO out] A) (by decide +kernel) rfl (Nat.le_of_ble_eq_true rfl) rfl (fun C X hQ => bX8_readSum_0 X hQ hf) sz
/-- private void readAim(); of Tableaufloor$Text -/
abbrev rmX8_readAim : Room := { frames := 3, cells := 0, slots := 0, locals := 66 }
def fX8_readAim_56 (sO : zSt) (y1 : Int32) : Option (zSt) :=
  ((fX8_pass sO y1).bind (fun o56 =>
    ((fX8_readSum o56).bind (fun o60 =>
    some (o60)))))
def fX8_readAim_38 (sO : zSt) (y1 : Int32) : Option (zSt) :=
  ((fX8_pass sO y1).bind (fun o38 =>
    (if 0 ≤ (zgi o38 7) then
    (fX8_readAim_56 o38 (120 : Int32))
  else
    (fX8_readAim_56 o38 (110 : Int32)))))
def fX8_readAim_20 (sO : zSt) (y1 : Int32) : Option (zSt) :=
  (zlet (zsi sO 7 y1) (fun sO20 =>
    (if 0 ≤ (zgi sO20 7) then
    (fX8_readAim_38 sO20 (97 : Int32))
  else
    (fX8_readAim_38 sO20 (105 : Int32)))))
def fX8_readAim (sO : zSt) : Option (zSt) :=
  (zlet (zsi sO 4 (1 : Int32)) (fun sO2 =>
    ((fX8_here sO2).bind (fun o7 =>
    (if o7 = (105 : Int32) then
    (fX8_readAim_20 sO2 (-1 : Int32))
  else
    (fX8_readAim_20 sO2 (1 : Int32)))))))
theorem bX8_readAim_56 {C : zCtx} (X : zFx C cX8_readAim 1 RX8 rmX8_readAim none) {aO : Nat → Nat} {sO : zSt} {y1 : Int32} {out : zSt} (hQ : zHv C [wX8 (zcT C) aO out] 0 0) (h : fX8_readAim_56 sO y1 = some out) : zG C 1 [0] 0 0 [wX8 (zcT C) aO sO] 56 [(0, .ref (aO 0))] [.int y1, .ref (aO 0)] := by
  unfold fX8_readAim_56 at h
  obtain ⟨o56, ho56, h⟩ := zbind_of h
  refine z_callVv (st := []) (ws2 := [wX8 (zcT C) aO o56]) X (metX8_pass (zcl C) (zcD C) (zcT C) aO ho56) zmX8_pass zw428 dX8_readAim_56 0 0 9 rfl rfl rfl rfl [0] rfl rfl [0] rfl (by decide) ⟨zsX8 , trivial⟩ rfl rfl rfl (Nat.le_of_ble_eq_true rfl) rfl rfl ⟨Nat.le_of_ble_eq_true rfl, Nat.le_of_ble_eq_true rfl⟩ ⟨Nat.le_of_ble_eq_true rfl, Nat.le_of_ble_eq_true rfl⟩ ?_
  refine z_aload_n X dX8_readAim_59 0 rfl ?_
  obtain ⟨o60, ho60, h⟩ := zbind_of h
  refine z_callVv (st := []) (ws2 := [wX8 (zcT C) aO o60]) X (metX8_readSum (zcl C) (zcD C) (zcT C) aO ho60) zmX8_readSum zw444 dX8_readAim_60 0 0 9 rfl rfl rfl rfl [0] rfl rfl [0] rfl (by decide) ⟨zsX8 , trivial⟩ rfl rfl rfl (Nat.le_of_ble_eq_true rfl) rfl rfl ⟨Nat.le_of_ble_eq_true rfl, Nat.le_of_ble_eq_true rfl⟩ ⟨Nat.le_of_ble_eq_true rfl, Nat.le_of_ble_eq_true rfl⟩ ?_
  cases h
  exact z_vret X hQ dX8_readAim_63 [0] rfl (by decide) (by decide)
theorem bX8_readAim_38 {C : zCtx} (X : zFx C cX8_readAim 1 RX8 rmX8_readAim none) {aO : Nat → Nat} {sO : zSt} {y1 : Int32} {out : zSt} (hQ : zHv C [wX8 (zcT C) aO out] 0 0) (h : fX8_readAim_38 sO y1 = some out) : zG C 1 [0] 0 0 [wX8 (zcT C) aO sO] 38 [(0, .ref (aO 0))] [.int y1, .ref (aO 0)] := by
  unfold fX8_readAim_38 at h
  obtain ⟨o38, ho38, h⟩ := zbind_of h
  refine z_callVv (st := []) (ws2 := [wX8 (zcT C) aO o38]) X (metX8_pass (zcl C) (zcD C) (zcT C) aO ho38) zmX8_pass zw428 dX8_readAim_38 0 0 9 rfl rfl rfl rfl [0] rfl rfl [0] rfl (by decide) ⟨zsX8 , trivial⟩ rfl rfl rfl (Nat.le_of_ble_eq_true rfl) rfl rfl ⟨Nat.le_of_ble_eq_true rfl, Nat.le_of_ble_eq_true rfl⟩ ⟨Nat.le_of_ble_eq_true rfl, Nat.le_of_ble_eq_true rfl⟩ ?_
  refine z_aload_n X dX8_readAim_41 0 rfl ?_
  refine z_aload_n X dX8_readAim_42 0 rfl ?_
  refine z_get (v := .int (zgi o38 7)) X 0 0 9 7 ziX8 rfl (by decide) zw117 rfl dX8_readAim_43 rfl rfl rfl ?_
  refine z_if_ge (tgt := 54) X dX8_readAim_46 (by decide) (fun c46 => ?_) (fun c46 => ?_)
  · replace h := zif_t h c46
    refine z_bipush (v := (120 : Int32)) X dX8_readAim_54 rfl ?_
    exact z_at (pc2 := 56) (lv2 := [(0, .ref (aO 0))]) (st2 := [.int (120 : Int32), .ref (aO 0)]) (ws2 := [wX8 (zcT C) aO o38]) rfl rfl rfl [0] rfl (bX8_readAim_56 X hQ  h)
  · replace h := zif_f h c46
    refine z_bipush (v := (110 : Int32)) X dX8_readAim_49 rfl ?_
    refine z_goto (tgt := 56) X dX8_readAim_51 (by decide) ?_
    exact z_at (pc2 := 56) (lv2 := [(0, .ref (aO 0))]) (st2 := [.int (110 : Int32), .ref (aO 0)]) (ws2 := [wX8 (zcT C) aO o38]) rfl rfl rfl [0] rfl (bX8_readAim_56 X hQ  h)
theorem bX8_readAim_20 {C : zCtx} (X : zFx C cX8_readAim 1 RX8 rmX8_readAim none) {aO : Nat → Nat} {sO : zSt} {y1 : Int32} {out : zSt} (hQ : zHv C [wX8 (zcT C) aO out] 0 0) (h : fX8_readAim_20 sO y1 = some out) : zG C 1 [0] 0 0 [wX8 (zcT C) aO sO] 20 [(0, .ref (aO 0))] [.int y1, .ref (aO 0)] := by
  unfold fX8_readAim_20 at h
  obtain ⟨sO20, esO20, h⟩ := zlet_of h
  refine z_put (ws2 := [wX8 (zcT C) aO sO20]) X 0 0 9 7 ziX8 rfl tyX8 tyX8_ok nmX8 (by decide) zw117 rfl rfl (ty := .int) (by decide +kernel) rfl rfl (by show 7 < 10; decide) dX8_readAim_20 rfl rfl (by decide) (w2 := wX8 (zcT C) aO sO20) (by rw [esO20]; rfl) rfl ?_
  refine z_aload_n X dX8_readAim_23 0 rfl ?_
  refine z_aload_n X dX8_readAim_24 0 rfl ?_
  refine z_get (v := .int (zgi sO20 7)) X 0 0 9 7 ziX8 rfl (by decide) zw117 rfl dX8_readAim_25 rfl rfl rfl ?_
  refine z_if_ge (tgt := 36) X dX8_readAim_28 (by decide) (fun c28 => ?_) (fun c28 => ?_)
  · replace h := zif_t h c28
    refine z_bipush (v := (97 : Int32)) X dX8_readAim_36 rfl ?_
    exact z_at (pc2 := 38) (lv2 := [(0, .ref (aO 0))]) (st2 := [.int (97 : Int32), .ref (aO 0)]) (ws2 := [wX8 (zcT C) aO sO20]) rfl rfl rfl [0] rfl (bX8_readAim_38 X hQ  h)
  · replace h := zif_f h c28
    refine z_bipush (v := (105 : Int32)) X dX8_readAim_31 rfl ?_
    refine z_goto (tgt := 38) X dX8_readAim_33 (by decide) ?_
    exact z_at (pc2 := 38) (lv2 := [(0, .ref (aO 0))]) (st2 := [.int (105 : Int32), .ref (aO 0)]) (ws2 := [wX8 (zcT C) aO sO20]) rfl rfl rfl [0] rfl (bX8_readAim_38 X hQ  h)
theorem bX8_readAim_0 {C : zCtx} (X : zFx C cX8_readAim 1 RX8 rmX8_readAim none) {aO : Nat → Nat} {sO : zSt} {out : zSt} (hQ : zHv C [wX8 (zcT C) aO out] 0 0) (h : fX8_readAim sO = some out) : zG C 1 [0] 0 0 [wX8 (zcT C) aO sO] 0 [(0, .ref (aO 0))] [] := by
  unfold fX8_readAim at h
  refine z_aload_n X dX8_readAim_0 0 rfl ?_
  refine z_iconst (v := (1 : Int32)) X dX8_readAim_1 rfl ?_
  obtain ⟨sO2, esO2, h⟩ := zlet_of h
  refine z_put (ws2 := [wX8 (zcT C) aO sO2]) X 0 0 9 4 ziX8 rfl tyX8 tyX8_ok nmX8 (by decide) zw112 rfl rfl (ty := .int) (by decide +kernel) rfl rfl (by show 4 < 10; decide) dX8_readAim_2 rfl rfl (by decide) (w2 := wX8 (zcT C) aO sO2) (by rw [esO2]; rfl) rfl ?_
  refine z_aload_n X dX8_readAim_5 0 rfl ?_
  refine z_aload_n X dX8_readAim_6 0 rfl ?_
  obtain ⟨o7, ho7, h⟩ := zbind_of h
  refine z_callVi (st := [.ref (aO 0)]) (ws2 := [wX8 (zcT C) aO sO2]) X (metX8_here (zcl C) (zcD C) (zcT C) aO ho7) zmX8_here zw424 dX8_readAim_7 0 0 9 rfl rfl rfl rfl [0] rfl rfl [] rfl (by decide) trivial rfl rfl rfl (Nat.le_of_ble_eq_true rfl) rfl rfl ⟨Nat.le_of_ble_eq_true rfl, Nat.le_of_ble_eq_true rfl⟩ ⟨Nat.le_of_ble_eq_true rfl, Nat.le_of_ble_eq_true rfl⟩ ?_
  refine z_bipush (v := (105 : Int32)) X dX8_readAim_10 rfl ?_
  refine z_icmp_ne (tgt := 19) X dX8_readAim_12 (by decide) (fun c12 => ?_) (fun c12 => ?_)
  · replace h := zif_f h c12
    refine z_iconst (v := (1 : Int32)) X dX8_readAim_19 rfl ?_
    exact z_at (pc2 := 20) (lv2 := [(0, .ref (aO 0))]) (st2 := [.int (1 : Int32), .ref (aO 0)]) (ws2 := [wX8 (zcT C) aO sO2]) rfl rfl rfl [0] rfl (bX8_readAim_20 X hQ  h)
  · replace h := zif_t h c12
    refine z_iconst (v := (-1 : Int32)) X dX8_readAim_15 rfl ?_
    refine z_goto (tgt := 20) X dX8_readAim_16 (by decide) ?_
    exact z_at (pc2 := 20) (lv2 := [(0, .ref (aO 0))]) (st2 := [.int (-1 : Int32), .ref (aO 0)]) (ws2 := [wX8 (zcT C) aO sO2]) rfl rfl rfl [0] rfl (bX8_readAim_20 X hQ  h)
theorem metX8_readAim (l : Launch) (D : va_G) (T : Nat → ClassId) (aO : Nat → Nat) {sO : zSt} {out : zSt} (hf : fX8_readAim sO = some out) (sz : Nat) : Met l yX8_readAim (zws yX8_readAim cX8_readAim 1 none) rmX8_readAim (zPc D T [.ref (aO 0)] [wX8 T aO sO] sz) (zQv D [wX8 T aO out] (zA [wX8 T aO sO] sz)) 0 0 (zA [wX8 T aO sO] sz) :=
  zMet (D := D) (T := T) (av := [.ref (aO 0)]) (ws := fun T => [wX8 T aO sO]) (wm := fun T => [wX8 T aO sO]) (lv0 := [(0, .ref (aO 0))]) [0] (Qc := fun D T A => zQv D [wX8 T aO out] A) (by decide +kernel) rfl (Nat.le_of_ble_eq_true rfl) rfl (fun C X hQ => bX8_readAim_0 X hQ hf) sz
/-- private void readRelation(); of Tableaufloor$Text -/
abbrev rmX8_readRelation : Room := { frames := 3, cells := 0, slots := 0, locals := 63 }
def fX8_readRelation_44 (sO : zSt) : Option (zSt) :=
  ((fX8_pass sO (61 : Int32)).bind (fun o47 =>
    some (o47)))
def fX8_readRelation_34 (sO : zSt) : Option (zSt) :=
  (zlet (zsi sO 4 ((zgi sO 4) + (1 : Int32))) (fun sO41 =>
    (fX8_readRelation_44 sO41)))
def fX8_readRelation (sO : zSt) : Option (zSt) :=
  ((fX8_hasFault sO).bind (fun o1 =>
    (if o1 = 0 then
    ((fX8_here sO).bind (fun o10 =>
      (if znar .char o10 = true then
      (zlet (zsi sO 8 o10) (fun sO13 =>
      (if (zgi sO13 8) = (60 : Int32) then
      (fX8_readRelation_34 sO13)
    else
      (if (zgi sO13 8) = (62 : Int32) then
        (fX8_readRelation_34 sO13)
      else
        (fX8_readRelation_44 sO13))))) else none)))
  else
    some (sO))))
theorem bX8_readRelation_44 {C : zCtx} (X : zFx C cX8_readRelation 1 RX8 rmX8_readRelation none) {aO : Nat → Nat} {sO : zSt} {out : zSt} (hQ : zHv C [wX8 (zcT C) aO out] 0 0) (h : fX8_readRelation_44 sO = some out) : zG C 1 [0] 0 0 [wX8 (zcT C) aO sO] 44 [(0, .ref (aO 0))] [] := by
  unfold fX8_readRelation_44 at h
  refine z_aload_n X dX8_readRelation_44 0 rfl ?_
  refine z_bipush (v := (61 : Int32)) X dX8_readRelation_45 rfl ?_
  obtain ⟨o47, ho47, h⟩ := zbind_of h
  refine z_callVv (st := []) (ws2 := [wX8 (zcT C) aO o47]) X (metX8_pass (zcl C) (zcD C) (zcT C) aO ho47) zmX8_pass zw428 dX8_readRelation_47 0 0 9 rfl rfl rfl rfl [0] rfl rfl [0] rfl (by decide) ⟨zsX8 , trivial⟩ rfl rfl rfl (Nat.le_of_ble_eq_true rfl) rfl rfl ⟨Nat.le_of_ble_eq_true rfl, Nat.le_of_ble_eq_true rfl⟩ ⟨Nat.le_of_ble_eq_true rfl, Nat.le_of_ble_eq_true rfl⟩ ?_
  cases h
  exact z_vret X hQ dX8_readRelation_50 [0] rfl (by decide) (by decide)
theorem bX8_readRelation_34 {C : zCtx} (X : zFx C cX8_readRelation 1 RX8 rmX8_readRelation none) {aO : Nat → Nat} {sO : zSt} {out : zSt} (hQ : zHv C [wX8 (zcT C) aO out] 0 0) (h : fX8_readRelation_34 sO = some out) : zG C 1 [0] 0 0 [wX8 (zcT C) aO sO] 34 [(0, .ref (aO 0))] [] := by
  unfold fX8_readRelation_34 at h
  refine z_aload_n X dX8_readRelation_34 0 rfl ?_
  refine z_dup X dX8_readRelation_35 rfl ?_
  refine z_get (v := .int (zgi sO 4)) X 0 0 9 4 ziX8 rfl (by decide) zw112 rfl dX8_readRelation_36 rfl rfl rfl ?_
  refine z_iconst (v := (1 : Int32)) X dX8_readRelation_39 rfl ?_
  refine z_iadd X dX8_readRelation_40 ?_
  obtain ⟨sO41, esO41, h⟩ := zlet_of h
  refine z_put (ws2 := [wX8 (zcT C) aO sO41]) X 0 0 9 4 ziX8 rfl tyX8 tyX8_ok nmX8 (by decide) zw112 rfl rfl (ty := .int) (by decide +kernel) rfl rfl (by show 4 < 10; decide) dX8_readRelation_41 rfl rfl (by decide) (w2 := wX8 (zcT C) aO sO41) (by rw [esO41]; rfl) rfl ?_
  exact z_at (pc2 := 44) (lv2 := [(0, .ref (aO 0))]) (st2 := []) (ws2 := [wX8 (zcT C) aO sO41]) rfl rfl rfl [0] rfl (bX8_readRelation_44 X hQ  h)
theorem bX8_readRelation_0 {C : zCtx} (X : zFx C cX8_readRelation 1 RX8 rmX8_readRelation none) {aO : Nat → Nat} {sO : zSt} {out : zSt} (hQ : zHv C [wX8 (zcT C) aO out] 0 0) (h : fX8_readRelation sO = some out) : zG C 1 [0] 0 0 [wX8 (zcT C) aO sO] 0 [(0, .ref (aO 0))] [] := by
  unfold fX8_readRelation at h
  refine z_aload_n X dX8_readRelation_0 0 rfl ?_
  obtain ⟨o1, ho1, h⟩ := zbind_of h
  refine z_callVi (st := []) (ws2 := [wX8 (zcT C) aO sO]) X (metX8_hasFault (zcl C) (zcD C) (zcT C) aO ho1) zmX8_hasFault zw432 dX8_readRelation_1 0 0 9 rfl rfl rfl rfl [0] rfl rfl [] rfl (by decide) trivial rfl rfl rfl (Nat.le_of_ble_eq_true rfl) rfl rfl ⟨Nat.le_of_ble_eq_true rfl, Nat.le_of_ble_eq_true rfl⟩ ⟨Nat.le_of_ble_eq_true rfl, Nat.le_of_ble_eq_true rfl⟩ ?_
  refine z_if_eq (tgt := 8) X dX8_readRelation_4 (by decide) (fun c4 => ?_) (fun c4 => ?_)
  · replace h := zif_t h c4
    refine z_aload_n X dX8_readRelation_8 0 rfl ?_
    refine z_aload_n X dX8_readRelation_9 0 rfl ?_
    obtain ⟨o10, ho10, h⟩ := zbind_of h
    refine z_callVi (st := [.ref (aO 0)]) (ws2 := [wX8 (zcT C) aO sO]) X (metX8_here (zcl C) (zcD C) (zcT C) aO ho10) zmX8_here zw424 dX8_readRelation_10 0 0 9 rfl rfl rfl rfl [0] rfl rfl [] rfl (by decide) trivial rfl rfl rfl (Nat.le_of_ble_eq_true rfl) rfl rfl ⟨Nat.le_of_ble_eq_true rfl, Nat.le_of_ble_eq_true rfl⟩ ⟨Nat.le_of_ble_eq_true rfl, Nat.le_of_ble_eq_true rfl⟩ ?_
    obtain ⟨g13, h⟩ := zgd_of h
    obtain ⟨sO13, esO13, h⟩ := zlet_of h
    refine z_put (ws2 := [wX8 (zcT C) aO sO13]) X 0 0 9 8 ziX8 rfl tyX8 tyX8_ok nmX8 (by decide) zw119 rfl rfl (ty := .char) (by decide +kernel) (znar_of g13).1 (znar_of g13).2 (by show 8 < 10; decide) dX8_readRelation_13 rfl rfl (by decide) (w2 := wX8 (zcT C) aO sO13) (by rw [esO13]; rfl) rfl ?_
    refine z_aload_n X dX8_readRelation_16 0 rfl ?_
    refine z_get (v := .int (zgi sO13 8)) X 0 0 9 8 ziX8 rfl (by decide) zw119 rfl dX8_readRelation_17 rfl rfl rfl ?_
    refine z_bipush (v := (60 : Int32)) X dX8_readRelation_20 rfl ?_
    refine z_icmp_eq (tgt := 34) X dX8_readRelation_22 (by decide) (fun c22 => ?_) (fun c22 => ?_)
    · replace h := zif_t h c22
      exact z_at (pc2 := 34) (lv2 := [(0, .ref (aO 0))]) (st2 := []) (ws2 := [wX8 (zcT C) aO sO13]) rfl rfl rfl [0] rfl (bX8_readRelation_34 X hQ  h)
    · replace h := zif_f h c22
      refine z_aload_n X dX8_readRelation_25 0 rfl ?_
      refine z_get (v := .int (zgi sO13 8)) X 0 0 9 8 ziX8 rfl (by decide) zw119 rfl dX8_readRelation_26 rfl rfl rfl ?_
      refine z_bipush (v := (62 : Int32)) X dX8_readRelation_29 rfl ?_
      refine z_icmp_ne (tgt := 44) X dX8_readRelation_31 (by decide) (fun c31 => ?_) (fun c31 => ?_)
      · replace h := zif_f h c31
        exact z_at (pc2 := 44) (lv2 := [(0, .ref (aO 0))]) (st2 := []) (ws2 := [wX8 (zcT C) aO sO13]) rfl rfl rfl [0] rfl (bX8_readRelation_44 X hQ  h)
      · replace h := zif_t h c31
        exact z_at (pc2 := 34) (lv2 := [(0, .ref (aO 0))]) (st2 := []) (ws2 := [wX8 (zcT C) aO sO13]) rfl rfl rfl [0] rfl (bX8_readRelation_34 X hQ  h)
  · replace h := zif_f h c4
    cases h
    exact z_vret X hQ dX8_readRelation_7 [0] rfl (by decide) (by decide)
theorem metX8_readRelation (l : Launch) (D : va_G) (T : Nat → ClassId) (aO : Nat → Nat) {sO : zSt} {out : zSt} (hf : fX8_readRelation sO = some out) (sz : Nat) : Met l yX8_readRelation (zws yX8_readRelation cX8_readRelation 1 none) rmX8_readRelation (zPc D T [.ref (aO 0)] [wX8 T aO sO] sz) (zQv D [wX8 T aO out] (zA [wX8 T aO sO] sz)) 0 0 (zA [wX8 T aO sO] sz) :=
  zMet (D := D) (T := T) (av := [.ref (aO 0)]) (ws := fun T => [wX8 T aO sO]) (wm := fun T => [wX8 T aO sO]) (lv0 := [(0, .ref (aO 0))]) [0] (Qc := fun D T A => zQv D [wX8 T aO out] A) (by decide +kernel) rfl (Nat.le_of_ble_eq_true rfl) rfl (fun C X hQ => bX8_readRelation_0 X hQ hf) sz
/-- private void readNumber(); of Tableaufloor$Text -/
abbrev rmX8_readNumber : Room := { frames := 2, cells := 0, slots := 0, locals := 42 }
def fX8_readNumber_105 (sO : zSt) : Option (zSt) :=
  some (sO)
def fX8_readNumber_92 (sO : zSt) (x1 : Int32) : Option (zSt) :=
  (if x1 = 0 then
    (fX8_readNumber_105 sO)
  else
    (zlet (zsi sO 9 (-(zgi sO 9))) (fun sO102 =>
      (fX8_readNumber_105 sO102))))
def fX8_readNumber (sO : zSt) : Option (zSt) :=
  ((fX8_takes sO (45 : Int32)).bind (fun o3 =>
    ((fX8_hasFault o3.2).bind (fun o8 =>
    (if o8 = 0 then
    ((fX8_here o3.2).bind (fun o16 =>
      ((fX8_isDigit o16).bind (fun o19 =>
      (if o19 = 0 then
      ((fX8_blame o3.2 (115 : Int32)).bind (fun o28 =>
        some (o28)))
    else
      ((fX8_here o3.2).bind (fun o34 =>
        (zlet (zsi o3.2 9 (o34 - (48 : Int32))) (fun sO40 =>
        (zlet (zsi sO40 4 ((zgi sO40 4) + (1 : Int32))) (fun sO50 =>
        ((fX8_here sO50).bind (fun o54 =>
        ((fX8_isDigit o54).bind (fun o57 =>
        (if o57 = 0 then
        (fX8_readNumber_92 sO50 o3.1)
      else
        ((fX8_here sO50).bind (fun o72 =>
          (zlet (zsi sO50 9 ((((zgi sO50 9) * (10 : Int32)) + o72) - (48 : Int32))) (fun sO79 =>
          (zlet (zsi sO79 4 ((zgi sO79 4) + (1 : Int32))) (fun sO89 =>
          (fX8_readNumber_92 sO89 o3.1)))))))))))))))))))))))
  else
    some (o3.2))))))
theorem bX8_readNumber_105 {C : zCtx} (X : zFx C cX8_readNumber 2 RX8 rmX8_readNumber none) {aO : Nat → Nat} {sO : zSt} {out : zSt} (hQ : zHv C [wX8 (zcT C) aO out] 0 0) (h : fX8_readNumber_105 sO = some out) : zG C 2 [0] 0 0 [wX8 (zcT C) aO sO] 105 [] [] := by
  unfold fX8_readNumber_105 at h
  cases h
  exact z_vret X hQ dX8_readNumber_105 [0] rfl (by decide) (by decide)
theorem bX8_readNumber_92 {C : zCtx} (X : zFx C cX8_readNumber 2 RX8 rmX8_readNumber none) {aO : Nat → Nat} {sO : zSt} {x1 : Int32} {out : zSt} (hQ : zHv C [wX8 (zcT C) aO out] 0 0) (h : fX8_readNumber_92 sO x1 = some out) : zG C 2 [0] 0 0 [wX8 (zcT C) aO sO] 92 [(0, .ref (aO 0)), (1, .int x1)] [] := by
  unfold fX8_readNumber_92 at h
  refine z_iload_n X dX8_readNumber_92 1 rfl ?_
  refine z_if_eq (tgt := 105) X dX8_readNumber_93 (by decide) (fun c93 => ?_) (fun c93 => ?_)
  · replace h := zif_t h c93
    exact z_at (pc2 := 105) (lv2 := []) (st2 := []) (ws2 := [wX8 (zcT C) aO sO]) rfl rfl rfl [] rfl (bX8_readNumber_105 X hQ  h)
  · replace h := zif_f h c93
    refine z_aload_n X dX8_readNumber_96 0 rfl ?_
    refine z_aload_n X dX8_readNumber_97 0 rfl ?_
    refine z_get (v := .int (zgi sO 9)) X 0 0 9 9 ziX8 rfl (by decide) zw121 rfl dX8_readNumber_98 rfl rfl rfl ?_
    refine z_ineg X dX8_readNumber_101 ?_
    obtain ⟨sO102, esO102, h⟩ := zlet_of h
    refine z_put (ws2 := [wX8 (zcT C) aO sO102]) X 0 0 9 9 ziX8 rfl tyX8 tyX8_ok nmX8 (by decide) zw121 rfl rfl (ty := .int) (by decide +kernel) rfl rfl (by show 9 < 10; decide) dX8_readNumber_102 rfl rfl (by decide) (w2 := wX8 (zcT C) aO sO102) (by rw [esO102]; rfl) rfl ?_
    exact z_at (pc2 := 105) (lv2 := []) (st2 := []) (ws2 := [wX8 (zcT C) aO sO102]) rfl rfl rfl [] rfl (bX8_readNumber_105 X hQ  h)
theorem bX8_readNumber_0 {C : zCtx} (X : zFx C cX8_readNumber 2 RX8 rmX8_readNumber none) {aO : Nat → Nat} {sO : zSt} {out : zSt} (hQ : zHv C [wX8 (zcT C) aO out] 0 0) (h : fX8_readNumber sO = some out) : zG C 2 [0] 0 0 [wX8 (zcT C) aO sO] 0 [(0, .ref (aO 0))] [] := by
  unfold fX8_readNumber at h
  refine z_aload_n X dX8_readNumber_0 0 rfl ?_
  refine z_bipush (v := (45 : Int32)) X dX8_readNumber_1 rfl ?_
  obtain ⟨o3, ho3, h⟩ := zbind_of h
  refine z_callVi (st := []) (ws2 := [wX8 (zcT C) aO o3.2]) X (metX8_takes (zcl C) (zcD C) (zcT C) aO ho3) zmX8_takes zw436 dX8_readNumber_3 0 0 9 rfl rfl rfl rfl [0] rfl rfl [0] rfl (by decide) ⟨zsX8 , trivial⟩ rfl rfl rfl (Nat.le_of_ble_eq_true rfl) rfl rfl ⟨Nat.le_of_ble_eq_true rfl, Nat.le_of_ble_eq_true rfl⟩ ⟨Nat.le_of_ble_eq_true rfl, Nat.le_of_ble_eq_true rfl⟩ ?_
  refine z_istore_n (lv2 := [(1, .int o3.1), (0, .ref (aO 0))]) X dX8_readNumber_6 rfl (by decide) rfl ?_
  refine z_aload_n X dX8_readNumber_7 1 rfl ?_
  obtain ⟨o8, ho8, h⟩ := zbind_of h
  refine z_callVi (st := []) (ws2 := [wX8 (zcT C) aO o3.2]) X (metX8_hasFault (zcl C) (zcD C) (zcT C) aO ho8) zmX8_hasFault zw432 dX8_readNumber_8 0 0 9 rfl rfl rfl rfl [0] rfl rfl [] rfl (by decide) trivial rfl rfl rfl (Nat.le_of_ble_eq_true rfl) rfl rfl ⟨Nat.le_of_ble_eq_true rfl, Nat.le_of_ble_eq_true rfl⟩ ⟨Nat.le_of_ble_eq_true rfl, Nat.le_of_ble_eq_true rfl⟩ ?_
  refine z_if_eq (tgt := 15) X dX8_readNumber_11 (by decide) (fun c11 => ?_) (fun c11 => ?_)
  · replace h := zif_t h c11
    refine z_aload_n X dX8_readNumber_15 1 rfl ?_
    obtain ⟨o16, ho16, h⟩ := zbind_of h
    refine z_callVi (st := []) (ws2 := [wX8 (zcT C) aO o3.2]) X (metX8_here (zcl C) (zcD C) (zcT C) aO ho16) zmX8_here zw424 dX8_readNumber_16 0 0 9 rfl rfl rfl rfl [0] rfl rfl [] rfl (by decide) trivial rfl rfl rfl (Nat.le_of_ble_eq_true rfl) rfl rfl ⟨Nat.le_of_ble_eq_true rfl, Nat.le_of_ble_eq_true rfl⟩ ⟨Nat.le_of_ble_eq_true rfl, Nat.le_of_ble_eq_true rfl⟩ ?_
    obtain ⟨o19, ho19, h⟩ := zbind_of h
    refine z_callSi (st := []) (ws2 := [wX8 (zcT C) aO o3.2]) X (metX8_isDigit (zcl C) (zcD C) (zcT C)  ho19) zmX8_isDigit zw452 dX8_readNumber_19 [] rfl rfl [] rfl (by decide) trivial rfl rfl rfl (Nat.le_of_ble_eq_true rfl) rfl rfl ⟨Nat.le_of_ble_eq_true rfl, Nat.le_of_ble_eq_true rfl⟩ ⟨Nat.le_of_ble_eq_true rfl, Nat.le_of_ble_eq_true rfl⟩ ?_
    refine z_if_ne (tgt := 32) X dX8_readNumber_22 (by decide) (fun c22 => ?_) (fun c22 => ?_)
    · replace h := zif_f h c22
      refine z_aload_n X dX8_readNumber_32 1 rfl ?_
      refine z_aload_n X dX8_readNumber_33 1 rfl ?_
      obtain ⟨o34, ho34, h⟩ := zbind_of h
      refine z_callVi (st := [.ref (aO 0)]) (ws2 := [wX8 (zcT C) aO o3.2]) X (metX8_here (zcl C) (zcD C) (zcT C) aO ho34) zmX8_here zw424 dX8_readNumber_34 0 0 9 rfl rfl rfl rfl [0] rfl rfl [] rfl (by decide) trivial rfl rfl rfl (Nat.le_of_ble_eq_true rfl) rfl rfl ⟨Nat.le_of_ble_eq_true rfl, Nat.le_of_ble_eq_true rfl⟩ ⟨Nat.le_of_ble_eq_true rfl, Nat.le_of_ble_eq_true rfl⟩ ?_
      refine z_bipush (v := (48 : Int32)) X dX8_readNumber_37 rfl ?_
      refine z_isub X dX8_readNumber_39 ?_
      obtain ⟨sO40, esO40, h⟩ := zlet_of h
      refine z_put (ws2 := [wX8 (zcT C) aO sO40]) X 0 0 9 9 ziX8 rfl tyX8 tyX8_ok nmX8 (by decide) zw121 rfl rfl (ty := .int) (by decide +kernel) rfl rfl (by show 9 < 10; decide) dX8_readNumber_40 rfl rfl (by decide) (w2 := wX8 (zcT C) aO sO40) (by rw [esO40]; rfl) rfl ?_
      refine z_aload_n X dX8_readNumber_43 1 rfl ?_
      refine z_dup X dX8_readNumber_44 rfl ?_
      refine z_get (v := .int (zgi sO40 4)) X 0 0 9 4 ziX8 rfl (by decide) zw112 rfl dX8_readNumber_45 rfl rfl rfl ?_
      refine z_iconst (v := (1 : Int32)) X dX8_readNumber_48 rfl ?_
      refine z_iadd X dX8_readNumber_49 ?_
      obtain ⟨sO50, esO50, h⟩ := zlet_of h
      refine z_put (ws2 := [wX8 (zcT C) aO sO50]) X 0 0 9 4 ziX8 rfl tyX8 tyX8_ok nmX8 (by decide) zw112 rfl rfl (ty := .int) (by decide +kernel) rfl rfl (by show 4 < 10; decide) dX8_readNumber_50 rfl rfl (by decide) (w2 := wX8 (zcT C) aO sO50) (by rw [esO50]; rfl) rfl ?_
      refine z_aload_n X dX8_readNumber_53 1 rfl ?_
      obtain ⟨o54, ho54, h⟩ := zbind_of h
      refine z_callVi (st := []) (ws2 := [wX8 (zcT C) aO sO50]) X (metX8_here (zcl C) (zcD C) (zcT C) aO ho54) zmX8_here zw424 dX8_readNumber_54 0 0 9 rfl rfl rfl rfl [0] rfl rfl [] rfl (by decide) trivial rfl rfl rfl (Nat.le_of_ble_eq_true rfl) rfl rfl ⟨Nat.le_of_ble_eq_true rfl, Nat.le_of_ble_eq_true rfl⟩ ⟨Nat.le_of_ble_eq_true rfl, Nat.le_of_ble_eq_true rfl⟩ ?_
      obtain ⟨o57, ho57, h⟩ := zbind_of h
      refine z_callSi (st := []) (ws2 := [wX8 (zcT C) aO sO50]) X (metX8_isDigit (zcl C) (zcD C) (zcT C)  ho57) zmX8_isDigit zw452 dX8_readNumber_57 [] rfl rfl [] rfl (by decide) trivial rfl rfl rfl (Nat.le_of_ble_eq_true rfl) rfl rfl ⟨Nat.le_of_ble_eq_true rfl, Nat.le_of_ble_eq_true rfl⟩ ⟨Nat.le_of_ble_eq_true rfl, Nat.le_of_ble_eq_true rfl⟩ ?_
      refine z_if_eq (tgt := 92) X dX8_readNumber_60 (by decide) (fun c60 => ?_) (fun c60 => ?_)
      · replace h := zif_t h c60
        exact z_at (pc2 := 92) (lv2 := [(0, .ref (aO 0)), (1, .int o3.1)]) (st2 := []) (ws2 := [wX8 (zcT C) aO sO50]) rfl rfl rfl [1, 0] rfl (bX8_readNumber_92 X hQ  h)
      · replace h := zif_f h c60
        refine z_aload_n X dX8_readNumber_63 1 rfl ?_
        refine z_aload_n X dX8_readNumber_64 1 rfl ?_
        refine z_get (v := .int (zgi sO50 9)) X 0 0 9 9 ziX8 rfl (by decide) zw121 rfl dX8_readNumber_65 rfl rfl rfl ?_
        refine z_bipush (v := (10 : Int32)) X dX8_readNumber_68 rfl ?_
        refine z_imul X dX8_readNumber_70 ?_
        refine z_aload_n X dX8_readNumber_71 1 rfl ?_
        obtain ⟨o72, ho72, h⟩ := zbind_of h
        refine z_callVi (st := [.int ((zgi sO50 9) * (10 : Int32)), .ref (aO 0)]) (ws2 := [wX8 (zcT C) aO sO50]) X (metX8_here (zcl C) (zcD C) (zcT C) aO ho72) zmX8_here zw424 dX8_readNumber_72 0 0 9 rfl rfl rfl rfl [0] rfl rfl [] rfl (by decide) trivial rfl rfl rfl (Nat.le_of_ble_eq_true rfl) rfl rfl ⟨Nat.le_of_ble_eq_true rfl, Nat.le_of_ble_eq_true rfl⟩ ⟨Nat.le_of_ble_eq_true rfl, Nat.le_of_ble_eq_true rfl⟩ ?_
        refine z_iadd X dX8_readNumber_75 ?_
        refine z_bipush (v := (48 : Int32)) X dX8_readNumber_76 rfl ?_
        refine z_isub X dX8_readNumber_78 ?_
        obtain ⟨sO79, esO79, h⟩ := zlet_of h
        refine z_put (ws2 := [wX8 (zcT C) aO sO79]) X 0 0 9 9 ziX8 rfl tyX8 tyX8_ok nmX8 (by decide) zw121 rfl rfl (ty := .int) (by decide +kernel) rfl rfl (by show 9 < 10; decide) dX8_readNumber_79 rfl rfl (by decide) (w2 := wX8 (zcT C) aO sO79) (by rw [esO79]; rfl) rfl ?_
        refine z_aload_n X dX8_readNumber_82 1 rfl ?_
        refine z_dup X dX8_readNumber_83 rfl ?_
        refine z_get (v := .int (zgi sO79 4)) X 0 0 9 4 ziX8 rfl (by decide) zw112 rfl dX8_readNumber_84 rfl rfl rfl ?_
        refine z_iconst (v := (1 : Int32)) X dX8_readNumber_87 rfl ?_
        refine z_iadd X dX8_readNumber_88 ?_
        obtain ⟨sO89, esO89, h⟩ := zlet_of h
        refine z_put (ws2 := [wX8 (zcT C) aO sO89]) X 0 0 9 4 ziX8 rfl tyX8 tyX8_ok nmX8 (by decide) zw112 rfl rfl (ty := .int) (by decide +kernel) rfl rfl (by show 4 < 10; decide) dX8_readNumber_89 rfl rfl (by decide) (w2 := wX8 (zcT C) aO sO89) (by rw [esO89]; rfl) rfl ?_
        exact z_at (pc2 := 92) (lv2 := [(0, .ref (aO 0)), (1, .int o3.1)]) (st2 := []) (ws2 := [wX8 (zcT C) aO sO89]) rfl rfl rfl [1, 0] rfl (bX8_readNumber_92 X hQ  h)
    · replace h := zif_t h c22
      refine z_aload_n X dX8_readNumber_25 1 rfl ?_
      refine z_bipush (v := (115 : Int32)) X dX8_readNumber_26 rfl ?_
      obtain ⟨o28, ho28, h⟩ := zbind_of h
      refine z_callVv (st := []) (ws2 := [wX8 (zcT C) aO o28]) X (metX8_blame (zcl C) (zcD C) (zcT C) aO ho28) zmX8_blame zw440 dX8_readNumber_28 0 0 9 rfl rfl rfl rfl [0] rfl rfl [0] rfl (by decide) ⟨zsX8 , trivial⟩ rfl rfl rfl (Nat.le_of_ble_eq_true rfl) rfl rfl ⟨Nat.le_of_ble_eq_true rfl, Nat.le_of_ble_eq_true rfl⟩ ⟨Nat.le_of_ble_eq_true rfl, Nat.le_of_ble_eq_true rfl⟩ ?_
      cases h
      exact z_vret X hQ dX8_readNumber_31 [0] rfl (by decide) (by decide)
  · replace h := zif_f h c11
    cases h
    exact z_vret X hQ dX8_readNumber_14 [0] rfl (by decide) (by decide)
theorem metX8_readNumber (l : Launch) (D : va_G) (T : Nat → ClassId) (aO : Nat → Nat) {sO : zSt} {out : zSt} (hf : fX8_readNumber sO = some out) (sz : Nat) : Met l yX8_readNumber (zws yX8_readNumber cX8_readNumber 2 none) rmX8_readNumber (zPc D T [.ref (aO 0)] [wX8 T aO sO] sz) (zQv D [wX8 T aO out] (zA [wX8 T aO sO] sz)) 0 0 (zA [wX8 T aO sO] sz) :=
  zMet (D := D) (T := T) (av := [.ref (aO 0)]) (ws := fun T => [wX8 T aO sO]) (wm := fun T => [wX8 T aO sO]) (lv0 := [(0, .ref (aO 0))]) [0] (Qc := fun D T A => zQv D [wX8 T aO out] A) (by decide +kernel) rfl (Nat.le_of_ble_eq_true rfl) rfl (fun C X hQ => bX8_readNumber_0 X hQ hf) sz
/-- private void readRow(); of Tableaufloor$Text -/
abbrev rmX8_readRow : Room := { frames := 4, cells := 0, slots := 0, locals := 83 }
def fX8_readRow (sO : zSt) : Option (zSt) :=
  ((fX8_readSum sO).bind (fun o1 =>
    ((fX8_readRelation o1).bind (fun o5 =>
    ((fX8_readNumber o5).bind (fun o9 =>
    some (o9)))))))
theorem bX8_readRow_0 {C : zCtx} (X : zFx C cX8_readRow 1 RX8 rmX8_readRow none) {aO : Nat → Nat} {sO : zSt} {out : zSt} (hQ : zHv C [wX8 (zcT C) aO out] 0 0) (h : fX8_readRow sO = some out) : zG C 1 [0] 0 0 [wX8 (zcT C) aO sO] 0 [(0, .ref (aO 0))] [] := by
  unfold fX8_readRow at h
  refine z_aload_n X dX8_readRow_0 0 rfl ?_
  obtain ⟨o1, ho1, h⟩ := zbind_of h
  refine z_callVv (st := []) (ws2 := [wX8 (zcT C) aO o1]) X (metX8_readSum (zcl C) (zcD C) (zcT C) aO ho1) zmX8_readSum zw444 dX8_readRow_1 0 0 9 rfl rfl rfl rfl [0] rfl rfl [0] rfl (by decide) ⟨zsX8 , trivial⟩ rfl rfl rfl (Nat.le_of_ble_eq_true rfl) rfl rfl ⟨Nat.le_of_ble_eq_true rfl, Nat.le_of_ble_eq_true rfl⟩ ⟨Nat.le_of_ble_eq_true rfl, Nat.le_of_ble_eq_true rfl⟩ ?_
  refine z_aload_n X dX8_readRow_4 0 rfl ?_
  obtain ⟨o5, ho5, h⟩ := zbind_of h
  refine z_callVv (st := []) (ws2 := [wX8 (zcT C) aO o5]) X (metX8_readRelation (zcl C) (zcD C) (zcT C) aO ho5) zmX8_readRelation zw459 dX8_readRow_5 0 0 9 rfl rfl rfl rfl [0] rfl rfl [0] rfl (by decide) ⟨zsX8 , trivial⟩ rfl rfl rfl (Nat.le_of_ble_eq_true rfl) rfl rfl ⟨Nat.le_of_ble_eq_true rfl, Nat.le_of_ble_eq_true rfl⟩ ⟨Nat.le_of_ble_eq_true rfl, Nat.le_of_ble_eq_true rfl⟩ ?_
  refine z_aload_n X dX8_readRow_8 0 rfl ?_
  obtain ⟨o9, ho9, h⟩ := zbind_of h
  refine z_callVv (st := []) (ws2 := [wX8 (zcT C) aO o9]) X (metX8_readNumber (zcl C) (zcD C) (zcT C) aO ho9) zmX8_readNumber zw463 dX8_readRow_9 0 0 9 rfl rfl rfl rfl [0] rfl rfl [0] rfl (by decide) ⟨zsX8 , trivial⟩ rfl rfl rfl (Nat.le_of_ble_eq_true rfl) rfl rfl ⟨Nat.le_of_ble_eq_true rfl, Nat.le_of_ble_eq_true rfl⟩ ⟨Nat.le_of_ble_eq_true rfl, Nat.le_of_ble_eq_true rfl⟩ ?_
  cases h
  exact z_vret X hQ dX8_readRow_12 [0] rfl (by decide) (by decide)
theorem metX8_readRow (l : Launch) (D : va_G) (T : Nat → ClassId) (aO : Nat → Nat) {sO : zSt} {out : zSt} (hf : fX8_readRow sO = some out) (sz : Nat) : Met l yX8_readRow (zws yX8_readRow cX8_readRow 1 none) rmX8_readRow (zPc D T [.ref (aO 0)] [wX8 T aO sO] sz) (zQv D [wX8 T aO out] (zA [wX8 T aO sO] sz)) 0 0 (zA [wX8 T aO sO] sz) :=
  zMet (D := D) (T := T) (av := [.ref (aO 0)]) (ws := fun T => [wX8 T aO sO]) (wm := fun T => [wX8 T aO sO]) (lv0 := [(0, .ref (aO 0))]) [0] (Qc := fun D T A => zQv D [wX8 T aO out] A) (by decide +kernel) rfl (Nat.le_of_ble_eq_true rfl) rfl (fun C X hQ => bX8_readRow_0 X hQ hf) sz
/-- private boolean areCoefficientsInRange(); of Tableaufloor$Text -/
abbrev rmX8_areCoefficientsInRange : Room := { frames := 0, cells := 0, slots := 0, locals := 0 }
def fX8_areCoefficientsInRange_33 (sO : zSt) : Option (Int32) :=
  some ((0 : Int32))
def fX8_areCoefficientsInRange_2 (sO : zSt) : Nat → Int32 → Option (Int32)
  | 0, _ => none
  | n + 1, x1 =>
    (if (3 : Int32) ≤ x1 then
      some ((1 : Int32))
    else
      (if zin x1 3 = true then
        (if (zga sO 1 (x1).toNatClampNeg) < (-9 : Int32) then
        (fX8_areCoefficientsInRange_33 sO)
      else
        (if zin x1 3 = true then
          (if (zga sO 1 (x1).toNatClampNeg) ≤ (9 : Int32) then
          (zlet (x1 + 1) (fun v35 =>
            (fX8_areCoefficientsInRange_2 sO n v35)))
        else
          (fX8_areCoefficientsInRange_33 sO)) else none)) else none))
def fX8_areCoefficientsInRange (sO : zSt) : Option (Int32) :=
  (fX8_areCoefficientsInRange_2 sO 6000 (0 : Int32))
theorem bX8_areCoefficientsInRange_33 {C : zCtx} (X : zFx C cX8_areCoefficientsInRange 2 RX8 rmX8_areCoefficientsInRange (some .boolean)) {aO : Nat → Nat} {sO : zSt} {out : Int32} (hQ : zHi C out [] 0 0) (h : fX8_areCoefficientsInRange_33 sO = some out) : zG C 2 [] 0 0 [wX8 (zcT C) aO sO] 33 [] [] := by
  unfold fX8_areCoefficientsInRange_33 at h
  refine z_iconst (v := (0 : Int32)) X dX8_areCoefficientsInRange_33 rfl ?_
  cases h
  exact z_nret X hQ rfl dX8_areCoefficientsInRange_34 rfl [] rfl (by decide) (by decide)
theorem bX8_areCoefficientsInRange_2 {C : zCtx} (X : zFx C cX8_areCoefficientsInRange 2 RX8 rmX8_areCoefficientsInRange (some .boolean)) {aO : Nat → Nat} {sO : zSt} {out : Int32} (hQ : zHi C out [] 0 0) : ∀ (n : Nat) (x1 : Int32), fX8_areCoefficientsInRange_2 sO n x1 = some out → zG C 2 [] 0 0 [wX8 (zcT C) aO sO] 2 [(0, .ref (aO 0)), (1, .int x1)] [] := by
  intro n
  induction n with
  | zero =>
    intro x1 h
    rw [fX8_areCoefficientsInRange_2] at h
    exact zno h
  | succ n ih =>
    intro x1 h
    rw [fX8_areCoefficientsInRange_2] at h
    refine z_iload_n X dX8_areCoefficientsInRange_2 1 rfl ?_
    refine z_aload_n X dX8_areCoefficientsInRange_3 0 rfl ?_
    refine z_get (v := .ref (aO 2)) X 0 0 9 1 ziX8 rfl (by decide) zw108 rfl dX8_areCoefficientsInRange_4 rfl rfl rfl ?_
    refine z_alen (v := (3 : Int32)) X 0 2 1 rfl rfl dX8_areCoefficientsInRange_7 rfl rfl ?_
    refine z_icmp_ge (tgt := 41) X dX8_areCoefficientsInRange_8 (by decide) (fun c8 => ?_) (fun c8 => ?_)
    · replace h := zif_t h c8
      refine z_iconst (v := (1 : Int32)) X dX8_areCoefficientsInRange_41 rfl ?_
      cases h
      exact z_nret X hQ rfl dX8_areCoefficientsInRange_42 rfl [] rfl (by decide) (by decide)
    · replace h := zif_f h c8
      refine z_aload_n X dX8_areCoefficientsInRange_11 0 rfl ?_
      refine z_get (v := .ref (aO 2)) X 0 0 9 1 ziX8 rfl (by decide) zw108 rfl dX8_areCoefficientsInRange_12 rfl rfl rfl ?_
      refine z_iload_n X dX8_areCoefficientsInRange_15 1 rfl ?_
      obtain ⟨g16, h⟩ := zgd_of h
      refine z_iald X 0 2 g16 dX8_areCoefficientsInRange_16 rfl rfl ?_
      refine z_bipush (v := (-9 : Int32)) X dX8_areCoefficientsInRange_17 rfl ?_
      refine z_icmp_lt (tgt := 33) X dX8_areCoefficientsInRange_19 (by decide) (fun c19 => ?_) (fun c19 => ?_)
      · replace h := zif_t h c19
        exact z_at (pc2 := 33) (lv2 := []) (st2 := []) (ws2 := [wX8 (zcT C) aO sO]) rfl rfl rfl [] rfl (bX8_areCoefficientsInRange_33 X hQ  h)
      · replace h := zif_f h c19
        refine z_aload_n X dX8_areCoefficientsInRange_22 0 rfl ?_
        refine z_get (v := .ref (aO 2)) X 0 0 9 1 ziX8 rfl (by decide) zw108 rfl dX8_areCoefficientsInRange_23 rfl rfl rfl ?_
        refine z_iload_n X dX8_areCoefficientsInRange_26 1 rfl ?_
        obtain ⟨g27, h⟩ := zgd_of h
        refine z_iald X 0 2 g27 dX8_areCoefficientsInRange_27 rfl rfl ?_
        refine z_bipush (v := (9 : Int32)) X dX8_areCoefficientsInRange_28 rfl ?_
        refine z_icmp_le (tgt := 35) X dX8_areCoefficientsInRange_30 (by decide) (fun c30 => ?_) (fun c30 => ?_)
        · replace h := zif_t h c30
          obtain ⟨v35, ev35, h⟩ := zlet_of h
          refine z_iinc (v := v35) (lv2 := [(1, .int v35), (0, .ref (aO 0))]) X dX8_areCoefficientsInRange_35 (k := 1) rfl (by rw [ev35]; rfl) (by decide) rfl ?_
          refine z_goto (tgt := 2) X dX8_areCoefficientsInRange_38 (by decide) ?_
          exact z_at (pc2 := 2) (lv2 := [(0, .ref (aO 0)), (1, .int v35)]) (st2 := []) (ws2 := [wX8 (zcT C) aO sO]) rfl rfl rfl [1, 0] rfl (ih v35 h)
        · replace h := zif_f h c30
          exact z_at (pc2 := 33) (lv2 := []) (st2 := []) (ws2 := [wX8 (zcT C) aO sO]) rfl rfl rfl [] rfl (bX8_areCoefficientsInRange_33 X hQ  h)
theorem bX8_areCoefficientsInRange_0 {C : zCtx} (X : zFx C cX8_areCoefficientsInRange 2 RX8 rmX8_areCoefficientsInRange (some .boolean)) {aO : Nat → Nat} {sO : zSt} {out : Int32} (hQ : zHi C out [] 0 0) (h : fX8_areCoefficientsInRange sO = some out) : zG C 2 [] 0 0 [wX8 (zcT C) aO sO] 0 [(0, .ref (aO 0))] [] := by
  unfold fX8_areCoefficientsInRange at h
  refine z_iconst (v := (0 : Int32)) X dX8_areCoefficientsInRange_0 rfl ?_
  refine z_istore_n (lv2 := [(1, .int (0 : Int32)), (0, .ref (aO 0))]) X dX8_areCoefficientsInRange_1 rfl (by decide) rfl ?_
  exact z_at (pc2 := 2) (lv2 := [(0, .ref (aO 0)), (1, .int (0 : Int32))]) (st2 := []) (ws2 := [wX8 (zcT C) aO sO]) rfl rfl rfl [1, 0] rfl (bX8_areCoefficientsInRange_2 X hQ  6000 (0 : Int32) h)
theorem metX8_areCoefficientsInRange (l : Launch) (D : va_G) (T : Nat → ClassId) (aO : Nat → Nat) {sO : zSt} {out : Int32} (hf : fX8_areCoefficientsInRange sO = some out) (sz : Nat) : Met l yX8_areCoefficientsInRange (zws yX8_areCoefficientsInRange cX8_areCoefficientsInRange 2 (some .boolean)) rmX8_areCoefficientsInRange (zPc D T [.ref (aO 0)] [wX8 T aO sO] sz) (zQi D out [] (zA [] sz)) 0 0 (zA [] sz) :=
  zMet (D := D) (T := T) (av := [.ref (aO 0)]) (ws := fun T => [wX8 T aO sO]) (wm := fun T => []) (lv0 := [(0, .ref (aO 0))]) [] (Qc := fun D T A => zQi D out [] A) (by decide +kernel) rfl (Nat.le_of_ble_eq_true rfl) rfl (fun C X hQ => bX8_areCoefficientsInRange_0 X hQ hf) sz
/-- void read(int); of Tableaufloor$Text -/
abbrev rmX8_read : Room := { frames := 5, cells := 0, slots := 0, locals := 103 }
def fX8_read_120 (sO : zSt) : Option (zSt) :=
  some (sO)
def fX8_read_92 (sO : zSt) : Option (zSt) :=
  ((fX8_hasFault sO).bind (fun o93 =>
    (if o93 = 0 then
    ((fX8_areCoefficientsInRange sO).bind (fun o100 =>
      (if o100 = 0 then
      (zlet (zsi sO 4 (zgi sO 2)) (fun sO111 =>
        ((fX8_blame sO111 (114 : Int32)).bind (fun o117 =>
        (fX8_read_120 o117)))))
    else
      (fX8_read_120 sO))))
  else
    (fX8_read_120 sO))))
def fX8_read_68 (sO : zSt) : Option (zSt) :=
  ((fX8_hasFault sO).bind (fun o69 =>
    (if o69 = 0 then
    (if (zgi sO 2) ≤ (zgi sO 4) then
      (fX8_read_92 sO)
    else
      ((fX8_blame sO (115 : Int32)).bind (fun o89 =>
        (fX8_read_92 o89))))
  else
    (fX8_read_92 sO))))
def fX8_read_28 : Nat → zSt → Int32 → Option (zSt)
  | 0, _, _ => none
  | n + 1, sO, x2 =>
    (if (3 : Int32) ≤ x2 then
      ((fX8_beginsAsAim sO).bind (fun o51 =>
        (if o51 = 0 then
        ((fX8_readRow sO).bind (fun o65 =>
          (fX8_read_68 o65)))
      else
        ((fX8_readAim sO).bind (fun o58 =>
          (fX8_read_68 o58))))))
    else
      (if zin x2 3 = true then
        (zlet (zsa sO 1 (upd (zga sO 1) (x2).toNatClampNeg (0 : Int32))) (fun sO43 =>
        (zlet (x2 + 1) (fun v44 =>
        (fX8_read_28 n sO43 v44))))) else none))
def fX8_read (sO : zSt) (x1 : Int32) : Option (zSt) :=
  (zlet (zsi sO 3 x1) (fun sO2 =>
    (zlet (zsi sO2 4 (0 : Int32)) (fun sO7 =>
    (zlet (zsi sO7 5 (45 : Int32)) (fun sO13 =>
    (zlet (zsi sO13 6 (0 : Int32)) (fun sO18 =>
    (zlet (zsi sO18 9 (0 : Int32)) (fun sO23 =>
    (fX8_read_28 6000 sO23 (0 : Int32))))))))))))
theorem bX8_read_120 {C : zCtx} (X : zFx C cX8_read 3 RX8 rmX8_read none) {aO : Nat → Nat} {sO : zSt} {out : zSt} (hQ : zHv C [wX8 (zcT C) aO out] 0 0) (h : fX8_read_120 sO = some out) : zG C 3 [0] 0 0 [wX8 (zcT C) aO sO] 120 [] [] := by
  unfold fX8_read_120 at h
  cases h
  exact z_vret X hQ dX8_read_120 [0] rfl (by decide) (by decide)
theorem bX8_read_92 {C : zCtx} (X : zFx C cX8_read 3 RX8 rmX8_read none) {aO : Nat → Nat} {sO : zSt} {out : zSt} (hQ : zHv C [wX8 (zcT C) aO out] 0 0) (h : fX8_read_92 sO = some out) : zG C 3 [0] 0 0 [wX8 (zcT C) aO sO] 92 [(0, .ref (aO 0))] [] := by
  unfold fX8_read_92 at h
  refine z_aload_n X dX8_read_92 0 rfl ?_
  obtain ⟨o93, ho93, h⟩ := zbind_of h
  refine z_callVi (st := []) (ws2 := [wX8 (zcT C) aO sO]) X (metX8_hasFault (zcl C) (zcD C) (zcT C) aO ho93) zmX8_hasFault zw432 dX8_read_93 0 0 9 rfl rfl rfl rfl [0] rfl rfl [] rfl (by decide) trivial rfl rfl rfl (Nat.le_of_ble_eq_true rfl) rfl rfl ⟨Nat.le_of_ble_eq_true rfl, Nat.le_of_ble_eq_true rfl⟩ ⟨Nat.le_of_ble_eq_true rfl, Nat.le_of_ble_eq_true rfl⟩ ?_
  refine z_if_ne (tgt := 120) X dX8_read_96 (by decide) (fun c96 => ?_) (fun c96 => ?_)
  · replace h := zif_f h c96
    exact z_at (pc2 := 120) (lv2 := []) (st2 := []) (ws2 := [wX8 (zcT C) aO sO]) rfl rfl rfl [] rfl (bX8_read_120 X hQ  h)
  · replace h := zif_t h c96
    refine z_aload_n X dX8_read_99 0 rfl ?_
    obtain ⟨o100, ho100, h⟩ := zbind_of h
    refine z_callVi (st := []) (ws2 := [wX8 (zcT C) aO sO]) X (metX8_areCoefficientsInRange (zcl C) (zcD C) (zcT C) aO ho100) zmX8_areCoefficientsInRange zw467 dX8_read_100 0 0 9 rfl rfl rfl rfl [0] rfl rfl [] rfl (by decide) trivial rfl rfl rfl (Nat.le_of_ble_eq_true rfl) rfl rfl ⟨Nat.le_of_ble_eq_true rfl, Nat.le_of_ble_eq_true rfl⟩ ⟨Nat.le_of_ble_eq_true rfl, Nat.le_of_ble_eq_true rfl⟩ ?_
    refine z_if_ne (tgt := 120) X dX8_read_103 (by decide) (fun c103 => ?_) (fun c103 => ?_)
    · replace h := zif_f h c103
      exact z_at (pc2 := 120) (lv2 := []) (st2 := []) (ws2 := [wX8 (zcT C) aO sO]) rfl rfl rfl [] rfl (bX8_read_120 X hQ  h)
    · replace h := zif_t h c103
      refine z_aload_n X dX8_read_106 0 rfl ?_
      refine z_aload_n X dX8_read_107 0 rfl ?_
      refine z_get (v := .int (zgi sO 2)) X 0 0 9 2 ziX8 rfl (by decide) zw109 rfl dX8_read_108 rfl rfl rfl ?_
      obtain ⟨sO111, esO111, h⟩ := zlet_of h
      refine z_put (ws2 := [wX8 (zcT C) aO sO111]) X 0 0 9 4 ziX8 rfl tyX8 tyX8_ok nmX8 (by decide) zw112 rfl rfl (ty := .int) (by decide +kernel) rfl rfl (by show 4 < 10; decide) dX8_read_111 rfl rfl (by decide) (w2 := wX8 (zcT C) aO sO111) (by rw [esO111]; rfl) rfl ?_
      refine z_aload_n X dX8_read_114 0 rfl ?_
      refine z_bipush (v := (114 : Int32)) X dX8_read_115 rfl ?_
      obtain ⟨o117, ho117, h⟩ := zbind_of h
      refine z_callVv (st := []) (ws2 := [wX8 (zcT C) aO o117]) X (metX8_blame (zcl C) (zcD C) (zcT C) aO ho117) zmX8_blame zw440 dX8_read_117 0 0 9 rfl rfl rfl rfl [0] rfl rfl [0] rfl (by decide) ⟨zsX8 , trivial⟩ rfl rfl rfl (Nat.le_of_ble_eq_true rfl) rfl rfl ⟨Nat.le_of_ble_eq_true rfl, Nat.le_of_ble_eq_true rfl⟩ ⟨Nat.le_of_ble_eq_true rfl, Nat.le_of_ble_eq_true rfl⟩ ?_
      exact z_at (pc2 := 120) (lv2 := []) (st2 := []) (ws2 := [wX8 (zcT C) aO o117]) rfl rfl rfl [] rfl (bX8_read_120 X hQ  h)
theorem bX8_read_68 {C : zCtx} (X : zFx C cX8_read 3 RX8 rmX8_read none) {aO : Nat → Nat} {sO : zSt} {out : zSt} (hQ : zHv C [wX8 (zcT C) aO out] 0 0) (h : fX8_read_68 sO = some out) : zG C 3 [0] 0 0 [wX8 (zcT C) aO sO] 68 [(0, .ref (aO 0))] [] := by
  unfold fX8_read_68 at h
  refine z_aload_n X dX8_read_68 0 rfl ?_
  obtain ⟨o69, ho69, h⟩ := zbind_of h
  refine z_callVi (st := []) (ws2 := [wX8 (zcT C) aO sO]) X (metX8_hasFault (zcl C) (zcD C) (zcT C) aO ho69) zmX8_hasFault zw432 dX8_read_69 0 0 9 rfl rfl rfl rfl [0] rfl rfl [] rfl (by decide) trivial rfl rfl rfl (Nat.le_of_ble_eq_true rfl) rfl rfl ⟨Nat.le_of_ble_eq_true rfl, Nat.le_of_ble_eq_true rfl⟩ ⟨Nat.le_of_ble_eq_true rfl, Nat.le_of_ble_eq_true rfl⟩ ?_
  refine z_if_ne (tgt := 92) X dX8_read_72 (by decide) (fun c72 => ?_) (fun c72 => ?_)
  · replace h := zif_f h c72
    exact z_at (pc2 := 92) (lv2 := [(0, .ref (aO 0))]) (st2 := []) (ws2 := [wX8 (zcT C) aO sO]) rfl rfl rfl [0] rfl (bX8_read_92 X hQ  h)
  · replace h := zif_t h c72
    refine z_aload_n X dX8_read_75 0 rfl ?_
    refine z_get (v := .int (zgi sO 4)) X 0 0 9 4 ziX8 rfl (by decide) zw112 rfl dX8_read_76 rfl rfl rfl ?_
    refine z_aload_n X dX8_read_79 0 rfl ?_
    refine z_get (v := .int (zgi sO 2)) X 0 0 9 2 ziX8 rfl (by decide) zw109 rfl dX8_read_80 rfl rfl rfl ?_
    refine z_icmp_ge (tgt := 92) X dX8_read_83 (by decide) (fun c83 => ?_) (fun c83 => ?_)
    · replace h := zif_t h c83
      exact z_at (pc2 := 92) (lv2 := [(0, .ref (aO 0))]) (st2 := []) (ws2 := [wX8 (zcT C) aO sO]) rfl rfl rfl [0] rfl (bX8_read_92 X hQ  h)
    · replace h := zif_f h c83
      refine z_aload_n X dX8_read_86 0 rfl ?_
      refine z_bipush (v := (115 : Int32)) X dX8_read_87 rfl ?_
      obtain ⟨o89, ho89, h⟩ := zbind_of h
      refine z_callVv (st := []) (ws2 := [wX8 (zcT C) aO o89]) X (metX8_blame (zcl C) (zcD C) (zcT C) aO ho89) zmX8_blame zw440 dX8_read_89 0 0 9 rfl rfl rfl rfl [0] rfl rfl [0] rfl (by decide) ⟨zsX8 , trivial⟩ rfl rfl rfl (Nat.le_of_ble_eq_true rfl) rfl rfl ⟨Nat.le_of_ble_eq_true rfl, Nat.le_of_ble_eq_true rfl⟩ ⟨Nat.le_of_ble_eq_true rfl, Nat.le_of_ble_eq_true rfl⟩ ?_
      exact z_at (pc2 := 92) (lv2 := [(0, .ref (aO 0))]) (st2 := []) (ws2 := [wX8 (zcT C) aO o89]) rfl rfl rfl [0] rfl (bX8_read_92 X hQ  h)
theorem bX8_read_28 {C : zCtx} (X : zFx C cX8_read 3 RX8 rmX8_read none) {aO : Nat → Nat} {out : zSt} (hQ : zHv C [wX8 (zcT C) aO out] 0 0) : ∀ (n : Nat) (sO : zSt) (x2 : Int32), fX8_read_28 n sO x2 = some out → zG C 3 [0] 0 0 [wX8 (zcT C) aO sO] 28 [(0, .ref (aO 0)), (2, .int x2)] [] := by
  intro n
  induction n with
  | zero =>
    intro sO x2 h
    rw [fX8_read_28] at h
    exact zno h
  | succ n ih =>
    intro sO x2 h
    rw [fX8_read_28] at h
    refine z_iload_n X dX8_read_28 1 rfl ?_
    refine z_aload_n X dX8_read_29 0 rfl ?_
    refine z_get (v := .ref (aO 2)) X 0 0 9 1 ziX8 rfl (by decide) zw108 rfl dX8_read_30 rfl rfl rfl ?_
    refine z_alen (v := (3 : Int32)) X 0 2 1 rfl rfl dX8_read_33 rfl rfl ?_
    refine z_icmp_ge (tgt := 50) X dX8_read_34 (by decide) (fun c34 => ?_) (fun c34 => ?_)
    · replace h := zif_t h c34
      refine z_aload_n X dX8_read_50 0 rfl ?_
      obtain ⟨o51, ho51, h⟩ := zbind_of h
      refine z_callVi (st := []) (ws2 := [wX8 (zcT C) aO sO]) X (metX8_beginsAsAim (zcl C) (zcD C) (zcT C) aO ho51) zmX8_beginsAsAim zw416 dX8_read_51 0 0 9 rfl rfl rfl rfl [0] rfl rfl [] rfl (by decide) trivial rfl rfl rfl (Nat.le_of_ble_eq_true rfl) rfl rfl ⟨Nat.le_of_ble_eq_true rfl, Nat.le_of_ble_eq_true rfl⟩ ⟨Nat.le_of_ble_eq_true rfl, Nat.le_of_ble_eq_true rfl⟩ ?_
      refine z_if_eq (tgt := 64) X dX8_read_54 (by decide) (fun c54 => ?_) (fun c54 => ?_)
      · replace h := zif_t h c54
        refine z_aload_n X dX8_read_64 0 rfl ?_
        obtain ⟨o65, ho65, h⟩ := zbind_of h
        refine z_callVv (st := []) (ws2 := [wX8 (zcT C) aO o65]) X (metX8_readRow (zcl C) (zcD C) (zcT C) aO ho65) zmX8_readRow zw455 dX8_read_65 0 0 9 rfl rfl rfl rfl [0] rfl rfl [0] rfl (by decide) ⟨zsX8 , trivial⟩ rfl rfl rfl (Nat.le_of_ble_eq_true rfl) rfl rfl ⟨Nat.le_of_ble_eq_true rfl, Nat.le_of_ble_eq_true rfl⟩ ⟨Nat.le_of_ble_eq_true rfl, Nat.le_of_ble_eq_true rfl⟩ ?_
        exact z_at (pc2 := 68) (lv2 := [(0, .ref (aO 0))]) (st2 := []) (ws2 := [wX8 (zcT C) aO o65]) rfl rfl rfl [0] rfl (bX8_read_68 X hQ  h)
      · replace h := zif_f h c54
        refine z_aload_n X dX8_read_57 0 rfl ?_
        obtain ⟨o58, ho58, h⟩ := zbind_of h
        refine z_callVv (st := []) (ws2 := [wX8 (zcT C) aO o58]) X (metX8_readAim (zcl C) (zcD C) (zcT C) aO ho58) zmX8_readAim zw420 dX8_read_58 0 0 9 rfl rfl rfl rfl [0] rfl rfl [0] rfl (by decide) ⟨zsX8 , trivial⟩ rfl rfl rfl (Nat.le_of_ble_eq_true rfl) rfl rfl ⟨Nat.le_of_ble_eq_true rfl, Nat.le_of_ble_eq_true rfl⟩ ⟨Nat.le_of_ble_eq_true rfl, Nat.le_of_ble_eq_true rfl⟩ ?_
        refine z_goto (tgt := 68) X dX8_read_61 (by decide) ?_
        exact z_at (pc2 := 68) (lv2 := [(0, .ref (aO 0))]) (st2 := []) (ws2 := [wX8 (zcT C) aO o58]) rfl rfl rfl [0] rfl (bX8_read_68 X hQ  h)
    · replace h := zif_f h c34
      refine z_aload_n X dX8_read_37 0 rfl ?_
      refine z_get (v := .ref (aO 2)) X 0 0 9 1 ziX8 rfl (by decide) zw108 rfl dX8_read_38 rfl rfl rfl ?_
      refine z_iload_n X dX8_read_41 1 rfl ?_
      refine z_iconst (v := (0 : Int32)) X dX8_read_42 rfl ?_
      obtain ⟨g43, h⟩ := zgd_of h
      obtain ⟨sO43, esO43, h⟩ := zlet_of h
      refine z_iast (ws2 := [wX8 (zcT C) aO sO43]) X 0 2 g43 dX8_read_43 rfl rfl (by decide) (w2 := wX8 (zcT C) aO sO43) (by rw [esO43]; rfl) rfl ?_
      obtain ⟨v44, ev44, h⟩ := zlet_of h
      refine z_iinc (v := v44) (lv2 := [(2, .int v44), (0, .ref (aO 0))]) X dX8_read_44 (k := 1) rfl (by rw [ev44]; rfl) (by decide) rfl ?_
      refine z_goto (tgt := 28) X dX8_read_47 (by decide) ?_
      exact z_at (pc2 := 28) (lv2 := [(0, .ref (aO 0)), (2, .int v44)]) (st2 := []) (ws2 := [wX8 (zcT C) aO sO43]) rfl rfl rfl [1, 0] rfl (ih sO43 v44 h)
theorem bX8_read_0 {C : zCtx} (X : zFx C cX8_read 3 RX8 rmX8_read none) {aO : Nat → Nat} {sO : zSt} {x1 : Int32} {out : zSt} (hQ : zHv C [wX8 (zcT C) aO out] 0 0) (h : fX8_read sO x1 = some out) : zG C 3 [0] 0 0 [wX8 (zcT C) aO sO] 0 [(0, .ref (aO 0)), (1, .int x1)] [] := by
  unfold fX8_read at h
  refine z_aload_n X dX8_read_0 0 rfl ?_
  refine z_iload_n X dX8_read_1 1 rfl ?_
  obtain ⟨sO2, esO2, h⟩ := zlet_of h
  refine z_put (ws2 := [wX8 (zcT C) aO sO2]) X 0 0 9 3 ziX8 rfl tyX8 tyX8_ok nmX8 (by decide) zw111 rfl rfl (ty := .int) (by decide +kernel) rfl rfl (by show 3 < 10; decide) dX8_read_2 rfl rfl (by decide) (w2 := wX8 (zcT C) aO sO2) (by rw [esO2]; rfl) rfl ?_
  refine z_aload_n X dX8_read_5 0 rfl ?_
  refine z_iconst (v := (0 : Int32)) X dX8_read_6 rfl ?_
  obtain ⟨sO7, esO7, h⟩ := zlet_of h
  refine z_put (ws2 := [wX8 (zcT C) aO sO7]) X 0 0 9 4 ziX8 rfl tyX8 tyX8_ok nmX8 (by decide) zw112 rfl rfl (ty := .int) (by decide +kernel) rfl rfl (by show 4 < 10; decide) dX8_read_7 rfl rfl (by decide) (w2 := wX8 (zcT C) aO sO7) (by rw [esO7]; rfl) rfl ?_
  refine z_aload_n X dX8_read_10 0 rfl ?_
  refine z_bipush (v := (45 : Int32)) X dX8_read_11 rfl ?_
  obtain ⟨sO13, esO13, h⟩ := zlet_of h
  refine z_put (ws2 := [wX8 (zcT C) aO sO13]) X 0 0 9 5 ziX8 rfl tyX8 tyX8_ok nmX8 (by decide) zw113 rfl rfl (ty := .char) (by decide +kernel) rfl rfl (by show 5 < 10; decide) dX8_read_13 rfl rfl (by decide) (w2 := wX8 (zcT C) aO sO13) (by rw [esO13]; rfl) rfl ?_
  refine z_aload_n X dX8_read_16 0 rfl ?_
  refine z_iconst (v := (0 : Int32)) X dX8_read_17 rfl ?_
  obtain ⟨sO18, esO18, h⟩ := zlet_of h
  refine z_put (ws2 := [wX8 (zcT C) aO sO18]) X 0 0 9 6 ziX8 rfl tyX8 tyX8_ok nmX8 (by decide) zw115 rfl rfl (ty := .int) (by decide +kernel) rfl rfl (by show 6 < 10; decide) dX8_read_18 rfl rfl (by decide) (w2 := wX8 (zcT C) aO sO18) (by rw [esO18]; rfl) rfl ?_
  refine z_aload_n X dX8_read_21 0 rfl ?_
  refine z_iconst (v := (0 : Int32)) X dX8_read_22 rfl ?_
  obtain ⟨sO23, esO23, h⟩ := zlet_of h
  refine z_put (ws2 := [wX8 (zcT C) aO sO23]) X 0 0 9 9 ziX8 rfl tyX8 tyX8_ok nmX8 (by decide) zw121 rfl rfl (ty := .int) (by decide +kernel) rfl rfl (by show 9 < 10; decide) dX8_read_23 rfl rfl (by decide) (w2 := wX8 (zcT C) aO sO23) (by rw [esO23]; rfl) rfl ?_
  refine z_iconst (v := (0 : Int32)) X dX8_read_26 rfl ?_
  refine z_istore_n (lv2 := [(2, .int (0 : Int32)), (0, .ref (aO 0)), (1, .int x1)]) X dX8_read_27 rfl (by decide) rfl ?_
  exact z_at (pc2 := 28) (lv2 := [(0, .ref (aO 0)), (2, .int (0 : Int32))]) (st2 := []) (ws2 := [wX8 (zcT C) aO sO23]) rfl rfl rfl [1, 0] rfl (bX8_read_28 X hQ  6000 sO23 (0 : Int32) h)
theorem metX8_read (l : Launch) (D : va_G) (T : Nat → ClassId) (aO : Nat → Nat) {sO : zSt} {x1 : Int32} {out : zSt} (hf : fX8_read sO x1 = some out) (sz : Nat) : Met l yX8_read (zws yX8_read cX8_read 3 none) rmX8_read (zPc D T [.ref (aO 0), .int x1] [wX8 T aO sO] sz) (zQv D [wX8 T aO out] (zA [wX8 T aO sO] sz)) 0 0 (zA [wX8 T aO sO] sz) :=
  zMet (D := D) (T := T) (av := [.ref (aO 0), .int x1]) (ws := fun T => [wX8 T aO sO]) (wm := fun T => [wX8 T aO sO]) (lv0 := [(0, .ref (aO 0)), (1, .int x1)]) [0] (Qc := fun D T A => zQv D [wX8 T aO out] A) (by decide +kernel) rfl (Nat.le_of_ble_eq_true rfl) rfl (fun C X hQ => bX8_read_0 X hQ hf) sz
