/-- public int thrown(); of TableaufloorModel -/
abbrev rmX12_thrown : Room := { frames := 0, cells := 0, slots := 0, locals := 0 }
def fX12_thrown (sO : zSt) : Option (Int32) :=
  some ((zgi sO 9))
theorem bX12_thrown_0 {C : zCtx} (X : zFx C cX12_thrown 1 RX12 rmX12_thrown (some .int)) {aO : Nat → Nat} {sO : zSt} {out : Int32} (hQ : zHi C out [] 0 0) (h : fX12_thrown sO = some out) : zG C 1 [] 0 0 [wX12 (zcT C) aO sO] 0 [(0, .ref (aO 0))] [] := by
  unfold fX12_thrown at h
  refine z_aload_n X dX12_thrown_0 0 rfl ?_
  refine z_get (v := .int (zgi sO 9)) X 0 0 13 9 ziX12 rfl (by decide) zw1345 rfl dX12_thrown_1 rfl rfl rfl ?_
  cases h
  exact z_iret X hQ dX12_thrown_4 rfl [] rfl (by decide) (by decide)
theorem metX12_thrown (l : Launch) (D : va_G) (T : Nat → ClassId) (aO : Nat → Nat) {sO : zSt} {out : Int32} (hf : fX12_thrown sO = some out) (sz : Nat) : Met l yX12_thrown (zws yX12_thrown cX12_thrown 1 (some .int)) rmX12_thrown (zPc D T [.ref (aO 0)] [wX12 T aO sO] sz) (zQi D out [] (zA [] sz)) 0 0 (zA [] sz) :=
  zMet (D := D) (T := T) (av := [.ref (aO 0)]) (ws := fun T => [wX12 T aO sO]) (wm := fun T => []) (lv0 := [(0, .ref (aO 0))]) [] (Qc := fun D T A => zQi D out [] A) (by decide +kernel) rfl (Nat.le_of_ble_eq_true rfl) rfl (fun C X hQ => bX12_thrown_0 X hQ hf) sz
/-- private static boolean in(int, int, int); of TableaufloorModel -/
abbrev rmX12_in : Room := { frames := 0, cells := 0, slots := 0, locals := 0 }
def fX12_in_15 (y0 : Int32) : Option (Int32) :=
  (if znar .boolean y0 = true then
    some (y0) else none)
def fX12_in_14 : Option (Int32) :=
  (fX12_in_15 (0 : Int32))
def fX12_in (x0 : Int32) (x1 : Int32) (x2 : Int32) : Option (Int32) :=
  (if x0 < x1 then
    (fX12_in_14)
  else
    (if x2 < x0 then
      (fX12_in_14)
    else
      (fX12_in_15 (1 : Int32))))
theorem bX12_in_15 {C : zCtx} (X : zFx C cX12_in 3 RX12 rmX12_in (some .boolean)) {y0 : Int32} {out : Int32} (hQ : zHi C out [] 0 0) (h : fX12_in_15 y0 = some out) : zG C 3 [] 0 0 [] 15 [] [.int y0] := by
  unfold fX12_in_15 at h
  obtain ⟨g15, h⟩ := zgd_of h
  cases h
  exact z_nret X hQ g15 dX12_in_15 rfl [] rfl (by decide) (by decide)
theorem bX12_in_14 {C : zCtx} (X : zFx C cX12_in 3 RX12 rmX12_in (some .boolean)) {out : Int32} (hQ : zHi C out [] 0 0) (h : fX12_in_14 = some out) : zG C 3 [] 0 0 [] 14 [] [] := by
  unfold fX12_in_14 at h
  refine z_iconst (v := (0 : Int32)) X dX12_in_14 rfl ?_
  exact z_at (pc2 := 15) (lv2 := []) (st2 := [.int (0 : Int32)]) (ws2 := []) rfl rfl rfl [] rfl (bX12_in_15 X hQ  h)
theorem bX12_in_0 {C : zCtx} (X : zFx C cX12_in 3 RX12 rmX12_in (some .boolean)) {x0 : Int32} {x1 : Int32} {x2 : Int32} {out : Int32} (hQ : zHi C out [] 0 0) (h : fX12_in x0 x1 x2 = some out) : zG C 3 [] 0 0 [] 0 [(0, .int x0), (1, .int x1), (2, .int x2)] [] := by
  unfold fX12_in at h
  refine z_iload_n X dX12_in_0 0 rfl ?_
  refine z_iload_n X dX12_in_1 1 rfl ?_
  refine z_icmp_lt (tgt := 14) X dX12_in_2 (by decide) (fun c2 => ?_) (fun c2 => ?_)
  · replace h := zif_t h c2
    exact z_at (pc2 := 14) (lv2 := []) (st2 := []) (ws2 := []) rfl rfl rfl [] rfl (bX12_in_14 X hQ  h)
  · replace h := zif_f h c2
    refine z_iload_n X dX12_in_5 0 rfl ?_
    refine z_iload_n X dX12_in_6 2 rfl ?_
    refine z_icmp_gt (tgt := 14) X dX12_in_7 (by decide) (fun c7 => ?_) (fun c7 => ?_)
    · replace h := zif_t h c7
      exact z_at (pc2 := 14) (lv2 := []) (st2 := []) (ws2 := []) rfl rfl rfl [] rfl (bX12_in_14 X hQ  h)
    · replace h := zif_f h c7
      refine z_iconst (v := (1 : Int32)) X dX12_in_10 rfl ?_
      refine z_goto (tgt := 15) X dX12_in_11 (by decide) ?_
      exact z_at (pc2 := 15) (lv2 := []) (st2 := [.int (1 : Int32)]) (ws2 := []) rfl rfl rfl [] rfl (bX12_in_15 X hQ  h)
theorem metX12_in (l : Launch) (D : va_G) (T : Nat → ClassId) {x0 : Int32} {x1 : Int32} {x2 : Int32} {out : Int32} (hf : fX12_in x0 x1 x2 = some out) (sz : Nat) : Met l yX12_in (zws yX12_in cX12_in 3 (some .boolean)) rmX12_in (zPc D T [.int x0, .int x1, .int x2] [] sz) (zQi D out [] (zA [] sz)) 0 0 (zA [] sz) :=
  zMet (D := D) (T := T) (av := [.int x0, .int x1, .int x2]) (ws := fun T => []) (wm := fun T => []) (lv0 := [(0, .int x0), (1, .int x1), (2, .int x2)]) [] (Qc := fun D T A => zQi D out [] A) (by decide +kernel) rfl (Nat.le_of_ble_eq_true rfl) rfl (fun C X hQ => bX12_in_0 X hQ hf) sz
/-- private int checked(boolean); of TableaufloorModel -/
abbrev rmX12_checked : Room := { frames := 0, cells := 0, slots := 0, locals := 0 }
def fX12_checked_10 (sO : zSt) (y1 : Int32) : Option (Int32 × zSt) :=
  (zlet (zsi sO 9 y1) (fun sO10 =>
    some ((zgi sO10 9), sO10)))
def fX12_checked (sO : zSt) (x1 : Int32) : Option (Int32 × zSt) :=
  (if x1 = 0 then
    (fX12_checked_10 sO (1 : Int32))
  else
    (fX12_checked_10 sO (0 : Int32)))
theorem bX12_checked_10 {C : zCtx} (X : zFx C cX12_checked 2 RX12 rmX12_checked (some .int)) {aO : Nat → Nat} {sO : zSt} {y1 : Int32} {out : Int32 × zSt} (hQ : zHi C out.1 [wX12 (zcT C) aO out.2] 0 0) (h : fX12_checked_10 sO y1 = some out) : zG C 2 [0] 0 0 [wX12 (zcT C) aO sO] 10 [(0, .ref (aO 0))] [.int y1, .ref (aO 0)] := by
  unfold fX12_checked_10 at h
  obtain ⟨sO10, esO10, h⟩ := zlet_of h
  refine z_put (ws2 := [wX12 (zcT C) aO sO10]) X 0 0 13 9 ziX12 rfl tyX12 tyX12_ok nmX12 (by decide) zw1345 rfl rfl (ty := .int) (by decide +kernel) rfl rfl (by show 9 < 40; decide) dX12_checked_10 rfl rfl (by decide) (w2 := wX12 (zcT C) aO sO10) (by rw [esO10]; rfl) rfl ?_
  refine z_aload_n X dX12_checked_13 0 rfl ?_
  refine z_get (v := .int (zgi sO10 9)) X 0 0 13 9 ziX12 rfl (by decide) zw1345 rfl dX12_checked_14 rfl rfl rfl ?_
  cases h
  exact z_iret X hQ dX12_checked_17 rfl [0] rfl (by decide) (by decide)
theorem bX12_checked_0 {C : zCtx} (X : zFx C cX12_checked 2 RX12 rmX12_checked (some .int)) {aO : Nat → Nat} {sO : zSt} {x1 : Int32} {out : Int32 × zSt} (hQ : zHi C out.1 [wX12 (zcT C) aO out.2] 0 0) (h : fX12_checked sO x1 = some out) : zG C 2 [0] 0 0 [wX12 (zcT C) aO sO] 0 [(0, .ref (aO 0)), (1, .int x1)] [] := by
  unfold fX12_checked at h
  refine z_aload_n X dX12_checked_0 0 rfl ?_
  refine z_iload_n X dX12_checked_1 1 rfl ?_
  refine z_if_eq (tgt := 9) X dX12_checked_2 (by decide) (fun c2 => ?_) (fun c2 => ?_)
  · replace h := zif_t h c2
    refine z_iconst (v := (1 : Int32)) X dX12_checked_9 rfl ?_
    exact z_at (pc2 := 10) (lv2 := [(0, .ref (aO 0))]) (st2 := [.int (1 : Int32), .ref (aO 0)]) (ws2 := [wX12 (zcT C) aO sO]) rfl rfl rfl [0] rfl (bX12_checked_10 X hQ  h)
  · replace h := zif_f h c2
    refine z_iconst (v := (0 : Int32)) X dX12_checked_5 rfl ?_
    refine z_goto (tgt := 10) X dX12_checked_6 (by decide) ?_
    exact z_at (pc2 := 10) (lv2 := [(0, .ref (aO 0))]) (st2 := [.int (0 : Int32), .ref (aO 0)]) (ws2 := [wX12 (zcT C) aO sO]) rfl rfl rfl [0] rfl (bX12_checked_10 X hQ  h)
theorem metX12_checked (l : Launch) (D : va_G) (T : Nat → ClassId) (aO : Nat → Nat) {sO : zSt} {x1 : Int32} {out : Int32 × zSt} (hf : fX12_checked sO x1 = some out) (sz : Nat) : Met l yX12_checked (zws yX12_checked cX12_checked 2 (some .int)) rmX12_checked (zPc D T [.ref (aO 0), .int x1] [wX12 T aO sO] sz) (zQi D out.1 [wX12 T aO out.2] (zA [wX12 T aO sO] sz)) 0 0 (zA [wX12 T aO sO] sz) :=
  zMet (D := D) (T := T) (av := [.ref (aO 0), .int x1]) (ws := fun T => [wX12 T aO sO]) (wm := fun T => [wX12 T aO sO]) (lv0 := [(0, .ref (aO 0)), (1, .int x1)]) [0] (Qc := fun D T A => zQi D out.1 [wX12 T aO out.2] A) (by decide +kernel) rfl (Nat.le_of_ble_eq_true rfl) rfl (fun C X hQ => bX12_checked_0 X hQ hf) sz
/-- private boolean isVariable(int); of TableaufloorModel -/
abbrev rmX12_isVariable : Room := { frames := 1, cells := 0, slots := 0, locals := 22 }
def fX12_isVariable (sO : zSt) (x1 : Int32) : Option (Int32) :=
  ((fX12_in x1 (0 : Int32) ((zgi sO 10) - (1 : Int32))).bind (fun o8 =>
    (if znar .boolean o8 = true then
    some (o8) else none)))
theorem bX12_isVariable_0 {C : zCtx} (X : zFx C cX12_isVariable 2 RX12 rmX12_isVariable (some .boolean)) {aO : Nat → Nat} {sO : zSt} {x1 : Int32} {out : Int32} (hQ : zHi C out [] 0 0) (h : fX12_isVariable sO x1 = some out) : zG C 2 [] 0 0 [wX12 (zcT C) aO sO] 0 [(0, .ref (aO 0)), (1, .int x1)] [] := by
  unfold fX12_isVariable at h
  refine z_iload_n X dX12_isVariable_0 1 rfl ?_
  refine z_iconst (v := (0 : Int32)) X dX12_isVariable_1 rfl ?_
  refine z_aload_n X dX12_isVariable_2 0 rfl ?_
  refine z_get (v := .int (zgi sO 10)) X 0 0 13 10 ziX12 rfl (by decide) zw1346 rfl dX12_isVariable_3 rfl rfl rfl ?_
  refine z_iconst (v := (1 : Int32)) X dX12_isVariable_6 rfl ?_
  refine z_isub X dX12_isVariable_7 ?_
  obtain ⟨o8, ho8, h⟩ := zbind_of h
  refine z_callSi (st := []) (ws2 := [wX12 (zcT C) aO sO]) X (metX12_in (zcl C) (zcD C) (zcT C)  ho8) zmX12_in zw1465 dX12_isVariable_8 [] rfl rfl [] rfl (by decide) trivial rfl rfl rfl (Nat.le_of_ble_eq_true rfl) rfl rfl ⟨Nat.le_of_ble_eq_true rfl, Nat.le_of_ble_eq_true rfl⟩ ⟨Nat.le_of_ble_eq_true rfl, Nat.le_of_ble_eq_true rfl⟩ ?_
  obtain ⟨g11, h⟩ := zgd_of h
  cases h
  exact z_nret X hQ g11 dX12_isVariable_11 rfl [] rfl (by decide) (by decide)
theorem metX12_isVariable (l : Launch) (D : va_G) (T : Nat → ClassId) (aO : Nat → Nat) {sO : zSt} {x1 : Int32} {out : Int32} (hf : fX12_isVariable sO x1 = some out) (sz : Nat) : Met l yX12_isVariable (zws yX12_isVariable cX12_isVariable 2 (some .boolean)) rmX12_isVariable (zPc D T [.ref (aO 0), .int x1] [wX12 T aO sO] sz) (zQi D out [] (zA [] sz)) 0 0 (zA [] sz) :=
  zMet (D := D) (T := T) (av := [.ref (aO 0), .int x1]) (ws := fun T => [wX12 T aO sO]) (wm := fun T => []) (lv0 := [(0, .ref (aO 0)), (1, .int x1)]) [] (Qc := fun D T A => zQi D out [] A) (by decide +kernel) rfl (Nat.le_of_ble_eq_true rfl) rfl (fun C X hQ => bX12_isVariable_0 X hQ hf) sz
/-- private boolean isRow(int); of TableaufloorModel -/
abbrev rmX12_isRow : Room := { frames := 1, cells := 0, slots := 0, locals := 22 }
def fX12_isRow (sO : zSt) (x1 : Int32) : Option (Int32) :=
  ((fX12_in x1 (0 : Int32) ((zgi sO 11) - (1 : Int32))).bind (fun o8 =>
    (if znar .boolean o8 = true then
    some (o8) else none)))
theorem bX12_isRow_0 {C : zCtx} (X : zFx C cX12_isRow 2 RX12 rmX12_isRow (some .boolean)) {aO : Nat → Nat} {sO : zSt} {x1 : Int32} {out : Int32} (hQ : zHi C out [] 0 0) (h : fX12_isRow sO x1 = some out) : zG C 2 [] 0 0 [wX12 (zcT C) aO sO] 0 [(0, .ref (aO 0)), (1, .int x1)] [] := by
  unfold fX12_isRow at h
  refine z_iload_n X dX12_isRow_0 1 rfl ?_
  refine z_iconst (v := (0 : Int32)) X dX12_isRow_1 rfl ?_
  refine z_aload_n X dX12_isRow_2 0 rfl ?_
  refine z_get (v := .int (zgi sO 11)) X 0 0 13 11 ziX12 rfl (by decide) zw1347 rfl dX12_isRow_3 rfl rfl rfl ?_
  refine z_iconst (v := (1 : Int32)) X dX12_isRow_6 rfl ?_
  refine z_isub X dX12_isRow_7 ?_
  obtain ⟨o8, ho8, h⟩ := zbind_of h
  refine z_callSi (st := []) (ws2 := [wX12 (zcT C) aO sO]) X (metX12_in (zcl C) (zcD C) (zcT C)  ho8) zmX12_in zw1465 dX12_isRow_8 [] rfl rfl [] rfl (by decide) trivial rfl rfl rfl (Nat.le_of_ble_eq_true rfl) rfl rfl ⟨Nat.le_of_ble_eq_true rfl, Nat.le_of_ble_eq_true rfl⟩ ⟨Nat.le_of_ble_eq_true rfl, Nat.le_of_ble_eq_true rfl⟩ ?_
  obtain ⟨g11, h⟩ := zgd_of h
  cases h
  exact z_nret X hQ g11 dX12_isRow_11 rfl [] rfl (by decide) (by decide)
theorem metX12_isRow (l : Launch) (D : va_G) (T : Nat → ClassId) (aO : Nat → Nat) {sO : zSt} {x1 : Int32} {out : Int32} (hf : fX12_isRow sO x1 = some out) (sz : Nat) : Met l yX12_isRow (zws yX12_isRow cX12_isRow 2 (some .boolean)) rmX12_isRow (zPc D T [.ref (aO 0), .int x1] [wX12 T aO sO] sz) (zQi D out [] (zA [] sz)) 0 0 (zA [] sz) :=
  zMet (D := D) (T := T) (av := [.ref (aO 0), .int x1]) (ws := fun T => [wX12 T aO sO]) (wm := fun T => []) (lv0 := [(0, .ref (aO 0)), (1, .int x1)]) [] (Qc := fun D T A => zQi D out [] A) (by decide +kernel) rfl (Nat.le_of_ble_eq_true rfl) rfl (fun C X hQ => bX12_isRow_0 X hQ hf) sz
/-- private boolean isAimIn(int); of TableaufloorModel -/
abbrev rmX12_isAimIn : Room := { frames := 1, cells := 0, slots := 0, locals := 22 }
def fX12_isAimIn (sO : zSt) (x1 : Int32) : Option (Int32) :=
  ((fX12_in x1 (0 : Int32) ((zgi sO 12) - (1 : Int32))).bind (fun o8 =>
    (if znar .boolean o8 = true then
    some (o8) else none)))
theorem bX12_isAimIn_0 {C : zCtx} (X : zFx C cX12_isAimIn 2 RX12 rmX12_isAimIn (some .boolean)) {aO : Nat → Nat} {sO : zSt} {x1 : Int32} {out : Int32} (hQ : zHi C out [] 0 0) (h : fX12_isAimIn sO x1 = some out) : zG C 2 [] 0 0 [wX12 (zcT C) aO sO] 0 [(0, .ref (aO 0)), (1, .int x1)] [] := by
  unfold fX12_isAimIn at h
  refine z_iload_n X dX12_isAimIn_0 1 rfl ?_
  refine z_iconst (v := (0 : Int32)) X dX12_isAimIn_1 rfl ?_
  refine z_aload_n X dX12_isAimIn_2 0 rfl ?_
  refine z_get (v := .int (zgi sO 12)) X 0 0 13 12 ziX12 rfl (by decide) zw1348 rfl dX12_isAimIn_3 rfl rfl rfl ?_
  refine z_iconst (v := (1 : Int32)) X dX12_isAimIn_6 rfl ?_
  refine z_isub X dX12_isAimIn_7 ?_
  obtain ⟨o8, ho8, h⟩ := zbind_of h
  refine z_callSi (st := []) (ws2 := [wX12 (zcT C) aO sO]) X (metX12_in (zcl C) (zcD C) (zcT C)  ho8) zmX12_in zw1465 dX12_isAimIn_8 [] rfl rfl [] rfl (by decide) trivial rfl rfl rfl (Nat.le_of_ble_eq_true rfl) rfl rfl ⟨Nat.le_of_ble_eq_true rfl, Nat.le_of_ble_eq_true rfl⟩ ⟨Nat.le_of_ble_eq_true rfl, Nat.le_of_ble_eq_true rfl⟩ ?_
  obtain ⟨g11, h⟩ := zgd_of h
  cases h
  exact z_nret X hQ g11 dX12_isAimIn_11 rfl [] rfl (by decide) (by decide)
theorem metX12_isAimIn (l : Launch) (D : va_G) (T : Nat → ClassId) (aO : Nat → Nat) {sO : zSt} {x1 : Int32} {out : Int32} (hf : fX12_isAimIn sO x1 = some out) (sz : Nat) : Met l yX12_isAimIn (zws yX12_isAimIn cX12_isAimIn 2 (some .boolean)) rmX12_isAimIn (zPc D T [.ref (aO 0), .int x1] [wX12 T aO sO] sz) (zQi D out [] (zA [] sz)) 0 0 (zA [] sz) :=
  zMet (D := D) (T := T) (av := [.ref (aO 0), .int x1]) (ws := fun T => [wX12 T aO sO]) (wm := fun T => []) (lv0 := [(0, .ref (aO 0)), (1, .int x1)]) [] (Qc := fun D T A => zQi D out [] A) (by decide +kernel) rfl (Nat.le_of_ble_eq_true rfl) rfl (fun C X hQ => bX12_isAimIn_0 X hQ hf) sz
/-- public int addVariable(int, int); of TableaufloorModel -/
abbrev rmX12_addVariable : Room := { frames := 1, cells := 0, slots := 0, locals := 22 }
def fX12_addVariable_39 (sO : zSt) (x1 : Int32) (x2 : Int32) (y1 : Int32) : Option (Int32 × zSt) :=
  (zlet (zsi sO 9 y1) (fun sO39 =>
    (if (zgi sO39 9) ≤ 0 then
    (if zin (zgi sO39 10) 3 = true then
      (zlet (zsa sO39 0 (upd (zga sO39 0) ((zgi sO39 10)).toNatClampNeg x1)) (fun sO60 =>
      (if zin (zgi sO60 10) 3 = true then
      (zlet (zsa sO60 1 (upd (zga sO60 1) ((zgi sO60 10)).toNatClampNeg x2)) (fun sO70 =>
      (zlet (zsi sO70 10 ((zgi sO70 10) + (1 : Int32))) (fun sO78 =>
      some (((zgi sO78 10) - (1 : Int32)), sO78))))) else none))) else none)
  else
    some ((0 : Int32), sO39))))
def fX12_addVariable_22 (sO : zSt) (x1 : Int32) (x2 : Int32) : Option (Int32 × zSt) :=
  (fX12_addVariable_39 sO x1 x2 (1 : Int32))
def fX12_addVariable (sO : zSt) (x1 : Int32) (x2 : Int32) : Option (Int32 × zSt) :=
  ((fX12_in x1 (-50 : Int32) (50 : Int32)).bind (fun o6 =>
    (if o6 = 0 then
    (fX12_addVariable_22 sO x1 x2)
  else
    ((fX12_in x2 x1 (100 : Int32)).bind (fun o16 =>
      (if o16 = 0 then
      (fX12_addVariable_22 sO x1 x2)
    else
      (if (zgi sO 10) = (3 : Int32) then
        (fX12_addVariable_39 sO x1 x2 (2 : Int32))
      else
        (fX12_addVariable_39 sO x1 x2 (0 : Int32)))))))))
theorem bX12_addVariable_39 {C : zCtx} (X : zFx C cX12_addVariable 3 RX12 rmX12_addVariable (some .int)) {aO : Nat → Nat} {sO : zSt} {x1 : Int32} {x2 : Int32} {y1 : Int32} {out : Int32 × zSt} (hQ : zHi C out.1 [wX12 (zcT C) aO out.2] 0 0) (h : fX12_addVariable_39 sO x1 x2 y1 = some out) : zG C 3 [0] 0 0 [wX12 (zcT C) aO sO] 39 [(0, .ref (aO 0)), (1, .int x1), (2, .int x2)] [.int y1, .ref (aO 0)] := by
  unfold fX12_addVariable_39 at h
  obtain ⟨sO39, esO39, h⟩ := zlet_of h
  refine z_put (ws2 := [wX12 (zcT C) aO sO39]) X 0 0 13 9 ziX12 rfl tyX12 tyX12_ok nmX12 (by decide) zw1345 rfl rfl (ty := .int) (by decide +kernel) rfl rfl (by show 9 < 40; decide) dX12_addVariable_39 rfl rfl (by decide) (w2 := wX12 (zcT C) aO sO39) (by rw [esO39]; rfl) rfl ?_
  refine z_aload_n X dX12_addVariable_42 0 rfl ?_
  refine z_get (v := .int (zgi sO39 9)) X 0 0 13 9 ziX12 rfl (by decide) zw1345 rfl dX12_addVariable_43 rfl rfl rfl ?_
  refine z_if_le (tgt := 51) X dX12_addVariable_46 (by decide) (fun c46 => ?_) (fun c46 => ?_)
  · replace h := zif_t h c46
    refine z_aload_n X dX12_addVariable_51 0 rfl ?_
    refine z_get (v := .ref (aO 1)) X 0 0 13 0 ziX12 rfl (by decide) zw1336 rfl dX12_addVariable_52 rfl rfl rfl ?_
    refine z_aload_n X dX12_addVariable_55 0 rfl ?_
    refine z_get (v := .int (zgi sO39 10)) X 0 0 13 10 ziX12 rfl (by decide) zw1346 rfl dX12_addVariable_56 rfl rfl rfl ?_
    refine z_iload_n X dX12_addVariable_59 1 rfl ?_
    obtain ⟨g60, h⟩ := zgd_of h
    obtain ⟨sO60, esO60, h⟩ := zlet_of h
    refine z_iast (ws2 := [wX12 (zcT C) aO sO60]) X 0 1 g60 dX12_addVariable_60 rfl rfl (by decide) (w2 := wX12 (zcT C) aO sO60) (by rw [esO60]; rfl) rfl ?_
    refine z_aload_n X dX12_addVariable_61 0 rfl ?_
    refine z_get (v := .ref (aO 2)) X 0 0 13 1 ziX12 rfl (by decide) zw1337 rfl dX12_addVariable_62 rfl rfl rfl ?_
    refine z_aload_n X dX12_addVariable_65 0 rfl ?_
    refine z_get (v := .int (zgi sO60 10)) X 0 0 13 10 ziX12 rfl (by decide) zw1346 rfl dX12_addVariable_66 rfl rfl rfl ?_
    refine z_iload_n X dX12_addVariable_69 2 rfl ?_
    obtain ⟨g70, h⟩ := zgd_of h
    obtain ⟨sO70, esO70, h⟩ := zlet_of h
    refine z_iast (ws2 := [wX12 (zcT C) aO sO70]) X 0 2 g70 dX12_addVariable_70 rfl rfl (by decide) (w2 := wX12 (zcT C) aO sO70) (by rw [esO70]; rfl) rfl ?_
    refine z_aload_n X dX12_addVariable_71 0 rfl ?_
    refine z_dup X dX12_addVariable_72 rfl ?_
    refine z_get (v := .int (zgi sO70 10)) X 0 0 13 10 ziX12 rfl (by decide) zw1346 rfl dX12_addVariable_73 rfl rfl rfl ?_
    refine z_iconst (v := (1 : Int32)) X dX12_addVariable_76 rfl ?_
    refine z_iadd X dX12_addVariable_77 ?_
    obtain ⟨sO78, esO78, h⟩ := zlet_of h
    refine z_put (ws2 := [wX12 (zcT C) aO sO78]) X 0 0 13 10 ziX12 rfl tyX12 tyX12_ok nmX12 (by decide) zw1346 rfl rfl (ty := .int) (by decide +kernel) rfl rfl (by show 10 < 40; decide) dX12_addVariable_78 rfl rfl (by decide) (w2 := wX12 (zcT C) aO sO78) (by rw [esO78]; rfl) rfl ?_
    refine z_aload_n X dX12_addVariable_81 0 rfl ?_
    refine z_get (v := .int (zgi sO78 10)) X 0 0 13 10 ziX12 rfl (by decide) zw1346 rfl dX12_addVariable_82 rfl rfl rfl ?_
    refine z_iconst (v := (1 : Int32)) X dX12_addVariable_85 rfl ?_
    refine z_isub X dX12_addVariable_86 ?_
    cases h
    exact z_iret X hQ dX12_addVariable_87 rfl [0] rfl (by decide) (by decide)
  · replace h := zif_f h c46
    refine z_iconst (v := (0 : Int32)) X dX12_addVariable_49 rfl ?_
    cases h
    exact z_iret X hQ dX12_addVariable_50 rfl [0] rfl (by decide) (by decide)
theorem bX12_addVariable_22 {C : zCtx} (X : zFx C cX12_addVariable 3 RX12 rmX12_addVariable (some .int)) {aO : Nat → Nat} {sO : zSt} {x1 : Int32} {x2 : Int32} {out : Int32 × zSt} (hQ : zHi C out.1 [wX12 (zcT C) aO out.2] 0 0) (h : fX12_addVariable_22 sO x1 x2 = some out) : zG C 3 [0] 0 0 [wX12 (zcT C) aO sO] 22 [(0, .ref (aO 0)), (1, .int x1), (2, .int x2)] [.ref (aO 0)] := by
  unfold fX12_addVariable_22 at h
  refine z_iconst (v := (1 : Int32)) X dX12_addVariable_22 rfl ?_
  refine z_goto (tgt := 39) X dX12_addVariable_23 (by decide) ?_
  exact z_at (pc2 := 39) (lv2 := [(0, .ref (aO 0)), (1, .int x1), (2, .int x2)]) (st2 := [.int (1 : Int32), .ref (aO 0)]) (ws2 := [wX12 (zcT C) aO sO]) rfl rfl rfl [0, 1, 2] rfl (bX12_addVariable_39 X hQ  h)
theorem bX12_addVariable_0 {C : zCtx} (X : zFx C cX12_addVariable 3 RX12 rmX12_addVariable (some .int)) {aO : Nat → Nat} {sO : zSt} {x1 : Int32} {x2 : Int32} {out : Int32 × zSt} (hQ : zHi C out.1 [wX12 (zcT C) aO out.2] 0 0) (h : fX12_addVariable sO x1 x2 = some out) : zG C 3 [0] 0 0 [wX12 (zcT C) aO sO] 0 [(0, .ref (aO 0)), (1, .int x1), (2, .int x2)] [] := by
  unfold fX12_addVariable at h
  refine z_aload_n X dX12_addVariable_0 0 rfl ?_
  refine z_iload_n X dX12_addVariable_1 1 rfl ?_
  refine z_bipush (v := (-50 : Int32)) X dX12_addVariable_2 rfl ?_
  refine z_bipush (v := (50 : Int32)) X dX12_addVariable_4 rfl ?_
  obtain ⟨o6, ho6, h⟩ := zbind_of h
  refine z_callSi (st := [.ref (aO 0)]) (ws2 := [wX12 (zcT C) aO sO]) X (metX12_in (zcl C) (zcD C) (zcT C)  ho6) zmX12_in zw1465 dX12_addVariable_6 [] rfl rfl [] rfl (by decide) trivial rfl rfl rfl (Nat.le_of_ble_eq_true rfl) rfl rfl ⟨Nat.le_of_ble_eq_true rfl, Nat.le_of_ble_eq_true rfl⟩ ⟨Nat.le_of_ble_eq_true rfl, Nat.le_of_ble_eq_true rfl⟩ ?_
  refine z_if_eq (tgt := 22) X dX12_addVariable_9 (by decide) (fun c9 => ?_) (fun c9 => ?_)
  · replace h := zif_t h c9
    exact z_at (pc2 := 22) (lv2 := [(0, .ref (aO 0)), (1, .int x1), (2, .int x2)]) (st2 := [.ref (aO 0)]) (ws2 := [wX12 (zcT C) aO sO]) rfl rfl rfl [0, 1, 2] rfl (bX12_addVariable_22 X hQ  h)
  · replace h := zif_f h c9
    refine z_iload_n X dX12_addVariable_12 2 rfl ?_
    refine z_iload_n X dX12_addVariable_13 1 rfl ?_
    refine z_bipush (v := (100 : Int32)) X dX12_addVariable_14 rfl ?_
    obtain ⟨o16, ho16, h⟩ := zbind_of h
    refine z_callSi (st := [.ref (aO 0)]) (ws2 := [wX12 (zcT C) aO sO]) X (metX12_in (zcl C) (zcD C) (zcT C)  ho16) zmX12_in zw1465 dX12_addVariable_16 [] rfl rfl [] rfl (by decide) trivial rfl rfl rfl (Nat.le_of_ble_eq_true rfl) rfl rfl ⟨Nat.le_of_ble_eq_true rfl, Nat.le_of_ble_eq_true rfl⟩ ⟨Nat.le_of_ble_eq_true rfl, Nat.le_of_ble_eq_true rfl⟩ ?_
    refine z_if_ne (tgt := 26) X dX12_addVariable_19 (by decide) (fun c19 => ?_) (fun c19 => ?_)
    · replace h := zif_f h c19
      refine z_aload_n X dX12_addVariable_26 0 rfl ?_
      refine z_get (v := .int (zgi sO 10)) X 0 0 13 10 ziX12 rfl (by decide) zw1346 rfl dX12_addVariable_27 rfl rfl rfl ?_
      refine z_iconst (v := (3 : Int32)) X dX12_addVariable_30 rfl ?_
      refine z_icmp_ne (tgt := 38) X dX12_addVariable_31 (by decide) (fun c31 => ?_) (fun c31 => ?_)
      · replace h := zif_f h c31
        refine z_iconst (v := (0 : Int32)) X dX12_addVariable_38 rfl ?_
        exact z_at (pc2 := 39) (lv2 := [(0, .ref (aO 0)), (1, .int x1), (2, .int x2)]) (st2 := [.int (0 : Int32), .ref (aO 0)]) (ws2 := [wX12 (zcT C) aO sO]) rfl rfl rfl [0, 1, 2] rfl (bX12_addVariable_39 X hQ  h)
      · replace h := zif_t h c31
        refine z_iconst (v := (2 : Int32)) X dX12_addVariable_34 rfl ?_
        refine z_goto (tgt := 39) X dX12_addVariable_35 (by decide) ?_
        exact z_at (pc2 := 39) (lv2 := [(0, .ref (aO 0)), (1, .int x1), (2, .int x2)]) (st2 := [.int (2 : Int32), .ref (aO 0)]) (ws2 := [wX12 (zcT C) aO sO]) rfl rfl rfl [0, 1, 2] rfl (bX12_addVariable_39 X hQ  h)
    · replace h := zif_t h c19
      exact z_at (pc2 := 22) (lv2 := [(0, .ref (aO 0)), (1, .int x1), (2, .int x2)]) (st2 := [.ref (aO 0)]) (ws2 := [wX12 (zcT C) aO sO]) rfl rfl rfl [0, 1, 2] rfl (bX12_addVariable_22 X hQ  h)
theorem metX12_addVariable (l : Launch) (D : va_G) (T : Nat → ClassId) (aO : Nat → Nat) {sO : zSt} {x1 : Int32} {x2 : Int32} {out : Int32 × zSt} (hf : fX12_addVariable sO x1 x2 = some out) (sz : Nat) : Met l yX12_addVariable (zws yX12_addVariable cX12_addVariable 3 (some .int)) rmX12_addVariable (zPc D T [.ref (aO 0), .int x1, .int x2] [wX12 T aO sO] sz) (zQi D out.1 [wX12 T aO out.2] (zA [wX12 T aO sO] sz)) 0 0 (zA [wX12 T aO sO] sz) :=
  zMet (D := D) (T := T) (av := [.ref (aO 0), .int x1, .int x2]) (ws := fun T => [wX12 T aO sO]) (wm := fun T => [wX12 T aO sO]) (lv0 := [(0, .ref (aO 0)), (1, .int x1), (2, .int x2)]) [0] (Qc := fun D T A => zQi D out.1 [wX12 T aO out.2] A) (by decide +kernel) rfl (Nat.le_of_ble_eq_true rfl) rfl (fun C X hQ => bX12_addVariable_0 X hQ hf) sz
/-- public int setLeast(int, int); of TableaufloorModel -/
abbrev rmX12_setLeast : Room := { frames := 2, cells := 0, slots := 0, locals := 43 }
def fX12_setLeast_39 (sO : zSt) (x1 : Int32) (x2 : Int32) (y1 : Int32) : Option (Int32 × zSt) :=
  (zlet (zsi sO 9 y1) (fun sO39 =>
    (if (zgi sO39 9) ≤ 0 then
    (if zin x1 3 = true then
      (zlet (zga sO39 0 (x1).toNatClampNeg) (fun v57 =>
      (if zin x1 3 = true then
      (zlet (zsa sO39 0 (upd (zga sO39 0) (x1).toNatClampNeg x2)) (fun sO64 =>
      some (v57, sO64))) else none))) else none)
  else
    some ((0 : Int32), sO39))))
def fX12_setLeast_34 (sO : zSt) (x1 : Int32) (x2 : Int32) : Option (Int32 × zSt) :=
  (fX12_setLeast_39 sO x1 x2 (2 : Int32))
def fX12_setLeast (sO : zSt) (x1 : Int32) (x2 : Int32) : Option (Int32 × zSt) :=
  ((fX12_isVariable sO x1).bind (fun o3 =>
    (if o3 = 0 then
    (fX12_setLeast_39 sO x1 x2 (1 : Int32))
  else
    ((fX12_in x2 (-50 : Int32) (50 : Int32)).bind (fun o18 =>
      (if o18 = 0 then
      (fX12_setLeast_34 sO x1 x2)
    else
      (if zin x1 3 = true then
        (if x2 ≤ (zga sO 1 (x1).toNatClampNeg) then
        (fX12_setLeast_39 sO x1 x2 (0 : Int32))
      else
        (fX12_setLeast_34 sO x1 x2)) else none)))))))
theorem bX12_setLeast_39 {C : zCtx} (X : zFx C cX12_setLeast 4 RX12 rmX12_setLeast (some .int)) {aO : Nat → Nat} {sO : zSt} {x1 : Int32} {x2 : Int32} {y1 : Int32} {out : Int32 × zSt} (hQ : zHi C out.1 [wX12 (zcT C) aO out.2] 0 0) (h : fX12_setLeast_39 sO x1 x2 y1 = some out) : zG C 4 [0] 0 0 [wX12 (zcT C) aO sO] 39 [(0, .ref (aO 0)), (1, .int x1), (2, .int x2)] [.int y1, .ref (aO 0)] := by
  unfold fX12_setLeast_39 at h
  obtain ⟨sO39, esO39, h⟩ := zlet_of h
  refine z_put (ws2 := [wX12 (zcT C) aO sO39]) X 0 0 13 9 ziX12 rfl tyX12 tyX12_ok nmX12 (by decide) zw1345 rfl rfl (ty := .int) (by decide +kernel) rfl rfl (by show 9 < 40; decide) dX12_setLeast_39 rfl rfl (by decide) (w2 := wX12 (zcT C) aO sO39) (by rw [esO39]; rfl) rfl ?_
  refine z_aload_n X dX12_setLeast_42 0 rfl ?_
  refine z_get (v := .int (zgi sO39 9)) X 0 0 13 9 ziX12 rfl (by decide) zw1345 rfl dX12_setLeast_43 rfl rfl rfl ?_
  refine z_if_le (tgt := 51) X dX12_setLeast_46 (by decide) (fun c46 => ?_) (fun c46 => ?_)
  · replace h := zif_t h c46
    refine z_aload_n X dX12_setLeast_51 0 rfl ?_
    refine z_get (v := .ref (aO 1)) X 0 0 13 0 ziX12 rfl (by decide) zw1336 rfl dX12_setLeast_52 rfl rfl rfl ?_
    refine z_iload_n X dX12_setLeast_55 1 rfl ?_
    obtain ⟨g56, h⟩ := zgd_of h
    refine z_iald X 0 1 g56 dX12_setLeast_56 rfl rfl ?_
    obtain ⟨v57, ev57, h⟩ := zlet_of h
    refine z_topi ev57 ?_
    refine z_istore_n (lv2 := [(3, .int v57), (0, .ref (aO 0)), (1, .int x1), (2, .int x2)]) X dX12_setLeast_57 rfl (by decide) rfl ?_
    refine z_aload_n X dX12_setLeast_58 1 rfl ?_
    refine z_get (v := .ref (aO 1)) X 0 0 13 0 ziX12 rfl (by decide) zw1336 rfl dX12_setLeast_59 rfl rfl rfl ?_
    refine z_iload_n X dX12_setLeast_62 2 rfl ?_
    refine z_iload_n X dX12_setLeast_63 3 rfl ?_
    obtain ⟨g64, h⟩ := zgd_of h
    obtain ⟨sO64, esO64, h⟩ := zlet_of h
    refine z_iast (ws2 := [wX12 (zcT C) aO sO64]) X 0 1 g64 dX12_setLeast_64 rfl rfl (by decide) (w2 := wX12 (zcT C) aO sO64) (by rw [esO64]; rfl) rfl ?_
    refine z_iload_n X dX12_setLeast_65 0 rfl ?_
    cases h
    exact z_iret X hQ dX12_setLeast_66 rfl [0] rfl (by decide) (by decide)
  · replace h := zif_f h c46
    refine z_iconst (v := (0 : Int32)) X dX12_setLeast_49 rfl ?_
    cases h
    exact z_iret X hQ dX12_setLeast_50 rfl [0] rfl (by decide) (by decide)
theorem bX12_setLeast_34 {C : zCtx} (X : zFx C cX12_setLeast 4 RX12 rmX12_setLeast (some .int)) {aO : Nat → Nat} {sO : zSt} {x1 : Int32} {x2 : Int32} {out : Int32 × zSt} (hQ : zHi C out.1 [wX12 (zcT C) aO out.2] 0 0) (h : fX12_setLeast_34 sO x1 x2 = some out) : zG C 4 [0] 0 0 [wX12 (zcT C) aO sO] 34 [(0, .ref (aO 0)), (1, .int x1), (2, .int x2)] [.ref (aO 0)] := by
  unfold fX12_setLeast_34 at h
  refine z_iconst (v := (2 : Int32)) X dX12_setLeast_34 rfl ?_
  refine z_goto (tgt := 39) X dX12_setLeast_35 (by decide) ?_
  exact z_at (pc2 := 39) (lv2 := [(0, .ref (aO 0)), (1, .int x1), (2, .int x2)]) (st2 := [.int (2 : Int32), .ref (aO 0)]) (ws2 := [wX12 (zcT C) aO sO]) rfl rfl rfl [0, 1, 2] rfl (bX12_setLeast_39 X hQ  h)
theorem bX12_setLeast_0 {C : zCtx} (X : zFx C cX12_setLeast 4 RX12 rmX12_setLeast (some .int)) {aO : Nat → Nat} {sO : zSt} {x1 : Int32} {x2 : Int32} {out : Int32 × zSt} (hQ : zHi C out.1 [wX12 (zcT C) aO out.2] 0 0) (h : fX12_setLeast sO x1 x2 = some out) : zG C 4 [0] 0 0 [wX12 (zcT C) aO sO] 0 [(0, .ref (aO 0)), (1, .int x1), (2, .int x2)] [] := by
  unfold fX12_setLeast at h
  refine z_aload_n X dX12_setLeast_0 0 rfl ?_
  refine z_aload_n X dX12_setLeast_1 0 rfl ?_
  refine z_iload_n X dX12_setLeast_2 1 rfl ?_
  obtain ⟨o3, ho3, h⟩ := zbind_of h
  refine z_callVi (st := [.ref (aO 0)]) (ws2 := [wX12 (zcT C) aO sO]) X (metX12_isVariable (zcl C) (zcD C) (zcT C) aO ho3) zmX12_isVariable zw1472 dX12_setLeast_3 0 0 13 rfl rfl rfl rfl [0] rfl rfl [] rfl (by decide) trivial rfl rfl rfl (Nat.le_of_ble_eq_true rfl) rfl rfl ⟨Nat.le_of_ble_eq_true rfl, Nat.le_of_ble_eq_true rfl⟩ ⟨Nat.le_of_ble_eq_true rfl, Nat.le_of_ble_eq_true rfl⟩ ?_
  refine z_if_ne (tgt := 13) X dX12_setLeast_6 (by decide) (fun c6 => ?_) (fun c6 => ?_)
  · replace h := zif_f h c6
    refine z_iload_n X dX12_setLeast_13 2 rfl ?_
    refine z_bipush (v := (-50 : Int32)) X dX12_setLeast_14 rfl ?_
    refine z_bipush (v := (50 : Int32)) X dX12_setLeast_16 rfl ?_
    obtain ⟨o18, ho18, h⟩ := zbind_of h
    refine z_callSi (st := [.ref (aO 0)]) (ws2 := [wX12 (zcT C) aO sO]) X (metX12_in (zcl C) (zcD C) (zcT C)  ho18) zmX12_in zw1465 dX12_setLeast_18 [] rfl rfl [] rfl (by decide) trivial rfl rfl rfl (Nat.le_of_ble_eq_true rfl) rfl rfl ⟨Nat.le_of_ble_eq_true rfl, Nat.le_of_ble_eq_true rfl⟩ ⟨Nat.le_of_ble_eq_true rfl, Nat.le_of_ble_eq_true rfl⟩ ?_
    refine z_if_eq (tgt := 34) X dX12_setLeast_21 (by decide) (fun c21 => ?_) (fun c21 => ?_)
    · replace h := zif_t h c21
      exact z_at (pc2 := 34) (lv2 := [(0, .ref (aO 0)), (1, .int x1), (2, .int x2)]) (st2 := [.ref (aO 0)]) (ws2 := [wX12 (zcT C) aO sO]) rfl rfl rfl [0, 1, 2] rfl (bX12_setLeast_34 X hQ  h)
    · replace h := zif_f h c21
      refine z_iload_n X dX12_setLeast_24 2 rfl ?_
      refine z_aload_n X dX12_setLeast_25 0 rfl ?_
      refine z_get (v := .ref (aO 2)) X 0 0 13 1 ziX12 rfl (by decide) zw1337 rfl dX12_setLeast_26 rfl rfl rfl ?_
      refine z_iload_n X dX12_setLeast_29 1 rfl ?_
      obtain ⟨g30, h⟩ := zgd_of h
      refine z_iald X 0 2 g30 dX12_setLeast_30 rfl rfl ?_
      refine z_icmp_le (tgt := 38) X dX12_setLeast_31 (by decide) (fun c31 => ?_) (fun c31 => ?_)
      · replace h := zif_t h c31
        refine z_iconst (v := (0 : Int32)) X dX12_setLeast_38 rfl ?_
        exact z_at (pc2 := 39) (lv2 := [(0, .ref (aO 0)), (1, .int x1), (2, .int x2)]) (st2 := [.int (0 : Int32), .ref (aO 0)]) (ws2 := [wX12 (zcT C) aO sO]) rfl rfl rfl [0, 1, 2] rfl (bX12_setLeast_39 X hQ  h)
      · replace h := zif_f h c31
        exact z_at (pc2 := 34) (lv2 := [(0, .ref (aO 0)), (1, .int x1), (2, .int x2)]) (st2 := [.ref (aO 0)]) (ws2 := [wX12 (zcT C) aO sO]) rfl rfl rfl [0, 1, 2] rfl (bX12_setLeast_34 X hQ  h)
  · replace h := zif_t h c6
    refine z_iconst (v := (1 : Int32)) X dX12_setLeast_9 rfl ?_
    refine z_goto (tgt := 39) X dX12_setLeast_10 (by decide) ?_
    exact z_at (pc2 := 39) (lv2 := [(0, .ref (aO 0)), (1, .int x1), (2, .int x2)]) (st2 := [.int (1 : Int32), .ref (aO 0)]) (ws2 := [wX12 (zcT C) aO sO]) rfl rfl rfl [0, 1, 2] rfl (bX12_setLeast_39 X hQ  h)
theorem metX12_setLeast (l : Launch) (D : va_G) (T : Nat → ClassId) (aO : Nat → Nat) {sO : zSt} {x1 : Int32} {x2 : Int32} {out : Int32 × zSt} (hf : fX12_setLeast sO x1 x2 = some out) (sz : Nat) : Met l yX12_setLeast (zws yX12_setLeast cX12_setLeast 4 (some .int)) rmX12_setLeast (zPc D T [.ref (aO 0), .int x1, .int x2] [wX12 T aO sO] sz) (zQi D out.1 [wX12 T aO out.2] (zA [wX12 T aO sO] sz)) 0 0 (zA [wX12 T aO sO] sz) :=
  zMet (D := D) (T := T) (av := [.ref (aO 0), .int x1, .int x2]) (ws := fun T => [wX12 T aO sO]) (wm := fun T => [wX12 T aO sO]) (lv0 := [(0, .ref (aO 0)), (1, .int x1), (2, .int x2)]) [0] (Qc := fun D T A => zQi D out.1 [wX12 T aO out.2] A) (by decide +kernel) rfl (Nat.le_of_ble_eq_true rfl) rfl (fun C X hQ => bX12_setLeast_0 X hQ hf) sz
/-- public int setGreatest(int, int); of TableaufloorModel -/
abbrev rmX12_setGreatest : Room := { frames := 2, cells := 0, slots := 0, locals := 43 }
def fX12_setGreatest_33 (sO : zSt) (x1 : Int32) (x2 : Int32) (y1 : Int32) : Option (Int32 × zSt) :=
  (zlet (zsi sO 9 y1) (fun sO33 =>
    (if (zgi sO33 9) ≤ 0 then
    (if zin x1 3 = true then
      (zlet (zga sO33 1 (x1).toNatClampNeg) (fun v51 =>
      (if zin x1 3 = true then
      (zlet (zsa sO33 1 (upd (zga sO33 1) (x1).toNatClampNeg x2)) (fun sO58 =>
      some (v51, sO58))) else none))) else none)
  else
    some ((0 : Int32), sO33))))
def fX12_setGreatest (sO : zSt) (x1 : Int32) (x2 : Int32) : Option (Int32 × zSt) :=
  ((fX12_isVariable sO x1).bind (fun o3 =>
    (if o3 = 0 then
    (fX12_setGreatest_33 sO x1 x2 (1 : Int32))
  else
    (if zin x1 3 = true then
      ((fX12_in x2 (zga sO 0 (x1).toNatClampNeg) (100 : Int32)).bind (fun o22 =>
      (if o22 = 0 then
      (fX12_setGreatest_33 sO x1 x2 (2 : Int32))
    else
      (fX12_setGreatest_33 sO x1 x2 (0 : Int32))))) else none))))
theorem bX12_setGreatest_33 {C : zCtx} (X : zFx C cX12_setGreatest 4 RX12 rmX12_setGreatest (some .int)) {aO : Nat → Nat} {sO : zSt} {x1 : Int32} {x2 : Int32} {y1 : Int32} {out : Int32 × zSt} (hQ : zHi C out.1 [wX12 (zcT C) aO out.2] 0 0) (h : fX12_setGreatest_33 sO x1 x2 y1 = some out) : zG C 4 [0] 0 0 [wX12 (zcT C) aO sO] 33 [(0, .ref (aO 0)), (1, .int x1), (2, .int x2)] [.int y1, .ref (aO 0)] := by
  unfold fX12_setGreatest_33 at h
  obtain ⟨sO33, esO33, h⟩ := zlet_of h
  refine z_put (ws2 := [wX12 (zcT C) aO sO33]) X 0 0 13 9 ziX12 rfl tyX12 tyX12_ok nmX12 (by decide) zw1345 rfl rfl (ty := .int) (by decide +kernel) rfl rfl (by show 9 < 40; decide) dX12_setGreatest_33 rfl rfl (by decide) (w2 := wX12 (zcT C) aO sO33) (by rw [esO33]; rfl) rfl ?_
  refine z_aload_n X dX12_setGreatest_36 0 rfl ?_
  refine z_get (v := .int (zgi sO33 9)) X 0 0 13 9 ziX12 rfl (by decide) zw1345 rfl dX12_setGreatest_37 rfl rfl rfl ?_
  refine z_if_le (tgt := 45) X dX12_setGreatest_40 (by decide) (fun c40 => ?_) (fun c40 => ?_)
  · replace h := zif_t h c40
    refine z_aload_n X dX12_setGreatest_45 0 rfl ?_
    refine z_get (v := .ref (aO 2)) X 0 0 13 1 ziX12 rfl (by decide) zw1337 rfl dX12_setGreatest_46 rfl rfl rfl ?_
    refine z_iload_n X dX12_setGreatest_49 1 rfl ?_
    obtain ⟨g50, h⟩ := zgd_of h
    refine z_iald X 0 2 g50 dX12_setGreatest_50 rfl rfl ?_
    obtain ⟨v51, ev51, h⟩ := zlet_of h
    refine z_topi ev51 ?_
    refine z_istore_n (lv2 := [(3, .int v51), (0, .ref (aO 0)), (1, .int x1), (2, .int x2)]) X dX12_setGreatest_51 rfl (by decide) rfl ?_
    refine z_aload_n X dX12_setGreatest_52 1 rfl ?_
    refine z_get (v := .ref (aO 2)) X 0 0 13 1 ziX12 rfl (by decide) zw1337 rfl dX12_setGreatest_53 rfl rfl rfl ?_
    refine z_iload_n X dX12_setGreatest_56 2 rfl ?_
    refine z_iload_n X dX12_setGreatest_57 3 rfl ?_
    obtain ⟨g58, h⟩ := zgd_of h
    obtain ⟨sO58, esO58, h⟩ := zlet_of h
    refine z_iast (ws2 := [wX12 (zcT C) aO sO58]) X 0 2 g58 dX12_setGreatest_58 rfl rfl (by decide) (w2 := wX12 (zcT C) aO sO58) (by rw [esO58]; rfl) rfl ?_
    refine z_iload_n X dX12_setGreatest_59 0 rfl ?_
    cases h
    exact z_iret X hQ dX12_setGreatest_60 rfl [0] rfl (by decide) (by decide)
  · replace h := zif_f h c40
    refine z_iconst (v := (0 : Int32)) X dX12_setGreatest_43 rfl ?_
    cases h
    exact z_iret X hQ dX12_setGreatest_44 rfl [0] rfl (by decide) (by decide)
theorem bX12_setGreatest_0 {C : zCtx} (X : zFx C cX12_setGreatest 4 RX12 rmX12_setGreatest (some .int)) {aO : Nat → Nat} {sO : zSt} {x1 : Int32} {x2 : Int32} {out : Int32 × zSt} (hQ : zHi C out.1 [wX12 (zcT C) aO out.2] 0 0) (h : fX12_setGreatest sO x1 x2 = some out) : zG C 4 [0] 0 0 [wX12 (zcT C) aO sO] 0 [(0, .ref (aO 0)), (1, .int x1), (2, .int x2)] [] := by
  unfold fX12_setGreatest at h
  refine z_aload_n X dX12_setGreatest_0 0 rfl ?_
  refine z_aload_n X dX12_setGreatest_1 0 rfl ?_
  refine z_iload_n X dX12_setGreatest_2 1 rfl ?_
  obtain ⟨o3, ho3, h⟩ := zbind_of h
  refine z_callVi (st := [.ref (aO 0)]) (ws2 := [wX12 (zcT C) aO sO]) X (metX12_isVariable (zcl C) (zcD C) (zcT C) aO ho3) zmX12_isVariable zw1472 dX12_setGreatest_3 0 0 13 rfl rfl rfl rfl [0] rfl rfl [] rfl (by decide) trivial rfl rfl rfl (Nat.le_of_ble_eq_true rfl) rfl rfl ⟨Nat.le_of_ble_eq_true rfl, Nat.le_of_ble_eq_true rfl⟩ ⟨Nat.le_of_ble_eq_true rfl, Nat.le_of_ble_eq_true rfl⟩ ?_
  refine z_if_ne (tgt := 13) X dX12_setGreatest_6 (by decide) (fun c6 => ?_) (fun c6 => ?_)
  · replace h := zif_f h c6
    refine z_iload_n X dX12_setGreatest_13 2 rfl ?_
    refine z_aload_n X dX12_setGreatest_14 0 rfl ?_
    refine z_get (v := .ref (aO 1)) X 0 0 13 0 ziX12 rfl (by decide) zw1336 rfl dX12_setGreatest_15 rfl rfl rfl ?_
    refine z_iload_n X dX12_setGreatest_18 1 rfl ?_
    obtain ⟨g19, h⟩ := zgd_of h
    refine z_iald X 0 1 g19 dX12_setGreatest_19 rfl rfl ?_
    refine z_bipush (v := (100 : Int32)) X dX12_setGreatest_20 rfl ?_
    obtain ⟨o22, ho22, h⟩ := zbind_of h
    refine z_callSi (st := [.ref (aO 0)]) (ws2 := [wX12 (zcT C) aO sO]) X (metX12_in (zcl C) (zcD C) (zcT C)  ho22) zmX12_in zw1465 dX12_setGreatest_22 [] rfl rfl [] rfl (by decide) trivial rfl rfl rfl (Nat.le_of_ble_eq_true rfl) rfl rfl ⟨Nat.le_of_ble_eq_true rfl, Nat.le_of_ble_eq_true rfl⟩ ⟨Nat.le_of_ble_eq_true rfl, Nat.le_of_ble_eq_true rfl⟩ ?_
    refine z_if_ne (tgt := 32) X dX12_setGreatest_25 (by decide) (fun c25 => ?_) (fun c25 => ?_)
    · replace h := zif_f h c25
      refine z_iconst (v := (0 : Int32)) X dX12_setGreatest_32 rfl ?_
      exact z_at (pc2 := 33) (lv2 := [(0, .ref (aO 0)), (1, .int x1), (2, .int x2)]) (st2 := [.int (0 : Int32), .ref (aO 0)]) (ws2 := [wX12 (zcT C) aO sO]) rfl rfl rfl [0, 1, 2] rfl (bX12_setGreatest_33 X hQ  h)
    · replace h := zif_t h c25
      refine z_iconst (v := (2 : Int32)) X dX12_setGreatest_28 rfl ?_
      refine z_goto (tgt := 33) X dX12_setGreatest_29 (by decide) ?_
      exact z_at (pc2 := 33) (lv2 := [(0, .ref (aO 0)), (1, .int x1), (2, .int x2)]) (st2 := [.int (2 : Int32), .ref (aO 0)]) (ws2 := [wX12 (zcT C) aO sO]) rfl rfl rfl [0, 1, 2] rfl (bX12_setGreatest_33 X hQ  h)
  · replace h := zif_t h c6
    refine z_iconst (v := (1 : Int32)) X dX12_setGreatest_9 rfl ?_
    refine z_goto (tgt := 33) X dX12_setGreatest_10 (by decide) ?_
    exact z_at (pc2 := 33) (lv2 := [(0, .ref (aO 0)), (1, .int x1), (2, .int x2)]) (st2 := [.int (1 : Int32), .ref (aO 0)]) (ws2 := [wX12 (zcT C) aO sO]) rfl rfl rfl [0, 1, 2] rfl (bX12_setGreatest_33 X hQ  h)
theorem metX12_setGreatest (l : Launch) (D : va_G) (T : Nat → ClassId) (aO : Nat → Nat) {sO : zSt} {x1 : Int32} {x2 : Int32} {out : Int32 × zSt} (hf : fX12_setGreatest sO x1 x2 = some out) (sz : Nat) : Met l yX12_setGreatest (zws yX12_setGreatest cX12_setGreatest 4 (some .int)) rmX12_setGreatest (zPc D T [.ref (aO 0), .int x1, .int x2] [wX12 T aO sO] sz) (zQi D out.1 [wX12 T aO out.2] (zA [wX12 T aO sO] sz)) 0 0 (zA [wX12 T aO sO] sz) :=
  zMet (D := D) (T := T) (av := [.ref (aO 0), .int x1, .int x2]) (ws := fun T => [wX12 T aO sO]) (wm := fun T => [wX12 T aO sO]) (lv0 := [(0, .ref (aO 0)), (1, .int x1), (2, .int x2)]) [0] (Qc := fun D T A => zQi D out.1 [wX12 T aO out.2] A) (by decide +kernel) rfl (Nat.le_of_ble_eq_true rfl) rfl (fun C X hQ => bX12_setGreatest_0 X hQ hf) sz
/-- private static boolean isDigit(char); of TableaufloorModel -/
abbrev rmX12_isDigit : Room := { frames := 0, cells := 0, slots := 0, locals := 0 }
def fX12_isDigit_17 (y0 : Int32) : Option (Int32) :=
  (if znar .boolean y0 = true then
    some (y0) else none)
def fX12_isDigit_16 : Option (Int32) :=
  (fX12_isDigit_17 (0 : Int32))
def fX12_isDigit (x0 : Int32) : Option (Int32) :=
  (if x0 < (48 : Int32) then
    (fX12_isDigit_16)
  else
    (if (57 : Int32) < x0 then
      (fX12_isDigit_16)
    else
      (fX12_isDigit_17 (1 : Int32))))
theorem bX12_isDigit_17 {C : zCtx} (X : zFx C cX12_isDigit 1 RX12 rmX12_isDigit (some .boolean)) {y0 : Int32} {out : Int32} (hQ : zHi C out [] 0 0) (h : fX12_isDigit_17 y0 = some out) : zG C 1 [] 0 0 [] 17 [] [.int y0] := by
  unfold fX12_isDigit_17 at h
  obtain ⟨g17, h⟩ := zgd_of h
  cases h
  exact z_nret X hQ g17 dX12_isDigit_17 rfl [] rfl (by decide) (by decide)
theorem bX12_isDigit_16 {C : zCtx} (X : zFx C cX12_isDigit 1 RX12 rmX12_isDigit (some .boolean)) {out : Int32} (hQ : zHi C out [] 0 0) (h : fX12_isDigit_16 = some out) : zG C 1 [] 0 0 [] 16 [] [] := by
  unfold fX12_isDigit_16 at h
  refine z_iconst (v := (0 : Int32)) X dX12_isDigit_16 rfl ?_
  exact z_at (pc2 := 17) (lv2 := []) (st2 := [.int (0 : Int32)]) (ws2 := []) rfl rfl rfl [] rfl (bX12_isDigit_17 X hQ  h)
theorem bX12_isDigit_0 {C : zCtx} (X : zFx C cX12_isDigit 1 RX12 rmX12_isDigit (some .boolean)) {x0 : Int32} {out : Int32} (hQ : zHi C out [] 0 0) (h : fX12_isDigit x0 = some out) : zG C 1 [] 0 0 [] 0 [(0, .int x0)] [] := by
  unfold fX12_isDigit at h
  refine z_iload_n X dX12_isDigit_0 0 rfl ?_
  refine z_bipush (v := (48 : Int32)) X dX12_isDigit_1 rfl ?_
  refine z_icmp_lt (tgt := 16) X dX12_isDigit_3 (by decide) (fun c3 => ?_) (fun c3 => ?_)
  · replace h := zif_t h c3
    exact z_at (pc2 := 16) (lv2 := []) (st2 := []) (ws2 := []) rfl rfl rfl [] rfl (bX12_isDigit_16 X hQ  h)
  · replace h := zif_f h c3
    refine z_iload_n X dX12_isDigit_6 0 rfl ?_
    refine z_bipush (v := (57 : Int32)) X dX12_isDigit_7 rfl ?_
    refine z_icmp_gt (tgt := 16) X dX12_isDigit_9 (by decide) (fun c9 => ?_) (fun c9 => ?_)
    · replace h := zif_t h c9
      exact z_at (pc2 := 16) (lv2 := []) (st2 := []) (ws2 := []) rfl rfl rfl [] rfl (bX12_isDigit_16 X hQ  h)
    · replace h := zif_f h c9
      refine z_iconst (v := (1 : Int32)) X dX12_isDigit_12 rfl ?_
      refine z_goto (tgt := 17) X dX12_isDigit_13 (by decide) ?_
      exact z_at (pc2 := 17) (lv2 := []) (st2 := [.int (1 : Int32)]) (ws2 := []) rfl rfl rfl [] rfl (bX12_isDigit_17 X hQ  h)
theorem metX12_isDigit (l : Launch) (D : va_G) (T : Nat → ClassId) {x0 : Int32} {out : Int32} (hf : fX12_isDigit x0 = some out) (sz : Nat) : Met l yX12_isDigit (zws yX12_isDigit cX12_isDigit 1 (some .boolean)) rmX12_isDigit (zPc D T [.int x0] [] sz) (zQi D out [] (zA [] sz)) 0 0 (zA [] sz) :=
  zMet (D := D) (T := T) (av := [.int x0]) (ws := fun T => []) (wm := fun T => []) (lv0 := [(0, .int x0)]) [] (Qc := fun D T A => zQi D out [] A) (by decide +kernel) rfl (Nat.le_of_ble_eq_true rfl) rfl (fun C X hQ => bX12_isDigit_0 X hQ hf) sz
/-- private static boolean isSign(char); of TableaufloorModel -/
abbrev rmX12_isSign : Room := { frames := 0, cells := 0, slots := 0, locals := 0 }
def fX12_isSign_35 (y0 : Int32) : Option (Int32) :=
  (if znar .boolean y0 = true then
    some (y0) else none)
def fX12_isSign_30 : Option (Int32) :=
  (fX12_isSign_35 (1 : Int32))
def fX12_isSign (x0 : Int32) : Option (Int32) :=
  (if x0 = (43 : Int32) then
    (fX12_isSign_30)
  else
    (if x0 = (45 : Int32) then
      (fX12_isSign_30)
    else
      (if x0 = (60 : Int32) then
        (fX12_isSign_30)
      else
        (if x0 = (62 : Int32) then
          (fX12_isSign_30)
        else
          (if x0 = (61 : Int32) then
            (fX12_isSign_30)
          else
            (fX12_isSign_35 (0 : Int32)))))))
theorem bX12_isSign_35 {C : zCtx} (X : zFx C cX12_isSign 1 RX12 rmX12_isSign (some .boolean)) {y0 : Int32} {out : Int32} (hQ : zHi C out [] 0 0) (h : fX12_isSign_35 y0 = some out) : zG C 1 [] 0 0 [] 35 [] [.int y0] := by
  unfold fX12_isSign_35 at h
  obtain ⟨g35, h⟩ := zgd_of h
  cases h
  exact z_nret X hQ g35 dX12_isSign_35 rfl [] rfl (by decide) (by decide)
theorem bX12_isSign_30 {C : zCtx} (X : zFx C cX12_isSign 1 RX12 rmX12_isSign (some .boolean)) {out : Int32} (hQ : zHi C out [] 0 0) (h : fX12_isSign_30 = some out) : zG C 1 [] 0 0 [] 30 [] [] := by
  unfold fX12_isSign_30 at h
  refine z_iconst (v := (1 : Int32)) X dX12_isSign_30 rfl ?_
  refine z_goto (tgt := 35) X dX12_isSign_31 (by decide) ?_
  exact z_at (pc2 := 35) (lv2 := []) (st2 := [.int (1 : Int32)]) (ws2 := []) rfl rfl rfl [] rfl (bX12_isSign_35 X hQ  h)
theorem bX12_isSign_0 {C : zCtx} (X : zFx C cX12_isSign 1 RX12 rmX12_isSign (some .boolean)) {x0 : Int32} {out : Int32} (hQ : zHi C out [] 0 0) (h : fX12_isSign x0 = some out) : zG C 1 [] 0 0 [] 0 [(0, .int x0)] [] := by
  unfold fX12_isSign at h
  refine z_iload_n X dX12_isSign_0 0 rfl ?_
  refine z_bipush (v := (43 : Int32)) X dX12_isSign_1 rfl ?_
  refine z_icmp_eq (tgt := 30) X dX12_isSign_3 (by decide) (fun c3 => ?_) (fun c3 => ?_)
  · replace h := zif_t h c3
    exact z_at (pc2 := 30) (lv2 := []) (st2 := []) (ws2 := []) rfl rfl rfl [] rfl (bX12_isSign_30 X hQ  h)
  · replace h := zif_f h c3
    refine z_iload_n X dX12_isSign_6 0 rfl ?_
    refine z_bipush (v := (45 : Int32)) X dX12_isSign_7 rfl ?_
    refine z_icmp_eq (tgt := 30) X dX12_isSign_9 (by decide) (fun c9 => ?_) (fun c9 => ?_)
    · replace h := zif_t h c9
      exact z_at (pc2 := 30) (lv2 := []) (st2 := []) (ws2 := []) rfl rfl rfl [] rfl (bX12_isSign_30 X hQ  h)
    · replace h := zif_f h c9
      refine z_iload_n X dX12_isSign_12 0 rfl ?_
      refine z_bipush (v := (60 : Int32)) X dX12_isSign_13 rfl ?_
      refine z_icmp_eq (tgt := 30) X dX12_isSign_15 (by decide) (fun c15 => ?_) (fun c15 => ?_)
      · replace h := zif_t h c15
        exact z_at (pc2 := 30) (lv2 := []) (st2 := []) (ws2 := []) rfl rfl rfl [] rfl (bX12_isSign_30 X hQ  h)
      · replace h := zif_f h c15
        refine z_iload_n X dX12_isSign_18 0 rfl ?_
        refine z_bipush (v := (62 : Int32)) X dX12_isSign_19 rfl ?_
        refine z_icmp_eq (tgt := 30) X dX12_isSign_21 (by decide) (fun c21 => ?_) (fun c21 => ?_)
        · replace h := zif_t h c21
          exact z_at (pc2 := 30) (lv2 := []) (st2 := []) (ws2 := []) rfl rfl rfl [] rfl (bX12_isSign_30 X hQ  h)
        · replace h := zif_f h c21
          refine z_iload_n X dX12_isSign_24 0 rfl ?_
          refine z_bipush (v := (61 : Int32)) X dX12_isSign_25 rfl ?_
          refine z_icmp_ne (tgt := 34) X dX12_isSign_27 (by decide) (fun c27 => ?_) (fun c27 => ?_)
          · replace h := zif_f h c27
            refine z_iconst (v := (0 : Int32)) X dX12_isSign_34 rfl ?_
            exact z_at (pc2 := 35) (lv2 := []) (st2 := [.int (0 : Int32)]) (ws2 := []) rfl rfl rfl [] rfl (bX12_isSign_35 X hQ  h)
          · replace h := zif_t h c27
            exact z_at (pc2 := 30) (lv2 := []) (st2 := []) (ws2 := []) rfl rfl rfl [] rfl (bX12_isSign_30 X hQ  h)
theorem metX12_isSign (l : Launch) (D : va_G) (T : Nat → ClassId) {x0 : Int32} {out : Int32} (hf : fX12_isSign x0 = some out) (sz : Nat) : Met l yX12_isSign (zws yX12_isSign cX12_isSign 1 (some .boolean)) rmX12_isSign (zPc D T [.int x0] [] sz) (zQi D out [] (zA [] sz)) 0 0 (zA [] sz) :=
  zMet (D := D) (T := T) (av := [.int x0]) (ws := fun T => []) (wm := fun T => []) (lv0 := [(0, .int x0)]) [] (Qc := fun D T A => zQi D out [] A) (by decide +kernel) rfl (Nat.le_of_ble_eq_true rfl) rfl (fun C X hQ => bX12_isSign_0 X hQ hf) sz
/-- public int type(char); of TableaufloorModel -/
abbrev rmX12_type : Room := { frames := 1, cells := 0, slots := 0, locals := 20 }
def fX12_type_45 (sO : zSt) (x1 : Int32) (y1 : Int32) : Option (Int32 × zSt) :=
  (zlet (zsi sO 9 y1) (fun sO45 =>
    (if (zgi sO45 9) ≤ 0 then
    (if zin (zgi sO45 13) 30 = true then
      (zlet (zsa sO45 8 (upd (zga sO45 8) ((zgi sO45 13)).toNatClampNeg (vp_nar .char x1))) (fun sO66 =>
      (zlet (zsi sO66 13 ((zgi sO66 13) + (1 : Int32))) (fun sO74 =>
      some ((zgi sO74 13), sO74))))) else none)
  else
    some ((0 : Int32), sO45))))
def fX12_type_31 (sO : zSt) (x1 : Int32) : Option (Int32 × zSt) :=
  (if (zgi sO 13) = (30 : Int32) then
    (fX12_type_45 sO x1 (2 : Int32))
  else
    (fX12_type_45 sO x1 (0 : Int32)))
def fX12_type_13 (sO : zSt) (x1 : Int32) : Option (Int32 × zSt) :=
  ((fX12_isDigit x1).bind (fun o14 =>
    (if o14 = 0 then
    ((fX12_isSign x1).bind (fun o21 =>
      (if o21 = 0 then
      (fX12_type_45 sO x1 (1 : Int32))
    else
      (fX12_type_31 sO x1))))
  else
    (fX12_type_31 sO x1))))
def fX12_type (sO : zSt) (x1 : Int32) : Option (Int32 × zSt) :=
  (if x1 < (97 : Int32) then
    (fX12_type_13 sO x1)
  else
    (if x1 ≤ (122 : Int32) then
      (fX12_type_31 sO x1)
    else
      (fX12_type_13 sO x1)))
theorem bX12_type_45 {C : zCtx} (X : zFx C cX12_type 2 RX12 rmX12_type (some .int)) {aO : Nat → Nat} {sO : zSt} {x1 : Int32} {y1 : Int32} {out : Int32 × zSt} (hQ : zHi C out.1 [wX12 (zcT C) aO out.2] 0 0) (h : fX12_type_45 sO x1 y1 = some out) : zG C 2 [0] 0 0 [wX12 (zcT C) aO sO] 45 [(0, .ref (aO 0)), (1, .int x1)] [.int y1, .ref (aO 0)] := by
  unfold fX12_type_45 at h
  obtain ⟨sO45, esO45, h⟩ := zlet_of h
  refine z_put (ws2 := [wX12 (zcT C) aO sO45]) X 0 0 13 9 ziX12 rfl tyX12 tyX12_ok nmX12 (by decide) zw1345 rfl rfl (ty := .int) (by decide +kernel) rfl rfl (by show 9 < 40; decide) dX12_type_45 rfl rfl (by decide) (w2 := wX12 (zcT C) aO sO45) (by rw [esO45]; rfl) rfl ?_
  refine z_aload_n X dX12_type_48 0 rfl ?_
  refine z_get (v := .int (zgi sO45 9)) X 0 0 13 9 ziX12 rfl (by decide) zw1345 rfl dX12_type_49 rfl rfl rfl ?_
  refine z_if_le (tgt := 57) X dX12_type_52 (by decide) (fun c52 => ?_) (fun c52 => ?_)
  · replace h := zif_t h c52
    refine z_aload_n X dX12_type_57 0 rfl ?_
    refine z_get (v := .ref (aO 9)) X 0 0 13 8 ziX12 rfl (by decide) zw1344 rfl dX12_type_58 rfl rfl rfl ?_
    refine z_aload_n X dX12_type_61 0 rfl ?_
    refine z_get (v := .int (zgi sO45 13)) X 0 0 13 13 ziX12 rfl (by decide) zw1349 rfl dX12_type_62 rfl rfl rfl ?_
    refine z_iload_n X dX12_type_65 1 rfl ?_
    obtain ⟨g66, h⟩ := zgd_of h
    obtain ⟨sO66, esO66, h⟩ := zlet_of h
    refine z_cast (ws2 := [wX12 (zcT C) aO sO66]) X 0 9 g66 dX12_type_66 rfl rfl (by decide) (w2 := wX12 (zcT C) aO sO66) (by rw [esO66]; rfl) rfl ?_
    refine z_aload_n X dX12_type_67 0 rfl ?_
    refine z_dup X dX12_type_68 rfl ?_
    refine z_get (v := .int (zgi sO66 13)) X 0 0 13 13 ziX12 rfl (by decide) zw1349 rfl dX12_type_69 rfl rfl rfl ?_
    refine z_iconst (v := (1 : Int32)) X dX12_type_72 rfl ?_
    refine z_iadd X dX12_type_73 ?_
    obtain ⟨sO74, esO74, h⟩ := zlet_of h
    refine z_put (ws2 := [wX12 (zcT C) aO sO74]) X 0 0 13 13 ziX12 rfl tyX12 tyX12_ok nmX12 (by decide) zw1349 rfl rfl (ty := .int) (by decide +kernel) rfl rfl (by show 13 < 40; decide) dX12_type_74 rfl rfl (by decide) (w2 := wX12 (zcT C) aO sO74) (by rw [esO74]; rfl) rfl ?_
    refine z_aload_n X dX12_type_77 0 rfl ?_
    refine z_get (v := .int (zgi sO74 13)) X 0 0 13 13 ziX12 rfl (by decide) zw1349 rfl dX12_type_78 rfl rfl rfl ?_
    cases h
    exact z_iret X hQ dX12_type_81 rfl [0] rfl (by decide) (by decide)
  · replace h := zif_f h c52
    refine z_iconst (v := (0 : Int32)) X dX12_type_55 rfl ?_
    cases h
    exact z_iret X hQ dX12_type_56 rfl [0] rfl (by decide) (by decide)
theorem bX12_type_31 {C : zCtx} (X : zFx C cX12_type 2 RX12 rmX12_type (some .int)) {aO : Nat → Nat} {sO : zSt} {x1 : Int32} {out : Int32 × zSt} (hQ : zHi C out.1 [wX12 (zcT C) aO out.2] 0 0) (h : fX12_type_31 sO x1 = some out) : zG C 2 [0] 0 0 [wX12 (zcT C) aO sO] 31 [(0, .ref (aO 0)), (1, .int x1)] [.ref (aO 0)] := by
  unfold fX12_type_31 at h
  refine z_aload_n X dX12_type_31 0 rfl ?_
  refine z_get (v := .int (zgi sO 13)) X 0 0 13 13 ziX12 rfl (by decide) zw1349 rfl dX12_type_32 rfl rfl rfl ?_
  refine z_bipush (v := (30 : Int32)) X dX12_type_35 rfl ?_
  refine z_icmp_ne (tgt := 44) X dX12_type_37 (by decide) (fun c37 => ?_) (fun c37 => ?_)
  · replace h := zif_f h c37
    refine z_iconst (v := (0 : Int32)) X dX12_type_44 rfl ?_
    exact z_at (pc2 := 45) (lv2 := [(0, .ref (aO 0)), (1, .int x1)]) (st2 := [.int (0 : Int32), .ref (aO 0)]) (ws2 := [wX12 (zcT C) aO sO]) rfl rfl rfl [0, 1] rfl (bX12_type_45 X hQ  h)
  · replace h := zif_t h c37
    refine z_iconst (v := (2 : Int32)) X dX12_type_40 rfl ?_
    refine z_goto (tgt := 45) X dX12_type_41 (by decide) ?_
    exact z_at (pc2 := 45) (lv2 := [(0, .ref (aO 0)), (1, .int x1)]) (st2 := [.int (2 : Int32), .ref (aO 0)]) (ws2 := [wX12 (zcT C) aO sO]) rfl rfl rfl [0, 1] rfl (bX12_type_45 X hQ  h)
theorem bX12_type_13 {C : zCtx} (X : zFx C cX12_type 2 RX12 rmX12_type (some .int)) {aO : Nat → Nat} {sO : zSt} {x1 : Int32} {out : Int32 × zSt} (hQ : zHi C out.1 [wX12 (zcT C) aO out.2] 0 0) (h : fX12_type_13 sO x1 = some out) : zG C 2 [0] 0 0 [wX12 (zcT C) aO sO] 13 [(0, .ref (aO 0)), (1, .int x1)] [.ref (aO 0)] := by
  unfold fX12_type_13 at h
  refine z_iload_n X dX12_type_13 1 rfl ?_
  obtain ⟨o14, ho14, h⟩ := zbind_of h
  refine z_callSi (st := [.ref (aO 0)]) (ws2 := [wX12 (zcT C) aO sO]) X (metX12_isDigit (zcl C) (zcD C) (zcT C)  ho14) zmX12_isDigit zw1484 dX12_type_14 [] rfl rfl [] rfl (by decide) trivial rfl rfl rfl (Nat.le_of_ble_eq_true rfl) rfl rfl ⟨Nat.le_of_ble_eq_true rfl, Nat.le_of_ble_eq_true rfl⟩ ⟨Nat.le_of_ble_eq_true rfl, Nat.le_of_ble_eq_true rfl⟩ ?_
  refine z_if_ne (tgt := 31) X dX12_type_17 (by decide) (fun c17 => ?_) (fun c17 => ?_)
  · replace h := zif_f h c17
    exact z_at (pc2 := 31) (lv2 := [(0, .ref (aO 0)), (1, .int x1)]) (st2 := [.ref (aO 0)]) (ws2 := [wX12 (zcT C) aO sO]) rfl rfl rfl [0, 1] rfl (bX12_type_31 X hQ  h)
  · replace h := zif_t h c17
    refine z_iload_n X dX12_type_20 1 rfl ?_
    obtain ⟨o21, ho21, h⟩ := zbind_of h
    refine z_callSi (st := [.ref (aO 0)]) (ws2 := [wX12 (zcT C) aO sO]) X (metX12_isSign (zcl C) (zcD C) (zcT C)  ho21) zmX12_isSign zw1487 dX12_type_21 [] rfl rfl [] rfl (by decide) trivial rfl rfl rfl (Nat.le_of_ble_eq_true rfl) rfl rfl ⟨Nat.le_of_ble_eq_true rfl, Nat.le_of_ble_eq_true rfl⟩ ⟨Nat.le_of_ble_eq_true rfl, Nat.le_of_ble_eq_true rfl⟩ ?_
    refine z_if_ne (tgt := 31) X dX12_type_24 (by decide) (fun c24 => ?_) (fun c24 => ?_)
    · replace h := zif_f h c24
      exact z_at (pc2 := 31) (lv2 := [(0, .ref (aO 0)), (1, .int x1)]) (st2 := [.ref (aO 0)]) (ws2 := [wX12 (zcT C) aO sO]) rfl rfl rfl [0, 1] rfl (bX12_type_31 X hQ  h)
    · replace h := zif_t h c24
      refine z_iconst (v := (1 : Int32)) X dX12_type_27 rfl ?_
      refine z_goto (tgt := 45) X dX12_type_28 (by decide) ?_
      exact z_at (pc2 := 45) (lv2 := [(0, .ref (aO 0)), (1, .int x1)]) (st2 := [.int (1 : Int32), .ref (aO 0)]) (ws2 := [wX12 (zcT C) aO sO]) rfl rfl rfl [0, 1] rfl (bX12_type_45 X hQ  h)
theorem bX12_type_0 {C : zCtx} (X : zFx C cX12_type 2 RX12 rmX12_type (some .int)) {aO : Nat → Nat} {sO : zSt} {x1 : Int32} {out : Int32 × zSt} (hQ : zHi C out.1 [wX12 (zcT C) aO out.2] 0 0) (h : fX12_type sO x1 = some out) : zG C 2 [0] 0 0 [wX12 (zcT C) aO sO] 0 [(0, .ref (aO 0)), (1, .int x1)] [] := by
  unfold fX12_type at h
  refine z_aload_n X dX12_type_0 0 rfl ?_
  refine z_iload_n X dX12_type_1 1 rfl ?_
  refine z_bipush (v := (97 : Int32)) X dX12_type_2 rfl ?_
  refine z_icmp_lt (tgt := 13) X dX12_type_4 (by decide) (fun c4 => ?_) (fun c4 => ?_)
  · replace h := zif_t h c4
    exact z_at (pc2 := 13) (lv2 := [(0, .ref (aO 0)), (1, .int x1)]) (st2 := [.ref (aO 0)]) (ws2 := [wX12 (zcT C) aO sO]) rfl rfl rfl [0, 1] rfl (bX12_type_13 X hQ  h)
  · replace h := zif_f h c4
    refine z_iload_n X dX12_type_7 1 rfl ?_
    refine z_bipush (v := (122 : Int32)) X dX12_type_8 rfl ?_
    refine z_icmp_le (tgt := 31) X dX12_type_10 (by decide) (fun c10 => ?_) (fun c10 => ?_)
    · replace h := zif_t h c10
      exact z_at (pc2 := 31) (lv2 := [(0, .ref (aO 0)), (1, .int x1)]) (st2 := [.ref (aO 0)]) (ws2 := [wX12 (zcT C) aO sO]) rfl rfl rfl [0, 1] rfl (bX12_type_31 X hQ  h)
    · replace h := zif_f h c10
      exact z_at (pc2 := 13) (lv2 := [(0, .ref (aO 0)), (1, .int x1)]) (st2 := [.ref (aO 0)]) (ws2 := [wX12 (zcT C) aO sO]) rfl rfl rfl [0, 1] rfl (bX12_type_13 X hQ  h)
theorem metX12_type (l : Launch) (D : va_G) (T : Nat → ClassId) (aO : Nat → Nat) {sO : zSt} {x1 : Int32} {out : Int32 × zSt} (hf : fX12_type sO x1 = some out) (sz : Nat) : Met l yX12_type (zws yX12_type cX12_type 2 (some .int)) rmX12_type (zPc D T [.ref (aO 0), .int x1] [wX12 T aO sO] sz) (zQi D out.1 [wX12 T aO out.2] (zA [wX12 T aO sO] sz)) 0 0 (zA [wX12 T aO sO] sz) :=
  zMet (D := D) (T := T) (av := [.ref (aO 0), .int x1]) (ws := fun T => [wX12 T aO sO]) (wm := fun T => [wX12 T aO sO]) (lv0 := [(0, .ref (aO 0)), (1, .int x1)]) [0] (Qc := fun D T A => zQi D out.1 [wX12 T aO out.2] A) (by decide +kernel) rfl (Nat.le_of_ble_eq_true rfl) rfl (fun C X hQ => bX12_type_0 X hQ hf) sz
/-- public int erase(); of TableaufloorModel -/
abbrev rmX12_erase : Room := { frames := 0, cells := 0, slots := 0, locals := 0 }
def fX12_erase (sO : zSt) : Option (Int32 × zSt) :=
  (zlet (zsi sO 9 (0 : Int32)) (fun sO2 =>
    (zlet (zgi sO2 13) (fun v9 =>
    (zlet (zsi sO2 13 (0 : Int32)) (fun sO12 =>
    some (v9, sO12)))))))
theorem bX12_erase_0 {C : zCtx} (X : zFx C cX12_erase 2 RX12 rmX12_erase (some .int)) {aO : Nat → Nat} {sO : zSt} {out : Int32 × zSt} (hQ : zHi C out.1 [wX12 (zcT C) aO out.2] 0 0) (h : fX12_erase sO = some out) : zG C 2 [0] 0 0 [wX12 (zcT C) aO sO] 0 [(0, .ref (aO 0))] [] := by
  unfold fX12_erase at h
  refine z_aload_n X dX12_erase_0 0 rfl ?_
  refine z_iconst (v := (0 : Int32)) X dX12_erase_1 rfl ?_
  obtain ⟨sO2, esO2, h⟩ := zlet_of h
  refine z_put (ws2 := [wX12 (zcT C) aO sO2]) X 0 0 13 9 ziX12 rfl tyX12 tyX12_ok nmX12 (by decide) zw1345 rfl rfl (ty := .int) (by decide +kernel) rfl rfl (by show 9 < 40; decide) dX12_erase_2 rfl rfl (by decide) (w2 := wX12 (zcT C) aO sO2) (by rw [esO2]; rfl) rfl ?_
  refine z_aload_n X dX12_erase_5 0 rfl ?_
  refine z_get (v := .int (zgi sO2 13)) X 0 0 13 13 ziX12 rfl (by decide) zw1349 rfl dX12_erase_6 rfl rfl rfl ?_
  obtain ⟨v9, ev9, h⟩ := zlet_of h
  refine z_topi ev9 ?_
  refine z_istore_n (lv2 := [(1, .int v9), (0, .ref (aO 0))]) X dX12_erase_9 rfl (by decide) rfl ?_
  refine z_aload_n X dX12_erase_10 1 rfl ?_
  refine z_iconst (v := (0 : Int32)) X dX12_erase_11 rfl ?_
  obtain ⟨sO12, esO12, h⟩ := zlet_of h
  refine z_put (ws2 := [wX12 (zcT C) aO sO12]) X 0 0 13 13 ziX12 rfl tyX12 tyX12_ok nmX12 (by decide) zw1349 rfl rfl (ty := .int) (by decide +kernel) rfl rfl (by show 13 < 40; decide) dX12_erase_12 rfl rfl (by decide) (w2 := wX12 (zcT C) aO sO12) (by rw [esO12]; rfl) rfl ?_
  refine z_iload_n X dX12_erase_15 0 rfl ?_
  cases h
  exact z_iret X hQ dX12_erase_16 rfl [0] rfl (by decide) (by decide)
theorem metX12_erase (l : Launch) (D : va_G) (T : Nat → ClassId) (aO : Nat → Nat) {sO : zSt} {out : Int32 × zSt} (hf : fX12_erase sO = some out) (sz : Nat) : Met l yX12_erase (zws yX12_erase cX12_erase 2 (some .int)) rmX12_erase (zPc D T [.ref (aO 0)] [wX12 T aO sO] sz) (zQi D out.1 [wX12 T aO out.2] (zA [wX12 T aO sO] sz)) 0 0 (zA [wX12 T aO sO] sz) :=
  zMet (D := D) (T := T) (av := [.ref (aO 0)]) (ws := fun T => [wX12 T aO sO]) (wm := fun T => [wX12 T aO sO]) (lv0 := [(0, .ref (aO 0))]) [0] (Qc := fun D T A => zQi D out.1 [wX12 T aO out.2] A) (by decide +kernel) rfl (Nat.le_of_ble_eq_true rfl) rfl (fun C X hQ => bX12_erase_0 X hQ hf) sz
/-- private char next(); of TableaufloorModel -/
abbrev rmX12_next : Room := { frames := 0, cells := 0, slots := 0, locals := 0 }
def fX12_next_25 (sO : zSt) (y0 : Int32) : Option (Int32) :=
  (if znar .char y0 = true then
    some (y0) else none)
def fX12_next (sO : zSt) : Option (Int32) :=
  (if (zgi sO 13) ≤ (zgi sO 15) then
    (fX12_next_25 sO (32 : Int32))
  else
    (if zin (zgi sO 15) 30 = true then
      (fX12_next_25 sO (zga sO 8 ((zgi sO 15)).toNatClampNeg)) else none))
theorem bX12_next_25 {C : zCtx} (X : zFx C cX12_next 1 RX12 rmX12_next (some .char)) {aO : Nat → Nat} {sO : zSt} {y0 : Int32} {out : Int32} (hQ : zHi C out [] 0 0) (h : fX12_next_25 sO y0 = some out) : zG C 1 [] 0 0 [wX12 (zcT C) aO sO] 25 [] [.int y0] := by
  unfold fX12_next_25 at h
  obtain ⟨g25, h⟩ := zgd_of h
  cases h
  exact z_nret X hQ g25 dX12_next_25 rfl [] rfl (by decide) (by decide)
theorem bX12_next_0 {C : zCtx} (X : zFx C cX12_next 1 RX12 rmX12_next (some .char)) {aO : Nat → Nat} {sO : zSt} {out : Int32} (hQ : zHi C out [] 0 0) (h : fX12_next sO = some out) : zG C 1 [] 0 0 [wX12 (zcT C) aO sO] 0 [(0, .ref (aO 0))] [] := by
  unfold fX12_next at h
  refine z_aload_n X dX12_next_0 0 rfl ?_
  refine z_get (v := .int (zgi sO 15)) X 0 0 13 15 ziX12 rfl (by decide) zw1351 rfl dX12_next_1 rfl rfl rfl ?_
  refine z_aload_n X dX12_next_4 0 rfl ?_
  refine z_get (v := .int (zgi sO 13)) X 0 0 13 13 ziX12 rfl (by decide) zw1349 rfl dX12_next_5 rfl rfl rfl ?_
  refine z_icmp_ge (tgt := 23) X dX12_next_8 (by decide) (fun c8 => ?_) (fun c8 => ?_)
  · replace h := zif_t h c8
    refine z_bipush (v := (32 : Int32)) X dX12_next_23 rfl ?_
    exact z_at (pc2 := 25) (lv2 := []) (st2 := [.int (32 : Int32)]) (ws2 := [wX12 (zcT C) aO sO]) rfl rfl rfl [] rfl (bX12_next_25 X hQ  h)
  · replace h := zif_f h c8
    refine z_aload_n X dX12_next_11 0 rfl ?_
    refine z_get (v := .ref (aO 9)) X 0 0 13 8 ziX12 rfl (by decide) zw1344 rfl dX12_next_12 rfl rfl rfl ?_
    refine z_aload_n X dX12_next_15 0 rfl ?_
    refine z_get (v := .int (zgi sO 15)) X 0 0 13 15 ziX12 rfl (by decide) zw1351 rfl dX12_next_16 rfl rfl rfl ?_
    obtain ⟨g19, h⟩ := zgd_of h
    refine z_cald X 0 9 g19 dX12_next_19 rfl rfl ?_
    refine z_goto (tgt := 25) X dX12_next_20 (by decide) ?_
    exact z_at (pc2 := 25) (lv2 := []) (st2 := [.int (zga sO 8 ((zgi sO 15)).toNatClampNeg)]) (ws2 := [wX12 (zcT C) aO sO]) rfl rfl rfl [] rfl (bX12_next_25 X hQ  h)
theorem metX12_next (l : Launch) (D : va_G) (T : Nat → ClassId) (aO : Nat → Nat) {sO : zSt} {out : Int32} (hf : fX12_next sO = some out) (sz : Nat) : Met l yX12_next (zws yX12_next cX12_next 1 (some .char)) rmX12_next (zPc D T [.ref (aO 0)] [wX12 T aO sO] sz) (zQi D out [] (zA [] sz)) 0 0 (zA [] sz) :=
  zMet (D := D) (T := T) (av := [.ref (aO 0)]) (ws := fun T => [wX12 T aO sO]) (wm := fun T => []) (lv0 := [(0, .ref (aO 0))]) [] (Qc := fun D T A => zQi D out [] A) (by decide +kernel) rfl (Nat.le_of_ble_eq_true rfl) rfl (fun C X hQ => bX12_next_0 X hQ hf) sz
/-- private boolean fails(char); of TableaufloorModel -/
abbrev rmX12_fails : Room := { frames := 0, cells := 0, slots := 0, locals := 0 }
def fX12_fails (sO : zSt) (x1 : Int32) : Option (Int32 × zSt) :=
  (if znar .char x1 = true then
    (zlet (zsi sO 18 x1) (fun sO2 =>
    some ((0 : Int32), sO2))) else none)
theorem bX12_fails_0 {C : zCtx} (X : zFx C cX12_fails 2 RX12 rmX12_fails (some .boolean)) {aO : Nat → Nat} {sO : zSt} {x1 : Int32} {out : Int32 × zSt} (hQ : zHi C out.1 [wX12 (zcT C) aO out.2] 0 0) (h : fX12_fails sO x1 = some out) : zG C 2 [0] 0 0 [wX12 (zcT C) aO sO] 0 [(0, .ref (aO 0)), (1, .int x1)] [] := by
  unfold fX12_fails at h
  refine z_aload_n X dX12_fails_0 0 rfl ?_
  refine z_iload_n X dX12_fails_1 1 rfl ?_
  obtain ⟨g2, h⟩ := zgd_of h
  obtain ⟨sO2, esO2, h⟩ := zlet_of h
  refine z_put (ws2 := [wX12 (zcT C) aO sO2]) X 0 0 13 18 ziX12 rfl tyX12 tyX12_ok nmX12 (by decide) zw1354 rfl rfl (ty := .char) (by decide +kernel) (znar_of g2).1 (znar_of g2).2 (by show 18 < 40; decide) dX12_fails_2 rfl rfl (by decide) (w2 := wX12 (zcT C) aO sO2) (by rw [esO2]; rfl) rfl ?_
  refine z_iconst (v := (0 : Int32)) X dX12_fails_5 rfl ?_
  cases h
  exact z_nret X hQ rfl dX12_fails_6 rfl [0] rfl (by decide) (by decide)
theorem metX12_fails (l : Launch) (D : va_G) (T : Nat → ClassId) (aO : Nat → Nat) {sO : zSt} {x1 : Int32} {out : Int32 × zSt} (hf : fX12_fails sO x1 = some out) (sz : Nat) : Met l yX12_fails (zws yX12_fails cX12_fails 2 (some .boolean)) rmX12_fails (zPc D T [.ref (aO 0), .int x1] [wX12 T aO sO] sz) (zQi D out.1 [wX12 T aO out.2] (zA [wX12 T aO sO] sz)) 0 0 (zA [wX12 T aO sO] sz) :=
  zMet (D := D) (T := T) (av := [.ref (aO 0), .int x1]) (ws := fun T => [wX12 T aO sO]) (wm := fun T => [wX12 T aO sO]) (lv0 := [(0, .ref (aO 0)), (1, .int x1)]) [0] (Qc := fun D T A => zQi D out.1 [wX12 T aO out.2] A) (by decide +kernel) rfl (Nat.le_of_ble_eq_true rfl) rfl (fun C X hQ => bX12_fails_0 X hQ hf) sz
/-- private boolean goes(char); of TableaufloorModel -/
abbrev rmX12_goes : Room := { frames := 1, cells := 0, slots := 0, locals := 21 }
def fX12_goes (sO : zSt) (x1 : Int32) : Option (Int32 × zSt) :=
  ((fX12_next sO).bind (fun o1 =>
    (if o1 = x1 then
    (zlet (zsi sO 15 ((zgi sO 15) + (1 : Int32))) (fun sO22 =>
      some ((1 : Int32), sO22)))
  else
    ((fX12_fails sO (115 : Int32)).bind (fun o11 =>
      (if znar .boolean o11.1 = true then
      some (o11.1, o11.2) else none))))))
theorem bX12_goes_0 {C : zCtx} (X : zFx C cX12_goes 2 RX12 rmX12_goes (some .boolean)) {aO : Nat → Nat} {sO : zSt} {x1 : Int32} {out : Int32 × zSt} (hQ : zHi C out.1 [wX12 (zcT C) aO out.2] 0 0) (h : fX12_goes sO x1 = some out) : zG C 2 [0] 0 0 [wX12 (zcT C) aO sO] 0 [(0, .ref (aO 0)), (1, .int x1)] [] := by
  unfold fX12_goes at h
  refine z_aload_n X dX12_goes_0 0 rfl ?_
  obtain ⟨o1, ho1, h⟩ := zbind_of h
  refine z_callVi (st := []) (ws2 := [wX12 (zcT C) aO sO]) X (metX12_next (zcl C) (zcD C) (zcT C) aO ho1) zmX12_next zw1510 dX12_goes_1 0 0 13 rfl rfl rfl rfl [0] rfl rfl [] rfl (by decide) trivial rfl rfl rfl (Nat.le_of_ble_eq_true rfl) rfl rfl ⟨Nat.le_of_ble_eq_true rfl, Nat.le_of_ble_eq_true rfl⟩ ⟨Nat.le_of_ble_eq_true rfl, Nat.le_of_ble_eq_true rfl⟩ ?_
  refine z_iload_n X dX12_goes_4 1 rfl ?_
  refine z_icmp_eq (tgt := 15) X dX12_goes_5 (by decide) (fun c5 => ?_) (fun c5 => ?_)
  · replace h := zif_t h c5
    refine z_aload_n X dX12_goes_15 0 rfl ?_
    refine z_dup X dX12_goes_16 rfl ?_
    refine z_get (v := .int (zgi sO 15)) X 0 0 13 15 ziX12 rfl (by decide) zw1351 rfl dX12_goes_17 rfl rfl rfl ?_
    refine z_iconst (v := (1 : Int32)) X dX12_goes_20 rfl ?_
    refine z_iadd X dX12_goes_21 ?_
    obtain ⟨sO22, esO22, h⟩ := zlet_of h
    refine z_put (ws2 := [wX12 (zcT C) aO sO22]) X 0 0 13 15 ziX12 rfl tyX12 tyX12_ok nmX12 (by decide) zw1351 rfl rfl (ty := .int) (by decide +kernel) rfl rfl (by show 15 < 40; decide) dX12_goes_22 rfl rfl (by decide) (w2 := wX12 (zcT C) aO sO22) (by rw [esO22]; rfl) rfl ?_
    refine z_iconst (v := (1 : Int32)) X dX12_goes_25 rfl ?_
    cases h
    exact z_nret X hQ rfl dX12_goes_26 rfl [0] rfl (by decide) (by decide)
  · replace h := zif_f h c5
    refine z_aload_n X dX12_goes_8 0 rfl ?_
    refine z_bipush (v := (115 : Int32)) X dX12_goes_9 rfl ?_
    obtain ⟨o11, ho11, h⟩ := zbind_of h
    refine z_callVi (st := []) (ws2 := [wX12 (zcT C) aO o11.2]) X (metX12_fails (zcl C) (zcD C) (zcT C) aO ho11) zmX12_fails zw1514 dX12_goes_11 0 0 13 rfl rfl rfl rfl [0] rfl rfl [0] rfl (by decide) ⟨zsX12 , trivial⟩ rfl rfl rfl (Nat.le_of_ble_eq_true rfl) rfl rfl ⟨Nat.le_of_ble_eq_true rfl, Nat.le_of_ble_eq_true rfl⟩ ⟨Nat.le_of_ble_eq_true rfl, Nat.le_of_ble_eq_true rfl⟩ ?_
    obtain ⟨g14, h⟩ := zgd_of h
    cases h
    exact z_nret X hQ g14 dX12_goes_14 rfl [0] rfl (by decide) (by decide)
theorem metX12_goes (l : Launch) (D : va_G) (T : Nat → ClassId) (aO : Nat → Nat) {sO : zSt} {x1 : Int32} {out : Int32 × zSt} (hf : fX12_goes sO x1 = some out) (sz : Nat) : Met l yX12_goes (zws yX12_goes cX12_goes 2 (some .boolean)) rmX12_goes (zPc D T [.ref (aO 0), .int x1] [wX12 T aO sO] sz) (zQi D out.1 [wX12 T aO out.2] (zA [wX12 T aO sO] sz)) 0 0 (zA [wX12 T aO sO] sz) :=
  zMet (D := D) (T := T) (av := [.ref (aO 0), .int x1]) (ws := fun T => [wX12 T aO sO]) (wm := fun T => [wX12 T aO sO]) (lv0 := [(0, .ref (aO 0)), (1, .int x1)]) [0] (Qc := fun D T A => zQi D out.1 [wX12 T aO out.2] A) (by decide +kernel) rfl (Nat.le_of_ble_eq_true rfl) rfl (fun C X hQ => bX12_goes_0 X hQ hf) sz
