/-- long topOf(int); of Tableaufloor$Point -/
abbrev rmX4_topOf : Room := { frames := 0, cells := 0, slots := 0, locals := 0 }
def fX4_topOf_23 (sO : zSt) (y0 : Int64) : Option (Int64) :=
  some (y0)
def fX4_topOf_22 (sO : zSt) : Option (Int64) :=
  (fX4_topOf_23 sO (0 : Int64))
def fX4_topOf (sO : zSt) (x1 : Int32) : Option (Int64) :=
  (if x1 < 0 then
    (fX4_topOf_22 sO)
  else
    (if (3 : Int32) ≤ x1 then
      (fX4_topOf_22 sO)
    else
      (if zin x1 3 = true then
        (fX4_topOf_23 sO (zgb sO 0 (x1).toNatClampNeg)) else none)))
theorem bX4_topOf_23 {C : zCtx} (X : zFx C cX4_topOf 2 RX4 rmX4_topOf (some .long)) {aO : Nat → Nat} {sO : zSt} {y0 : Int64} {out : Int64} (hQ : zHl C out [] 0 0) (h : fX4_topOf_23 sO y0 = some out) : zG C 2 [] 0 0 [wX4 (zcT C) aO sO] 23 [] [.long y0] := by
  unfold fX4_topOf_23 at h
  cases h
  exact z_lret X hQ dX4_topOf_23 rfl [] rfl (by decide) (by decide)
theorem bX4_topOf_22 {C : zCtx} (X : zFx C cX4_topOf 2 RX4 rmX4_topOf (some .long)) {aO : Nat → Nat} {sO : zSt} {out : Int64} (hQ : zHl C out [] 0 0) (h : fX4_topOf_22 sO = some out) : zG C 2 [] 0 0 [wX4 (zcT C) aO sO] 22 [] [] := by
  unfold fX4_topOf_22 at h
  refine z_lconst (v := (0 : Int64)) X dX4_topOf_22 rfl ?_
  exact z_at (pc2 := 23) (lv2 := []) (st2 := [.long (0 : Int64)]) (ws2 := [wX4 (zcT C) aO sO]) rfl rfl rfl [] rfl (bX4_topOf_23 X hQ  h)
theorem bX4_topOf_0 {C : zCtx} (X : zFx C cX4_topOf 2 RX4 rmX4_topOf (some .long)) {aO : Nat → Nat} {sO : zSt} {x1 : Int32} {out : Int64} (hQ : zHl C out [] 0 0) (h : fX4_topOf sO x1 = some out) : zG C 2 [] 0 0 [wX4 (zcT C) aO sO] 0 [(0, .ref (aO 0)), (1, .int x1)] [] := by
  unfold fX4_topOf at h
  refine z_iload_n X dX4_topOf_0 1 rfl ?_
  refine z_if_lt (tgt := 22) X dX4_topOf_1 (by decide) (fun c1 => ?_) (fun c1 => ?_)
  · replace h := zif_t h c1
    exact z_at (pc2 := 22) (lv2 := []) (st2 := []) (ws2 := [wX4 (zcT C) aO sO]) rfl rfl rfl [] rfl (bX4_topOf_22 X hQ  h)
  · replace h := zif_f h c1
    refine z_iload_n X dX4_topOf_4 1 rfl ?_
    refine z_aload_n X dX4_topOf_5 0 rfl ?_
    refine z_get (v := .ref (aO 1)) X 0 0 5 0 ziX4 rfl (by decide) zw218 rfl dX4_topOf_6 rfl rfl rfl ?_
    refine z_alen (v := (3 : Int32)) X 0 1 2 rfl rfl dX4_topOf_9 rfl rfl ?_
    refine z_icmp_ge (tgt := 22) X dX4_topOf_10 (by decide) (fun c10 => ?_) (fun c10 => ?_)
    · replace h := zif_t h c10
      exact z_at (pc2 := 22) (lv2 := []) (st2 := []) (ws2 := [wX4 (zcT C) aO sO]) rfl rfl rfl [] rfl (bX4_topOf_22 X hQ  h)
    · replace h := zif_f h c10
      refine z_aload_n X dX4_topOf_13 0 rfl ?_
      refine z_get (v := .ref (aO 1)) X 0 0 5 0 ziX4 rfl (by decide) zw218 rfl dX4_topOf_14 rfl rfl rfl ?_
      refine z_iload_n X dX4_topOf_17 1 rfl ?_
      obtain ⟨g18, h⟩ := zgd_of h
      refine z_lald X 0 1 g18 dX4_topOf_18 rfl rfl ?_
      refine z_goto (tgt := 23) X dX4_topOf_19 (by decide) ?_
      exact z_at (pc2 := 23) (lv2 := []) (st2 := [.long (zgb sO 0 (x1).toNatClampNeg)]) (ws2 := [wX4 (zcT C) aO sO]) rfl rfl rfl [] rfl (bX4_topOf_23 X hQ  h)
theorem metX4_topOf (l : Launch) (D : va_G) (T : Nat → ClassId) (aO : Nat → Nat) {sO : zSt} {x1 : Int32} {out : Int64} (hf : fX4_topOf sO x1 = some out) (sz : Nat) : Met l yX4_topOf (zws yX4_topOf cX4_topOf 2 (some .long)) rmX4_topOf (zPc D T [.ref (aO 0), .int x1] [wX4 T aO sO] sz) (zQl D out [] (zA [] sz)) 0 0 (zA [] sz) :=
  zMet (D := D) (T := T) (av := [.ref (aO 0), .int x1]) (ws := fun T => [wX4 T aO sO]) (wm := fun T => []) (lv0 := [(0, .ref (aO 0)), (1, .int x1)]) [] (Qc := fun D T A => zQl D out [] A) (by decide +kernel) rfl (Nat.le_of_ble_eq_true rfl) rfl (fun C X hQ => bX4_topOf_0 X hQ hf) sz
/-- void putTop(int, long); of Tableaufloor$Point -/
abbrev rmX4_putTop : Room := { frames := 0, cells := 0, slots := 0, locals := 0 }
def fX4_putTop_20 (sO : zSt) : Option (zSt) :=
  some (sO)
def fX4_putTop (sO : zSt) (x1 : Int32) (x2 : Int64) : Option (zSt) :=
  (if x1 < 0 then
    (fX4_putTop_20 sO)
  else
    (if (3 : Int32) ≤ x1 then
      (fX4_putTop_20 sO)
    else
      (if zin x1 3 = true then
        (zlet (zsb sO 0 (vp_updL (zgb sO 0) (x1).toNatClampNeg x2)) (fun sO19 =>
        (fX4_putTop_20 sO19))) else none)))
theorem bX4_putTop_20 {C : zCtx} (X : zFx C cX4_putTop 4 RX4 rmX4_putTop none) {aO : Nat → Nat} {sO : zSt} {out : zSt} (hQ : zHv C [wX4 (zcT C) aO out] 0 0) (h : fX4_putTop_20 sO = some out) : zG C 4 [0] 0 0 [wX4 (zcT C) aO sO] 20 [] [] := by
  unfold fX4_putTop_20 at h
  cases h
  exact z_vret X hQ dX4_putTop_20 [0] rfl (by decide) (by decide)
theorem bX4_putTop_0 {C : zCtx} (X : zFx C cX4_putTop 4 RX4 rmX4_putTop none) {aO : Nat → Nat} {sO : zSt} {x1 : Int32} {x2 : Int64} {out : zSt} (hQ : zHv C [wX4 (zcT C) aO out] 0 0) (h : fX4_putTop sO x1 x2 = some out) : zG C 4 [0] 0 0 [wX4 (zcT C) aO sO] 0 [(0, .ref (aO 0)), (1, .int x1), (2, .long x2)] [] := by
  unfold fX4_putTop at h
  refine z_iload_n X dX4_putTop_0 1 rfl ?_
  refine z_if_lt (tgt := 20) X dX4_putTop_1 (by decide) (fun c1 => ?_) (fun c1 => ?_)
  · replace h := zif_t h c1
    exact z_at (pc2 := 20) (lv2 := []) (st2 := []) (ws2 := [wX4 (zcT C) aO sO]) rfl rfl rfl [] rfl (bX4_putTop_20 X hQ  h)
  · replace h := zif_f h c1
    refine z_iload_n X dX4_putTop_4 1 rfl ?_
    refine z_aload_n X dX4_putTop_5 0 rfl ?_
    refine z_get (v := .ref (aO 1)) X 0 0 5 0 ziX4 rfl (by decide) zw218 rfl dX4_putTop_6 rfl rfl rfl ?_
    refine z_alen (v := (3 : Int32)) X 0 1 2 rfl rfl dX4_putTop_9 rfl rfl ?_
    refine z_icmp_ge (tgt := 20) X dX4_putTop_10 (by decide) (fun c10 => ?_) (fun c10 => ?_)
    · replace h := zif_t h c10
      exact z_at (pc2 := 20) (lv2 := []) (st2 := []) (ws2 := [wX4 (zcT C) aO sO]) rfl rfl rfl [] rfl (bX4_putTop_20 X hQ  h)
    · replace h := zif_f h c10
      refine z_aload_n X dX4_putTop_13 0 rfl ?_
      refine z_get (v := .ref (aO 1)) X 0 0 5 0 ziX4 rfl (by decide) zw218 rfl dX4_putTop_14 rfl rfl rfl ?_
      refine z_iload_n X dX4_putTop_17 1 rfl ?_
      refine z_lload_n X dX4_putTop_18 2 rfl ?_
      obtain ⟨g19, h⟩ := zgd_of h
      obtain ⟨sO19, esO19, h⟩ := zlet_of h
      refine z_last (ws2 := [wX4 (zcT C) aO sO19]) X 0 1 g19 dX4_putTop_19 rfl rfl (by decide) (w2 := wX4 (zcT C) aO sO19) (by rw [esO19]; rfl) rfl ?_
      exact z_at (pc2 := 20) (lv2 := []) (st2 := []) (ws2 := [wX4 (zcT C) aO sO19]) rfl rfl rfl [] rfl (bX4_putTop_20 X hQ  h)
theorem metX4_putTop (l : Launch) (D : va_G) (T : Nat → ClassId) (aO : Nat → Nat) {sO : zSt} {x1 : Int32} {x2 : Int64} {out : zSt} (hf : fX4_putTop sO x1 x2 = some out) (sz : Nat) : Met l yX4_putTop (zws yX4_putTop cX4_putTop 4 none) rmX4_putTop (zPc D T [.ref (aO 0), .int x1, .long x2] [wX4 T aO sO] sz) (zQv D [wX4 T aO out] (zA [wX4 T aO sO] sz)) 0 0 (zA [wX4 T aO sO] sz) :=
  zMet (D := D) (T := T) (av := [.ref (aO 0), .int x1, .long x2]) (ws := fun T => [wX4 T aO sO]) (wm := fun T => [wX4 T aO sO]) (lv0 := [(0, .ref (aO 0)), (1, .int x1), (2, .long x2)]) [0] (Qc := fun D T A => zQv D [wX4 T aO out] A) (by decide +kernel) rfl (Nat.le_of_ble_eq_true rfl) rfl (fun C X hQ => bX4_putTop_0 X hQ hf) sz
/-- void copy(Tableaufloor$Point); of Tableaufloor$Point -/
abbrev rmX4_copy : Room := { frames := 1, cells := 0, slots := 0, locals := 21 }
def fX4_copy_2 (sq1 : zSt) : Nat → zSt → Int32 → Option (zSt)
  | 0, _, _ => none
  | n + 1, sO, x2 =>
    (if (3 : Int32) ≤ x2 then
      (zlet (zsl sO 1 (zgl sq1 1)) (fun sO33 =>
        (zlet (zsi sO33 2 (zgi sq1 2)) (fun sO41 =>
        some (sO41)))))
    else
      ((fX4_topOf sq1 x2).bind (fun o18 =>
        (if zin x2 3 = true then
        (zlet (zsb sO 0 (vp_updL (zgb sO 0) (x2).toNatClampNeg o18)) (fun sO21 =>
        (zlet (x2 + 1) (fun v22 =>
        (fX4_copy_2 sq1 n sO21 v22))))) else none))))
def fX4_copy (sO : zSt) (sq1 : zSt) : Option (zSt) :=
  (fX4_copy_2 sq1 6000 sO (0 : Int32))
theorem bX4_copy_2 {C : zCtx} (X : zFx C cX4_copy 3 RX4 rmX4_copy none) {aO : Nat → Nat} {aq1 : Nat → Nat} {sq1 : zSt} {out : zSt} (hQ : zHv C [wX4 (zcT C) aO out] 0 0) : ∀ (n : Nat) (sO : zSt) (x2 : Int32), fX4_copy_2 sq1 n sO x2 = some out → zG C 3 [0] 0 0 [wX4 (zcT C) aO sO, wX4 (zcT C) aq1 sq1] 2 [(0, .ref (aO 0)), (1, .ref (aq1 0)), (2, .int x2)] [] := by
  intro n
  induction n with
  | zero =>
    intro sO x2 h
    rw [fX4_copy_2] at h
    exact zno h
  | succ n ih =>
    intro sO x2 h
    rw [fX4_copy_2] at h
    refine z_iload_n X dX4_copy_2 2 rfl ?_
    refine z_aload_n X dX4_copy_3 0 rfl ?_
    refine z_get (v := .ref (aO 1)) X 0 0 5 0 ziX4 rfl (by decide) zw218 rfl dX4_copy_4 rfl rfl rfl ?_
    refine z_alen (v := (3 : Int32)) X 0 1 2 rfl rfl dX4_copy_7 rfl rfl ?_
    refine z_icmp_ge (tgt := 28) X dX4_copy_8 (by decide) (fun c8 => ?_) (fun c8 => ?_)
    · replace h := zif_t h c8
      refine z_aload_n X dX4_copy_28 0 rfl ?_
      refine z_aload_n X dX4_copy_29 1 rfl ?_
      refine z_get (v := .long (zgl sq1 1)) X 1 0 5 1 ziX4 rfl (by decide) zw219 rfl dX4_copy_30 rfl rfl rfl ?_
      obtain ⟨sO33, esO33, h⟩ := zlet_of h
      refine z_put (ws2 := [wX4 (zcT C) aO sO33, wX4 (zcT C) aq1 sq1]) X 0 0 5 1 ziX4 rfl tyX4 tyX4_ok nmX4 (by decide) zw219 rfl rfl (ty := .long) (by decide +kernel) rfl rfl (by show 1 < 3; decide) dX4_copy_33 rfl rfl (by decide) (w2 := wX4 (zcT C) aO sO33) (by rw [esO33]; rfl) rfl ?_
      refine z_aload_n X dX4_copy_36 0 rfl ?_
      refine z_aload_n X dX4_copy_37 1 rfl ?_
      refine z_get (v := .int (zgi sq1 2)) X 1 0 5 2 ziX4 rfl (by decide) zw225 rfl dX4_copy_38 rfl rfl rfl ?_
      obtain ⟨sO41, esO41, h⟩ := zlet_of h
      refine z_put (ws2 := [wX4 (zcT C) aO sO41, wX4 (zcT C) aq1 sq1]) X 0 0 5 2 ziX4 rfl tyX4 tyX4_ok nmX4 (by decide) zw225 rfl rfl (ty := .int) (by decide +kernel) rfl rfl (by show 2 < 3; decide) dX4_copy_41 rfl rfl (by decide) (w2 := wX4 (zcT C) aO sO41) (by rw [esO41]; rfl) rfl ?_
      cases h
      exact z_vret X hQ dX4_copy_44 [0] rfl (by decide) (by decide)
    · replace h := zif_f h c8
      refine z_aload_n X dX4_copy_11 0 rfl ?_
      refine z_get (v := .ref (aO 1)) X 0 0 5 0 ziX4 rfl (by decide) zw218 rfl dX4_copy_12 rfl rfl rfl ?_
      refine z_iload_n X dX4_copy_15 2 rfl ?_
      refine z_aload_n X dX4_copy_16 1 rfl ?_
      refine z_iload_n X dX4_copy_17 2 rfl ?_
      obtain ⟨o18, ho18, h⟩ := zbind_of h
      refine z_callVl (st := [.int x2, .ref (aO 1)]) (ws2 := [wX4 (zcT C) aO sO, wX4 (zcT C) aq1 sq1]) X (metX4_topOf (zcl C) (zcD C) (zcT C) aq1 ho18) zmX4_topOf zw1163 dX4_copy_18 1 0 5 rfl rfl rfl rfl [1] rfl rfl [] rfl (by decide) trivial rfl rfl rfl (Nat.le_of_ble_eq_true rfl) rfl rfl ⟨Nat.le_of_ble_eq_true rfl, Nat.le_of_ble_eq_true rfl⟩ ⟨Nat.le_of_ble_eq_true rfl, Nat.le_of_ble_eq_true rfl⟩ ?_
      obtain ⟨g21, h⟩ := zgd_of h
      obtain ⟨sO21, esO21, h⟩ := zlet_of h
      refine z_last (ws2 := [wX4 (zcT C) aO sO21, wX4 (zcT C) aq1 sq1]) X 0 1 g21 dX4_copy_21 rfl rfl (by decide) (w2 := wX4 (zcT C) aO sO21) (by rw [esO21]; rfl) rfl ?_
      obtain ⟨v22, ev22, h⟩ := zlet_of h
      refine z_iinc (v := v22) (lv2 := [(2, .int v22), (0, .ref (aO 0)), (1, .ref (aq1 0))]) X dX4_copy_22 (k := 2) rfl (by rw [ev22]; rfl) (by decide) rfl ?_
      refine z_goto (tgt := 2) X dX4_copy_25 (by decide) ?_
      exact z_at (pc2 := 2) (lv2 := [(0, .ref (aO 0)), (1, .ref (aq1 0)), (2, .int v22)]) (st2 := []) (ws2 := [wX4 (zcT C) aO sO21, wX4 (zcT C) aq1 sq1]) rfl rfl rfl [1, 2, 0] rfl (ih sO21 v22 h)
theorem bX4_copy_0 {C : zCtx} (X : zFx C cX4_copy 3 RX4 rmX4_copy none) {aO : Nat → Nat} {aq1 : Nat → Nat} {sO : zSt} {sq1 : zSt} {out : zSt} (hQ : zHv C [wX4 (zcT C) aO out] 0 0) (h : fX4_copy sO sq1 = some out) : zG C 3 [0] 0 0 [wX4 (zcT C) aO sO, wX4 (zcT C) aq1 sq1] 0 [(0, .ref (aO 0)), (1, .ref (aq1 0))] [] := by
  unfold fX4_copy at h
  refine z_iconst (v := (0 : Int32)) X dX4_copy_0 rfl ?_
  refine z_istore_n (lv2 := [(2, .int (0 : Int32)), (0, .ref (aO 0)), (1, .ref (aq1 0))]) X dX4_copy_1 rfl (by decide) rfl ?_
  exact z_at (pc2 := 2) (lv2 := [(0, .ref (aO 0)), (1, .ref (aq1 0)), (2, .int (0 : Int32))]) (st2 := []) (ws2 := [wX4 (zcT C) aO sO, wX4 (zcT C) aq1 sq1]) rfl rfl rfl [1, 2, 0] rfl (bX4_copy_2 X hQ  6000 sO (0 : Int32) h)
theorem metX4_copy (l : Launch) (D : va_G) (T : Nat → ClassId) (aO : Nat → Nat) (aq1 : Nat → Nat) {sO : zSt} {sq1 : zSt} {out : zSt} (hf : fX4_copy sO sq1 = some out) (sz : Nat) : Met l yX4_copy (zws yX4_copy cX4_copy 3 none) rmX4_copy (zPc D T [.ref (aO 0), .ref (aq1 0)] [wX4 T aO sO, wX4 T aq1 sq1] sz) (zQv D [wX4 T aO out] (zA [wX4 T aO sO] sz)) 0 0 (zA [wX4 T aO sO] sz) :=
  zMet (D := D) (T := T) (av := [.ref (aO 0), .ref (aq1 0)]) (ws := fun T => [wX4 T aO sO, wX4 T aq1 sq1]) (wm := fun T => [wX4 T aO sO]) (lv0 := [(0, .ref (aO 0)), (1, .ref (aq1 0))]) [0] (Qc := fun D T A => zQv D [wX4 T aO out] A) (by decide +kernel) rfl (Nat.le_of_ble_eq_true rfl) rfl (fun C X hQ => bX4_copy_0 X hQ hf) sz
/-- boolean isSame(Tableaufloor$Point); of Tableaufloor$Point -/
abbrev rmX4_isSame : Room := { frames := 1, cells := 0, slots := 0, locals := 21 }
def fX4_isSame_60 (sO : zSt) (sq1 : zSt) (y0 : Int32) : Option (Int32) :=
  (if znar .boolean y0 = true then
    some (y0) else none)
def fX4_isSame_2 (sO : zSt) (sq1 : zSt) : Nat → Int32 → Option (Int32)
  | 0, _ => none
  | n + 1, x2 =>
    (if (3 : Int32) ≤ x2 then
      (if (zgi sO 2) = (zgi sq1 2) then
        (fX4_isSame_60 sO sq1 (1 : Int32))
      else
        (fX4_isSame_60 sO sq1 (0 : Int32)))
    else
      (if zin x2 3 = true then
        ((fX4_topOf sq1 x2).bind (fun o24 =>
        (if ((zgb sO 0 (x2).toNatClampNeg) * (zgl sq1 1)) = (o24 * (zgl sO 1)) then
        (zlet (x2 + 1) (fun v38 =>
          (fX4_isSame_2 sO sq1 n v38)))
      else
        some ((0 : Int32))))) else none))
def fX4_isSame (sO : zSt) (sq1 : zSt) : Option (Int32) :=
  (fX4_isSame_2 sO sq1 6000 (0 : Int32))
theorem bX4_isSame_60 {C : zCtx} (X : zFx C cX4_isSame 3 RX4 rmX4_isSame (some .boolean)) {aO : Nat → Nat} {aq1 : Nat → Nat} {sO : zSt} {sq1 : zSt} {y0 : Int32} {out : Int32} (hQ : zHi C out [] 0 0) (h : fX4_isSame_60 sO sq1 y0 = some out) : zG C 3 [] 0 0 [wX4 (zcT C) aO sO, wX4 (zcT C) aq1 sq1] 60 [] [.int y0] := by
  unfold fX4_isSame_60 at h
  obtain ⟨g60, h⟩ := zgd_of h
  cases h
  exact z_nret X hQ g60 dX4_isSame_60 rfl [] rfl (by decide) (by decide)
theorem bX4_isSame_2 {C : zCtx} (X : zFx C cX4_isSame 3 RX4 rmX4_isSame (some .boolean)) {aO : Nat → Nat} {aq1 : Nat → Nat} {sO : zSt} {sq1 : zSt} {out : Int32} (hQ : zHi C out [] 0 0) : ∀ (n : Nat) (x2 : Int32), fX4_isSame_2 sO sq1 n x2 = some out → zG C 3 [] 0 0 [wX4 (zcT C) aO sO, wX4 (zcT C) aq1 sq1] 2 [(0, .ref (aO 0)), (1, .ref (aq1 0)), (2, .int x2)] [] := by
  intro n
  induction n with
  | zero =>
    intro x2 h
    rw [fX4_isSame_2] at h
    exact zno h
  | succ n ih =>
    intro x2 h
    rw [fX4_isSame_2] at h
    refine z_iload_n X dX4_isSame_2 2 rfl ?_
    refine z_aload_n X dX4_isSame_3 0 rfl ?_
    refine z_get (v := .ref (aO 1)) X 0 0 5 0 ziX4 rfl (by decide) zw218 rfl dX4_isSame_4 rfl rfl rfl ?_
    refine z_alen (v := (3 : Int32)) X 0 1 2 rfl rfl dX4_isSame_7 rfl rfl ?_
    refine z_icmp_ge (tgt := 44) X dX4_isSame_8 (by decide) (fun c8 => ?_) (fun c8 => ?_)
    · replace h := zif_t h c8
      refine z_aload_n X dX4_isSame_44 0 rfl ?_
      refine z_get (v := .int (zgi sO 2)) X 0 0 5 2 ziX4 rfl (by decide) zw225 rfl dX4_isSame_45 rfl rfl rfl ?_
      refine z_aload_n X dX4_isSame_48 1 rfl ?_
      refine z_get (v := .int (zgi sq1 2)) X 1 0 5 2 ziX4 rfl (by decide) zw225 rfl dX4_isSame_49 rfl rfl rfl ?_
      refine z_icmp_ne (tgt := 59) X dX4_isSame_52 (by decide) (fun c52 => ?_) (fun c52 => ?_)
      · replace h := zif_f h c52
        refine z_iconst (v := (0 : Int32)) X dX4_isSame_59 rfl ?_
        exact z_at (pc2 := 60) (lv2 := []) (st2 := [.int (0 : Int32)]) (ws2 := [wX4 (zcT C) aO sO, wX4 (zcT C) aq1 sq1]) rfl rfl rfl [] rfl (bX4_isSame_60 X hQ  h)
      · replace h := zif_t h c52
        refine z_iconst (v := (1 : Int32)) X dX4_isSame_55 rfl ?_
        refine z_goto (tgt := 60) X dX4_isSame_56 (by decide) ?_
        exact z_at (pc2 := 60) (lv2 := []) (st2 := [.int (1 : Int32)]) (ws2 := [wX4 (zcT C) aO sO, wX4 (zcT C) aq1 sq1]) rfl rfl rfl [] rfl (bX4_isSame_60 X hQ  h)
    · replace h := zif_f h c8
      refine z_aload_n X dX4_isSame_11 0 rfl ?_
      refine z_get (v := .ref (aO 1)) X 0 0 5 0 ziX4 rfl (by decide) zw218 rfl dX4_isSame_12 rfl rfl rfl ?_
      refine z_iload_n X dX4_isSame_15 2 rfl ?_
      obtain ⟨g16, h⟩ := zgd_of h
      refine z_lald X 0 1 g16 dX4_isSame_16 rfl rfl ?_
      refine z_aload_n X dX4_isSame_17 1 rfl ?_
      refine z_get (v := .long (zgl sq1 1)) X 1 0 5 1 ziX4 rfl (by decide) zw219 rfl dX4_isSame_18 rfl rfl rfl ?_
      refine z_lmul X dX4_isSame_21 ?_
      refine z_aload_n X dX4_isSame_22 1 rfl ?_
      refine z_iload_n X dX4_isSame_23 2 rfl ?_
      obtain ⟨o24, ho24, h⟩ := zbind_of h
      refine z_callVl (st := [.long ((zgb sO 0 (x2).toNatClampNeg) * (zgl sq1 1))]) (ws2 := [wX4 (zcT C) aO sO, wX4 (zcT C) aq1 sq1]) X (metX4_topOf (zcl C) (zcD C) (zcT C) aq1 ho24) zmX4_topOf zw1163 dX4_isSame_24 1 0 5 rfl rfl rfl rfl [1] rfl rfl [] rfl (by decide) trivial rfl rfl rfl (Nat.le_of_ble_eq_true rfl) rfl rfl ⟨Nat.le_of_ble_eq_true rfl, Nat.le_of_ble_eq_true rfl⟩ ⟨Nat.le_of_ble_eq_true rfl, Nat.le_of_ble_eq_true rfl⟩ ?_
      refine z_aload_n X dX4_isSame_27 0 rfl ?_
      refine z_get (v := .long (zgl sO 1)) X 0 0 5 1 ziX4 rfl (by decide) zw219 rfl dX4_isSame_28 rfl rfl rfl ?_
      refine z_lmul X dX4_isSame_31 ?_
      refine z_lcmp_eq (tgt := 38) X dX4_isSame_32 dX4_isSame_33 (by decide) (fun c32 => ?_) (fun c32 => ?_)
      · replace h := zif_t h c32
        obtain ⟨v38, ev38, h⟩ := zlet_of h
        refine z_iinc (v := v38) (lv2 := [(2, .int v38), (0, .ref (aO 0)), (1, .ref (aq1 0))]) X dX4_isSame_38 (k := 2) rfl (by rw [ev38]; rfl) (by decide) rfl ?_
        refine z_goto (tgt := 2) X dX4_isSame_41 (by decide) ?_
        exact z_at (pc2 := 2) (lv2 := [(0, .ref (aO 0)), (1, .ref (aq1 0)), (2, .int v38)]) (st2 := []) (ws2 := [wX4 (zcT C) aO sO, wX4 (zcT C) aq1 sq1]) rfl rfl rfl [1, 2, 0] rfl (ih v38 h)
      · replace h := zif_f h c32
        refine z_iconst (v := (0 : Int32)) X dX4_isSame_36 rfl ?_
        cases h
        exact z_nret X hQ rfl dX4_isSame_37 rfl [] rfl (by decide) (by decide)
theorem bX4_isSame_0 {C : zCtx} (X : zFx C cX4_isSame 3 RX4 rmX4_isSame (some .boolean)) {aO : Nat → Nat} {aq1 : Nat → Nat} {sO : zSt} {sq1 : zSt} {out : Int32} (hQ : zHi C out [] 0 0) (h : fX4_isSame sO sq1 = some out) : zG C 3 [] 0 0 [wX4 (zcT C) aO sO, wX4 (zcT C) aq1 sq1] 0 [(0, .ref (aO 0)), (1, .ref (aq1 0))] [] := by
  unfold fX4_isSame at h
  refine z_iconst (v := (0 : Int32)) X dX4_isSame_0 rfl ?_
  refine z_istore_n (lv2 := [(2, .int (0 : Int32)), (0, .ref (aO 0)), (1, .ref (aq1 0))]) X dX4_isSame_1 rfl (by decide) rfl ?_
  exact z_at (pc2 := 2) (lv2 := [(0, .ref (aO 0)), (1, .ref (aq1 0)), (2, .int (0 : Int32))]) (st2 := []) (ws2 := [wX4 (zcT C) aO sO, wX4 (zcT C) aq1 sq1]) rfl rfl rfl [1, 2, 0] rfl (bX4_isSame_2 X hQ  6000 (0 : Int32) h)
theorem metX4_isSame (l : Launch) (D : va_G) (T : Nat → ClassId) (aO : Nat → Nat) (aq1 : Nat → Nat) {sO : zSt} {sq1 : zSt} {out : Int32} (hf : fX4_isSame sO sq1 = some out) (sz : Nat) : Met l yX4_isSame (zws yX4_isSame cX4_isSame 3 (some .boolean)) rmX4_isSame (zPc D T [.ref (aO 0), .ref (aq1 0)] [wX4 T aO sO, wX4 T aq1 sq1] sz) (zQi D out [] (zA [] sz)) 0 0 (zA [] sz) :=
  zMet (D := D) (T := T) (av := [.ref (aO 0), .ref (aq1 0)]) (ws := fun T => [wX4 T aO sO, wX4 T aq1 sq1]) (wm := fun T => []) (lv0 := [(0, .ref (aO 0)), (1, .ref (aq1 0))]) [] (Qc := fun D T A => zQi D out [] A) (by decide +kernel) rfl (Nat.le_of_ble_eq_true rfl) rfl (fun C X hQ => bX4_isSame_0 X hQ hf) sz
