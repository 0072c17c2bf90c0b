/-- char characterAt(int); of Tableaufloor$Line -/
abbrev rmX3_characterAt : Room := { frames := 0, cells := 0, slots := 0, locals := 0 }
def fX3_characterAt_24 (sO : zSt) (y0 : Int32) : Option (Int32) :=
  (if znar .char y0 = true then
    some (y0) else none)
def fX3_characterAt_22 (sO : zSt) : Option (Int32) :=
  (fX3_characterAt_24 sO (45 : Int32))
def fX3_characterAt (sO : zSt) (x1 : Int32) : Option (Int32) :=
  (if x1 < 0 then
    (fX3_characterAt_22 sO)
  else
    (if (30 : Int32) ≤ x1 then
      (fX3_characterAt_22 sO)
    else
      (if zin x1 30 = true then
        (fX3_characterAt_24 sO (zga sO 0 (x1).toNatClampNeg)) else none)))
theorem bX3_characterAt_24 {C : zCtx} (X : zFx C cX3_characterAt 2 RX3 rmX3_characterAt (some .char)) {aO : Nat → Nat} {sO : zSt} {y0 : Int32} {out : Int32} (hQ : zHi C out [] 0 0) (h : fX3_characterAt_24 sO y0 = some out) : zG C 2 [] 0 0 [wX3 (zcT C) aO sO] 24 [] [.int y0] := by
  unfold fX3_characterAt_24 at h
  obtain ⟨g24, h⟩ := zgd_of h
  cases h
  exact z_nret X hQ g24 dX3_characterAt_24 rfl [] rfl (by decide) (by decide)
theorem bX3_characterAt_22 {C : zCtx} (X : zFx C cX3_characterAt 2 RX3 rmX3_characterAt (some .char)) {aO : Nat → Nat} {sO : zSt} {out : Int32} (hQ : zHi C out [] 0 0) (h : fX3_characterAt_22 sO = some out) : zG C 2 [] 0 0 [wX3 (zcT C) aO sO] 22 [] [] := by
  unfold fX3_characterAt_22 at h
  refine z_bipush (v := (45 : Int32)) X dX3_characterAt_22 rfl ?_
  exact z_at (pc2 := 24) (lv2 := []) (st2 := [.int (45 : Int32)]) (ws2 := [wX3 (zcT C) aO sO]) rfl rfl rfl [] rfl (bX3_characterAt_24 X hQ  h)
theorem bX3_characterAt_0 {C : zCtx} (X : zFx C cX3_characterAt 2 RX3 rmX3_characterAt (some .char)) {aO : Nat → Nat} {sO : zSt} {x1 : Int32} {out : Int32} (hQ : zHi C out [] 0 0) (h : fX3_characterAt sO x1 = some out) : zG C 2 [] 0 0 [wX3 (zcT C) aO sO] 0 [(0, .ref (aO 0)), (1, .int x1)] [] := by
  unfold fX3_characterAt at h
  refine z_iload_n X dX3_characterAt_0 1 rfl ?_
  refine z_if_lt (tgt := 22) X dX3_characterAt_1 (by decide) (fun c1 => ?_) (fun c1 => ?_)
  · replace h := zif_t h c1
    exact z_at (pc2 := 22) (lv2 := []) (st2 := []) (ws2 := [wX3 (zcT C) aO sO]) rfl rfl rfl [] rfl (bX3_characterAt_22 X hQ  h)
  · replace h := zif_f h c1
    refine z_iload_n X dX3_characterAt_4 1 rfl ?_
    refine z_aload_n X dX3_characterAt_5 0 rfl ?_
    refine z_get (v := .ref (aO 1)) X 0 0 4 0 ziX3 rfl (by decide) zw150 rfl dX3_characterAt_6 rfl rfl rfl ?_
    refine z_alen (v := (30 : Int32)) X 0 1 0 rfl rfl dX3_characterAt_9 rfl rfl ?_
    refine z_icmp_ge (tgt := 22) X dX3_characterAt_10 (by decide) (fun c10 => ?_) (fun c10 => ?_)
    · replace h := zif_t h c10
      exact z_at (pc2 := 22) (lv2 := []) (st2 := []) (ws2 := [wX3 (zcT C) aO sO]) rfl rfl rfl [] rfl (bX3_characterAt_22 X hQ  h)
    · replace h := zif_f h c10
      refine z_aload_n X dX3_characterAt_13 0 rfl ?_
      refine z_get (v := .ref (aO 1)) X 0 0 4 0 ziX3 rfl (by decide) zw150 rfl dX3_characterAt_14 rfl rfl rfl ?_
      refine z_iload_n X dX3_characterAt_17 1 rfl ?_
      obtain ⟨g18, h⟩ := zgd_of h
      refine z_cald X 0 1 g18 dX3_characterAt_18 rfl rfl ?_
      refine z_goto (tgt := 24) X dX3_characterAt_19 (by decide) ?_
      exact z_at (pc2 := 24) (lv2 := []) (st2 := [.int (zga sO 0 (x1).toNatClampNeg)]) (ws2 := [wX3 (zcT C) aO sO]) rfl rfl rfl [] rfl (bX3_characterAt_24 X hQ  h)
theorem metX3_characterAt (l : Launch) (D : va_G) (T : Nat → ClassId) (aO : Nat → Nat) {sO : zSt} {x1 : Int32} {out : Int32} (hf : fX3_characterAt sO x1 = some out) (sz : Nat) : Met l yX3_characterAt (zws yX3_characterAt cX3_characterAt 2 (some .char)) rmX3_characterAt (zPc D T [.ref (aO 0), .int x1] [wX3 T aO sO] sz) (zQi D out [] (zA [] sz)) 0 0 (zA [] sz) :=
  zMet (D := D) (T := T) (av := [.ref (aO 0), .int x1]) (ws := fun T => [wX3 T aO sO]) (wm := fun T => []) (lv0 := [(0, .ref (aO 0)), (1, .int x1)]) [] (Qc := fun D T A => zQi D out [] A) (by decide +kernel) rfl (Nat.le_of_ble_eq_true rfl) rfl (fun C X hQ => bX3_characterAt_0 X hQ hf) sz
/-- private void put(char); of Tableaufloor$Line -/
abbrev rmX3_put : Room := { frames := 0, cells := 0, slots := 0, locals := 0 }
def fX3_put_39 (sO : zSt) : Option (zSt) :=
  some (sO)
def fX3_put (sO : zSt) (x1 : Int32) : Option (zSt) :=
  (if (zgi sO 1) < 0 then
    (fX3_put_39 sO)
  else
    (if (30 : Int32) ≤ (zgi sO 1) then
      (fX3_put_39 sO)
    else
      (if zin (zgi sO 1) 30 = true then
        (zlet (zsa sO 0 (upd (zga sO 0) ((zgi sO 1)).toNatClampNeg (vp_nar .char x1))) (fun sO28 =>
        (zlet (zsi sO28 1 ((zgi sO28 1) + (1 : Int32))) (fun sO36 =>
        (fX3_put_39 sO36))))) else none)))
theorem bX3_put_39 {C : zCtx} (X : zFx C cX3_put 2 RX3 rmX3_put none) {aO : Nat → Nat} {sO : zSt} {out : zSt} (hQ : zHv C [wX3 (zcT C) aO out] 0 0) (h : fX3_put_39 sO = some out) : zG C 2 [0] 0 0 [wX3 (zcT C) aO sO] 39 [] [] := by
  unfold fX3_put_39 at h
  cases h
  exact z_vret X hQ dX3_put_39 [0] rfl (by decide) (by decide)
theorem bX3_put_0 {C : zCtx} (X : zFx C cX3_put 2 RX3 rmX3_put none) {aO : Nat → Nat} {sO : zSt} {x1 : Int32} {out : zSt} (hQ : zHv C [wX3 (zcT C) aO out] 0 0) (h : fX3_put sO x1 = some out) : zG C 2 [0] 0 0 [wX3 (zcT C) aO sO] 0 [(0, .ref (aO 0)), (1, .int x1)] [] := by
  unfold fX3_put at h
  refine z_aload_n X dX3_put_0 0 rfl ?_
  refine z_get (v := .int (zgi sO 1)) X 0 0 4 1 ziX3 rfl (by decide) zw151 rfl dX3_put_1 rfl rfl rfl ?_
  refine z_if_lt (tgt := 39) X dX3_put_4 (by decide) (fun c4 => ?_) (fun c4 => ?_)
  · replace h := zif_t h c4
    exact z_at (pc2 := 39) (lv2 := []) (st2 := []) (ws2 := [wX3 (zcT C) aO sO]) rfl rfl rfl [] rfl (bX3_put_39 X hQ  h)
  · replace h := zif_f h c4
    refine z_aload_n X dX3_put_7 0 rfl ?_
    refine z_get (v := .int (zgi sO 1)) X 0 0 4 1 ziX3 rfl (by decide) zw151 rfl dX3_put_8 rfl rfl rfl ?_
    refine z_aload_n X dX3_put_11 0 rfl ?_
    refine z_get (v := .ref (aO 1)) X 0 0 4 0 ziX3 rfl (by decide) zw150 rfl dX3_put_12 rfl rfl rfl ?_
    refine z_alen (v := (30 : Int32)) X 0 1 0 rfl rfl dX3_put_15 rfl rfl ?_
    refine z_icmp_ge (tgt := 39) X dX3_put_16 (by decide) (fun c16 => ?_) (fun c16 => ?_)
    · replace h := zif_t h c16
      exact z_at (pc2 := 39) (lv2 := []) (st2 := []) (ws2 := [wX3 (zcT C) aO sO]) rfl rfl rfl [] rfl (bX3_put_39 X hQ  h)
    · replace h := zif_f h c16
      refine z_aload_n X dX3_put_19 0 rfl ?_
      refine z_get (v := .ref (aO 1)) X 0 0 4 0 ziX3 rfl (by decide) zw150 rfl dX3_put_20 rfl rfl rfl ?_
      refine z_aload_n X dX3_put_23 0 rfl ?_
      refine z_get (v := .int (zgi sO 1)) X 0 0 4 1 ziX3 rfl (by decide) zw151 rfl dX3_put_24 rfl rfl rfl ?_
      refine z_iload_n X dX3_put_27 1 rfl ?_
      obtain ⟨g28, h⟩ := zgd_of h
      obtain ⟨sO28, esO28, h⟩ := zlet_of h
      refine z_cast (ws2 := [wX3 (zcT C) aO sO28]) X 0 1 g28 dX3_put_28 rfl rfl (by decide) (w2 := wX3 (zcT C) aO sO28) (by rw [esO28]; rfl) rfl ?_
      refine z_aload_n X dX3_put_29 0 rfl ?_
      refine z_dup X dX3_put_30 rfl ?_
      refine z_get (v := .int (zgi sO28 1)) X 0 0 4 1 ziX3 rfl (by decide) zw151 rfl dX3_put_31 rfl rfl rfl ?_
      refine z_iconst (v := (1 : Int32)) X dX3_put_34 rfl ?_
      refine z_iadd X dX3_put_35 ?_
      obtain ⟨sO36, esO36, h⟩ := zlet_of h
      refine z_put (ws2 := [wX3 (zcT C) aO sO36]) X 0 0 4 1 ziX3 rfl tyX3 tyX3_ok nmX3 (by decide) zw151 rfl rfl (ty := .int) (by decide +kernel) rfl rfl (by show 1 < 2; decide) dX3_put_36 rfl rfl (by decide) (w2 := wX3 (zcT C) aO sO36) (by rw [esO36]; rfl) rfl ?_
      exact z_at (pc2 := 39) (lv2 := []) (st2 := []) (ws2 := [wX3 (zcT C) aO sO36]) rfl rfl rfl [] rfl (bX3_put_39 X hQ  h)
theorem metX3_put (l : Launch) (D : va_G) (T : Nat → ClassId) (aO : Nat → Nat) {sO : zSt} {x1 : Int32} {out : zSt} (hf : fX3_put sO x1 = some out) (sz : Nat) : Met l yX3_put (zws yX3_put cX3_put 2 none) rmX3_put (zPc D T [.ref (aO 0), .int x1] [wX3 T aO sO] sz) (zQv D [wX3 T aO out] (zA [wX3 T aO sO] sz)) 0 0 (zA [wX3 T aO sO] sz) :=
  zMet (D := D) (T := T) (av := [.ref (aO 0), .int x1]) (ws := fun T => [wX3 T aO sO]) (wm := fun T => [wX3 T aO sO]) (lv0 := [(0, .ref (aO 0)), (1, .int x1)]) [0] (Qc := fun D T A => zQv D [wX3 T aO out] A) (by decide +kernel) rfl (Nat.le_of_ble_eq_true rfl) rfl (fun C X hQ => bX3_put_0 X hQ hf) sz
/-- private void writeTerm(int, int); of Tableaufloor$Line -/
abbrev rmX3_writeTerm : Room := { frames := 1, cells := 0, slots := 0, locals := 21 }
def fX3_writeTerm_56 (sO : zSt) (x2 : Int32) : Option (zSt) :=
  ((fX3_put sO (((((97 : Int32) + x2)).toUInt32 % 65536).toInt32)).bind (fun o62 =>
    some (o62)))
def fX3_writeTerm_41 (sO : zSt) (x2 : Int32) (y0 : Int32) : Option (zSt) :=
  (if y0 = (1 : Int32) then
    (fX3_writeTerm_56 sO x2)
  else
    ((fX3_put sO (((((48 : Int32) + y0)).toUInt32 % 65536).toInt32)).bind (fun o53 =>
      (fX3_writeTerm_56 o53 x2))))
def fX3_writeTerm_31 (sO : zSt) (x1 : Int32) (x2 : Int32) : Option (zSt) :=
  (if 0 ≤ x1 then
    (fX3_writeTerm_41 sO x2 x1)
  else
    (fX3_writeTerm_41 sO x2 (-x1)))
def fX3_writeTerm (sO : zSt) (x1 : Int32) (x2 : Int32) : Option (zSt) :=
  (if x1 = 0 then
    some (sO)
  else
    (if 0 ≤ x1 then
      (if (zgi sO 1) ≤ 0 then
        (fX3_writeTerm_31 sO x1 x2)
      else
        ((fX3_put sO (43 : Int32)).bind (fun o28 =>
          (fX3_writeTerm_31 o28 x1 x2))))
    else
      ((fX3_put sO (45 : Int32)).bind (fun o12 =>
        (fX3_writeTerm_31 o12 x1 x2)))))
theorem bX3_writeTerm_56 {C : zCtx} (X : zFx C cX3_writeTerm 4 RX3 rmX3_writeTerm none) {aO : Nat → Nat} {sO : zSt} {x2 : Int32} {out : zSt} (hQ : zHv C [wX3 (zcT C) aO out] 0 0) (h : fX3_writeTerm_56 sO x2 = some out) : zG C 4 [0] 0 0 [wX3 (zcT C) aO sO] 56 [(0, .ref (aO 0)), (2, .int x2)] [] := by
  unfold fX3_writeTerm_56 at h
  refine z_aload_n X dX3_writeTerm_56 0 rfl ?_
  refine z_bipush (v := (97 : Int32)) X dX3_writeTerm_57 rfl ?_
  refine z_iload_n X dX3_writeTerm_59 1 rfl ?_
  refine z_iadd X dX3_writeTerm_60 ?_
  refine z_i2c X dX3_writeTerm_61 ?_
  obtain ⟨o62, ho62, h⟩ := zbind_of h
  refine z_callVv (st := []) (ws2 := [wX3 (zcT C) aO o62]) X (metX3_put (zcl C) (zcD C) (zcT C) aO ho62) zmX3_put zw1047 dX3_writeTerm_62 0 0 4 rfl rfl rfl rfl [0] rfl rfl [0] rfl (by decide) ⟨zsX3 , trivial⟩ rfl rfl rfl (Nat.le_of_ble_eq_true rfl) rfl rfl ⟨Nat.le_of_ble_eq_true rfl, Nat.le_of_ble_eq_true rfl⟩ ⟨Nat.le_of_ble_eq_true rfl, Nat.le_of_ble_eq_true rfl⟩ ?_
  cases h
  exact z_vret X hQ dX3_writeTerm_65 [0] rfl (by decide) (by decide)
theorem bX3_writeTerm_41 {C : zCtx} (X : zFx C cX3_writeTerm 4 RX3 rmX3_writeTerm none) {aO : Nat → Nat} {sO : zSt} {x2 : Int32} {y0 : Int32} {out : zSt} (hQ : zHv C [wX3 (zcT C) aO out] 0 0) (h : fX3_writeTerm_41 sO x2 y0 = some out) : zG C 4 [0] 0 0 [wX3 (zcT C) aO sO] 41 [(0, .ref (aO 0)), (2, .int x2)] [.int y0] := by
  unfold fX3_writeTerm_41 at h
  refine z_istore_n (lv2 := [(3, .int y0), (0, .ref (aO 0)), (2, .int x2)]) X dX3_writeTerm_41 rfl (by decide) rfl ?_
  refine z_iload_n X dX3_writeTerm_42 0 rfl ?_
  refine z_iconst (v := (1 : Int32)) X dX3_writeTerm_43 rfl ?_
  refine z_icmp_eq (tgt := 56) X dX3_writeTerm_44 (by decide) (fun c44 => ?_) (fun c44 => ?_)
  · replace h := zif_t h c44
    exact z_at (pc2 := 56) (lv2 := [(0, .ref (aO 0)), (2, .int x2)]) (st2 := []) (ws2 := [wX3 (zcT C) aO sO]) rfl rfl rfl [1, 2] rfl (bX3_writeTerm_56 X hQ  h)
  · replace h := zif_f h c44
    refine z_aload_n X dX3_writeTerm_47 1 rfl ?_
    refine z_bipush (v := (48 : Int32)) X dX3_writeTerm_48 rfl ?_
    refine z_iload_n X dX3_writeTerm_50 0 rfl ?_
    refine z_iadd X dX3_writeTerm_51 ?_
    refine z_i2c X dX3_writeTerm_52 ?_
    obtain ⟨o53, ho53, h⟩ := zbind_of h
    refine z_callVv (st := []) (ws2 := [wX3 (zcT C) aO o53]) X (metX3_put (zcl C) (zcD C) (zcT C) aO ho53) zmX3_put zw1047 dX3_writeTerm_53 0 0 4 rfl rfl rfl rfl [0] rfl rfl [0] rfl (by decide) ⟨zsX3 , trivial⟩ rfl rfl rfl (Nat.le_of_ble_eq_true rfl) rfl rfl ⟨Nat.le_of_ble_eq_true rfl, Nat.le_of_ble_eq_true rfl⟩ ⟨Nat.le_of_ble_eq_true rfl, Nat.le_of_ble_eq_true rfl⟩ ?_
    exact z_at (pc2 := 56) (lv2 := [(0, .ref (aO 0)), (2, .int x2)]) (st2 := []) (ws2 := [wX3 (zcT C) aO o53]) rfl rfl rfl [1, 2] rfl (bX3_writeTerm_56 X hQ  h)
theorem bX3_writeTerm_31 {C : zCtx} (X : zFx C cX3_writeTerm 4 RX3 rmX3_writeTerm none) {aO : Nat → Nat} {sO : zSt} {x1 : Int32} {x2 : Int32} {out : zSt} (hQ : zHv C [wX3 (zcT C) aO out] 0 0) (h : fX3_writeTerm_31 sO x1 x2 = some out) : zG C 4 [0] 0 0 [wX3 (zcT C) aO sO] 31 [(0, .ref (aO 0)), (1, .int x1), (2, .int x2)] [] := by
  unfold fX3_writeTerm_31 at h
  refine z_iload_n X dX3_writeTerm_31 1 rfl ?_
  refine z_if_ge (tgt := 40) X dX3_writeTerm_32 (by decide) (fun c32 => ?_) (fun c32 => ?_)
  · replace h := zif_t h c32
    refine z_iload_n X dX3_writeTerm_40 1 rfl ?_
    exact z_at (pc2 := 41) (lv2 := [(0, .ref (aO 0)), (2, .int x2)]) (st2 := [.int x1]) (ws2 := [wX3 (zcT C) aO sO]) rfl rfl rfl [0, 2] rfl (bX3_writeTerm_41 X hQ  h)
  · replace h := zif_f h c32
    refine z_iload_n X dX3_writeTerm_35 1 rfl ?_
    refine z_ineg X dX3_writeTerm_36 ?_
    refine z_goto (tgt := 41) X dX3_writeTerm_37 (by decide) ?_
    exact z_at (pc2 := 41) (lv2 := [(0, .ref (aO 0)), (2, .int x2)]) (st2 := [.int (-x1)]) (ws2 := [wX3 (zcT C) aO sO]) rfl rfl rfl [0, 2] rfl (bX3_writeTerm_41 X hQ  h)
theorem bX3_writeTerm_0 {C : zCtx} (X : zFx C cX3_writeTerm 4 RX3 rmX3_writeTerm none) {aO : Nat → Nat} {sO : zSt} {x1 : Int32} {x2 : Int32} {out : zSt} (hQ : zHv C [wX3 (zcT C) aO out] 0 0) (h : fX3_writeTerm sO x1 x2 = some out) : zG C 4 [0] 0 0 [wX3 (zcT C) aO sO] 0 [(0, .ref (aO 0)), (1, .int x1), (2, .int x2)] [] := by
  unfold fX3_writeTerm at h
  refine z_iload_n X dX3_writeTerm_0 1 rfl ?_
  refine z_if_ne (tgt := 5) X dX3_writeTerm_1 (by decide) (fun c1 => ?_) (fun c1 => ?_)
  · replace h := zif_f h c1
    refine z_iload_n X dX3_writeTerm_5 1 rfl ?_
    refine z_if_ge (tgt := 18) X dX3_writeTerm_6 (by decide) (fun c6 => ?_) (fun c6 => ?_)
    · replace h := zif_t h c6
      refine z_aload_n X dX3_writeTerm_18 0 rfl ?_
      refine z_get (v := .int (zgi sO 1)) X 0 0 4 1 ziX3 rfl (by decide) zw151 rfl dX3_writeTerm_19 rfl rfl rfl ?_
      refine z_if_le (tgt := 31) X dX3_writeTerm_22 (by decide) (fun c22 => ?_) (fun c22 => ?_)
      · replace h := zif_t h c22
        exact z_at (pc2 := 31) (lv2 := [(0, .ref (aO 0)), (1, .int x1), (2, .int x2)]) (st2 := []) (ws2 := [wX3 (zcT C) aO sO]) rfl rfl rfl [0, 1, 2] rfl (bX3_writeTerm_31 X hQ  h)
      · replace h := zif_f h c22
        refine z_aload_n X dX3_writeTerm_25 0 rfl ?_
        refine z_bipush (v := (43 : Int32)) X dX3_writeTerm_26 rfl ?_
        obtain ⟨o28, ho28, h⟩ := zbind_of h
        refine z_callVv (st := []) (ws2 := [wX3 (zcT C) aO o28]) X (metX3_put (zcl C) (zcD C) (zcT C) aO ho28) zmX3_put zw1047 dX3_writeTerm_28 0 0 4 rfl rfl rfl rfl [0] rfl rfl [0] rfl (by decide) ⟨zsX3 , trivial⟩ rfl rfl rfl (Nat.le_of_ble_eq_true rfl) rfl rfl ⟨Nat.le_of_ble_eq_true rfl, Nat.le_of_ble_eq_true rfl⟩ ⟨Nat.le_of_ble_eq_true rfl, Nat.le_of_ble_eq_true rfl⟩ ?_
        exact z_at (pc2 := 31) (lv2 := [(0, .ref (aO 0)), (1, .int x1), (2, .int x2)]) (st2 := []) (ws2 := [wX3 (zcT C) aO o28]) rfl rfl rfl [0, 1, 2] rfl (bX3_writeTerm_31 X hQ  h)
    · replace h := zif_f h c6
      refine z_aload_n X dX3_writeTerm_9 0 rfl ?_
      refine z_bipush (v := (45 : Int32)) X dX3_writeTerm_10 rfl ?_
      obtain ⟨o12, ho12, h⟩ := zbind_of h
      refine z_callVv (st := []) (ws2 := [wX3 (zcT C) aO o12]) X (metX3_put (zcl C) (zcD C) (zcT C) aO ho12) zmX3_put zw1047 dX3_writeTerm_12 0 0 4 rfl rfl rfl rfl [0] rfl rfl [0] rfl (by decide) ⟨zsX3 , trivial⟩ rfl rfl rfl (Nat.le_of_ble_eq_true rfl) rfl rfl ⟨Nat.le_of_ble_eq_true rfl, Nat.le_of_ble_eq_true rfl⟩ ⟨Nat.le_of_ble_eq_true rfl, Nat.le_of_ble_eq_true rfl⟩ ?_
      refine z_goto (tgt := 31) X dX3_writeTerm_15 (by decide) ?_
      exact z_at (pc2 := 31) (lv2 := [(0, .ref (aO 0)), (1, .int x1), (2, .int x2)]) (st2 := []) (ws2 := [wX3 (zcT C) aO o12]) rfl rfl rfl [0, 1, 2] rfl (bX3_writeTerm_31 X hQ  h)
  · replace h := zif_t h c1
    cases h
    exact z_vret X hQ dX3_writeTerm_4 [0] rfl (by decide) (by decide)
theorem metX3_writeTerm (l : Launch) (D : va_G) (T : Nat → ClassId) (aO : Nat → Nat) {sO : zSt} {x1 : Int32} {x2 : Int32} {out : zSt} (hf : fX3_writeTerm sO x1 x2 = some out) (sz : Nat) : Met l yX3_writeTerm (zws yX3_writeTerm cX3_writeTerm 4 none) rmX3_writeTerm (zPc D T [.ref (aO 0), .int x1, .int x2] [wX3 T aO sO] sz) (zQv D [wX3 T aO out] (zA [wX3 T aO sO] sz)) 0 0 (zA [wX3 T aO sO] sz) :=
  zMet (D := D) (T := T) (av := [.ref (aO 0), .int x1, .int x2]) (ws := fun T => [wX3 T aO sO]) (wm := fun T => [wX3 T aO sO]) (lv0 := [(0, .ref (aO 0)), (1, .int x1), (2, .int x2)]) [0] (Qc := fun D T A => zQv D [wX3 T aO out] A) (by decide +kernel) rfl (Nat.le_of_ble_eq_true rfl) rfl (fun C X hQ => bX3_writeTerm_0 X hQ hf) sz
/-- private void writeNumber(int); of Tableaufloor$Line -/
abbrev rmX3_writeNumber : Room := { frames := 1, cells := 0, slots := 0, locals := 21 }
def fX3_writeNumber_39 (sO : zSt) (x2 : Int32) : Option (zSt) :=
  ((fX3_put sO (((((48 : Int32) + (x2 - x2 / (10 : Int32) * (10 : Int32)))).toUInt32 % 65536).toInt32)).bind (fun o48 =>
    some (o48)))
def fX3_writeNumber_21 (sO : zSt) (x2 : Int32) : Option (zSt) :=
  (if x2 < (10 : Int32) then
    (fX3_writeNumber_39 sO x2)
  else
    ((fX3_put sO (((((48 : Int32) + (x2 / (10 : Int32)))).toUInt32 % 65536).toInt32)).bind (fun o36 =>
      (fX3_writeNumber_39 o36 x2))))
def fX3_writeNumber_10 (sO : zSt) (x1 : Int32) (y0 : Int32) : Option (zSt) :=
  (if 0 ≤ x1 then
    (fX3_writeNumber_21 sO y0)
  else
    ((fX3_put sO (45 : Int32)).bind (fun o18 =>
      (fX3_writeNumber_21 o18 y0))))
def fX3_writeNumber (sO : zSt) (x1 : Int32) : Option (zSt) :=
  (if 0 ≤ x1 then
    (fX3_writeNumber_10 sO x1 x1)
  else
    (fX3_writeNumber_10 sO x1 (-x1)))
theorem bX3_writeNumber_39 {C : zCtx} (X : zFx C cX3_writeNumber 3 RX3 rmX3_writeNumber none) {aO : Nat → Nat} {sO : zSt} {x2 : Int32} {out : zSt} (hQ : zHv C [wX3 (zcT C) aO out] 0 0) (h : fX3_writeNumber_39 sO x2 = some out) : zG C 3 [0] 0 0 [wX3 (zcT C) aO sO] 39 [(0, .ref (aO 0)), (2, .int x2)] [] := by
  unfold fX3_writeNumber_39 at h
  refine z_aload_n X dX3_writeNumber_39 0 rfl ?_
  refine z_bipush (v := (48 : Int32)) X dX3_writeNumber_40 rfl ?_
  refine z_iload_n X dX3_writeNumber_42 1 rfl ?_
  refine z_bipush (v := (10 : Int32)) X dX3_writeNumber_43 rfl ?_
  refine z_irem X dX3_writeNumber_45 (by decide) ?_
  refine z_iadd X dX3_writeNumber_46 ?_
  refine z_i2c X dX3_writeNumber_47 ?_
  obtain ⟨o48, ho48, h⟩ := zbind_of h
  refine z_callVv (st := []) (ws2 := [wX3 (zcT C) aO o48]) X (metX3_put (zcl C) (zcD C) (zcT C) aO ho48) zmX3_put zw1047 dX3_writeNumber_48 0 0 4 rfl rfl rfl rfl [0] rfl rfl [0] rfl (by decide) ⟨zsX3 , trivial⟩ rfl rfl rfl (Nat.le_of_ble_eq_true rfl) rfl rfl ⟨Nat.le_of_ble_eq_true rfl, Nat.le_of_ble_eq_true rfl⟩ ⟨Nat.le_of_ble_eq_true rfl, Nat.le_of_ble_eq_true rfl⟩ ?_
  cases h
  exact z_vret X hQ dX3_writeNumber_51 [0] rfl (by decide) (by decide)
theorem bX3_writeNumber_21 {C : zCtx} (X : zFx C cX3_writeNumber 3 RX3 rmX3_writeNumber none) {aO : Nat → Nat} {sO : zSt} {x2 : Int32} {out : zSt} (hQ : zHv C [wX3 (zcT C) aO out] 0 0) (h : fX3_writeNumber_21 sO x2 = some out) : zG C 3 [0] 0 0 [wX3 (zcT C) aO sO] 21 [(0, .ref (aO 0)), (2, .int x2)] [] := by
  unfold fX3_writeNumber_21 at h
  refine z_iload_n X dX3_writeNumber_21 1 rfl ?_
  refine z_bipush (v := (10 : Int32)) X dX3_writeNumber_22 rfl ?_
  refine z_icmp_lt (tgt := 39) X dX3_writeNumber_24 (by decide) (fun c24 => ?_) (fun c24 => ?_)
  · replace h := zif_t h c24
    exact z_at (pc2 := 39) (lv2 := [(0, .ref (aO 0)), (2, .int x2)]) (st2 := []) (ws2 := [wX3 (zcT C) aO sO]) rfl rfl rfl [0, 1] rfl (bX3_writeNumber_39 X hQ  h)
  · replace h := zif_f h c24
    refine z_aload_n X dX3_writeNumber_27 0 rfl ?_
    refine z_bipush (v := (48 : Int32)) X dX3_writeNumber_28 rfl ?_
    refine z_iload_n X dX3_writeNumber_30 1 rfl ?_
    refine z_bipush (v := (10 : Int32)) X dX3_writeNumber_31 rfl ?_
    refine z_idiv X dX3_writeNumber_33 (by decide) ?_
    refine z_iadd X dX3_writeNumber_34 ?_
    refine z_i2c X dX3_writeNumber_35 ?_
    obtain ⟨o36, ho36, h⟩ := zbind_of h
    refine z_callVv (st := []) (ws2 := [wX3 (zcT C) aO o36]) X (metX3_put (zcl C) (zcD C) (zcT C) aO ho36) zmX3_put zw1047 dX3_writeNumber_36 0 0 4 rfl rfl rfl rfl [0] rfl rfl [0] rfl (by decide) ⟨zsX3 , trivial⟩ rfl rfl rfl (Nat.le_of_ble_eq_true rfl) rfl rfl ⟨Nat.le_of_ble_eq_true rfl, Nat.le_of_ble_eq_true rfl⟩ ⟨Nat.le_of_ble_eq_true rfl, Nat.le_of_ble_eq_true rfl⟩ ?_
    exact z_at (pc2 := 39) (lv2 := [(0, .ref (aO 0)), (2, .int x2)]) (st2 := []) (ws2 := [wX3 (zcT C) aO o36]) rfl rfl rfl [0, 1] rfl (bX3_writeNumber_39 X hQ  h)
theorem bX3_writeNumber_10 {C : zCtx} (X : zFx C cX3_writeNumber 3 RX3 rmX3_writeNumber none) {aO : Nat → Nat} {sO : zSt} {x1 : Int32} {y0 : Int32} {out : zSt} (hQ : zHv C [wX3 (zcT C) aO out] 0 0) (h : fX3_writeNumber_10 sO x1 y0 = some out) : zG C 3 [0] 0 0 [wX3 (zcT C) aO sO] 10 [(0, .ref (aO 0)), (1, .int x1)] [.int y0] := by
  unfold fX3_writeNumber_10 at h
  refine z_istore_n (lv2 := [(2, .int y0), (0, .ref (aO 0)), (1, .int x1)]) X dX3_writeNumber_10 rfl (by decide) rfl ?_
  refine z_iload_n X dX3_writeNumber_11 2 rfl ?_
  refine z_if_ge (tgt := 21) X dX3_writeNumber_12 (by decide) (fun c12 => ?_) (fun c12 => ?_)
  · replace h := zif_t h c12
    exact z_at (pc2 := 21) (lv2 := [(0, .ref (aO 0)), (2, .int y0)]) (st2 := []) (ws2 := [wX3 (zcT C) aO sO]) rfl rfl rfl [1, 0] rfl (bX3_writeNumber_21 X hQ  h)
  · replace h := zif_f h c12
    refine z_aload_n X dX3_writeNumber_15 1 rfl ?_
    refine z_bipush (v := (45 : Int32)) X dX3_writeNumber_16 rfl ?_
    obtain ⟨o18, ho18, h⟩ := zbind_of h
    refine z_callVv (st := []) (ws2 := [wX3 (zcT C) aO o18]) X (metX3_put (zcl C) (zcD C) (zcT C) aO ho18) zmX3_put zw1047 dX3_writeNumber_18 0 0 4 rfl rfl rfl rfl [0] rfl rfl [0] rfl (by decide) ⟨zsX3 , trivial⟩ rfl rfl rfl (Nat.le_of_ble_eq_true rfl) rfl rfl ⟨Nat.le_of_ble_eq_true rfl, Nat.le_of_ble_eq_true rfl⟩ ⟨Nat.le_of_ble_eq_true rfl, Nat.le_of_ble_eq_true rfl⟩ ?_
    exact z_at (pc2 := 21) (lv2 := [(0, .ref (aO 0)), (2, .int y0)]) (st2 := []) (ws2 := [wX3 (zcT C) aO o18]) rfl rfl rfl [1, 0] rfl (bX3_writeNumber_21 X hQ  h)
theorem bX3_writeNumber_0 {C : zCtx} (X : zFx C cX3_writeNumber 3 RX3 rmX3_writeNumber none) {aO : Nat → Nat} {sO : zSt} {x1 : Int32} {out : zSt} (hQ : zHv C [wX3 (zcT C) aO out] 0 0) (h : fX3_writeNumber sO x1 = some out) : zG C 3 [0] 0 0 [wX3 (zcT C) aO sO] 0 [(0, .ref (aO 0)), (1, .int x1)] [] := by
  unfold fX3_writeNumber at h
  refine z_iload_n X dX3_writeNumber_0 1 rfl ?_
  refine z_if_ge (tgt := 9) X dX3_writeNumber_1 (by decide) (fun c1 => ?_) (fun c1 => ?_)
  · replace h := zif_t h c1
    refine z_iload_n X dX3_writeNumber_9 1 rfl ?_
    exact z_at (pc2 := 10) (lv2 := [(0, .ref (aO 0)), (1, .int x1)]) (st2 := [.int x1]) (ws2 := [wX3 (zcT C) aO sO]) rfl rfl rfl [0, 1] rfl (bX3_writeNumber_10 X hQ  h)
  · replace h := zif_f h c1
    refine z_iload_n X dX3_writeNumber_4 1 rfl ?_
    refine z_ineg X dX3_writeNumber_5 ?_
    refine z_goto (tgt := 10) X dX3_writeNumber_6 (by decide) ?_
    exact z_at (pc2 := 10) (lv2 := [(0, .ref (aO 0)), (1, .int x1)]) (st2 := [.int (-x1)]) (ws2 := [wX3 (zcT C) aO sO]) rfl rfl rfl [0, 1] rfl (bX3_writeNumber_10 X hQ  h)
theorem metX3_writeNumber (l : Launch) (D : va_G) (T : Nat → ClassId) (aO : Nat → Nat) {sO : zSt} {x1 : Int32} {out : zSt} (hf : fX3_writeNumber sO x1 = some out) (sz : Nat) : Met l yX3_writeNumber (zws yX3_writeNumber cX3_writeNumber 3 none) rmX3_writeNumber (zPc D T [.ref (aO 0), .int x1] [wX3 T aO sO] sz) (zQv D [wX3 T aO out] (zA [wX3 T aO sO] sz)) 0 0 (zA [wX3 T aO sO] sz) :=
  zMet (D := D) (T := T) (av := [.ref (aO 0), .int x1]) (ws := fun T => [wX3 T aO sO]) (wm := fun T => [wX3 T aO sO]) (lv0 := [(0, .ref (aO 0)), (1, .int x1)]) [0] (Qc := fun D T A => zQv D [wX3 T aO out] A) (by decide +kernel) rfl (Nat.le_of_ble_eq_true rfl) rfl (fun C X hQ => bX3_writeNumber_0 X hQ hf) sz
/-- void write(Tableaufloor$Program, int); of Tableaufloor$Line -/
abbrev rmX3_write : Room := { frames := 2, cells := 0, slots := 0, locals := 44 }
def fX3_write_70 (sP : zSt) (sO : zSt) (x2 : Int32) : Option (zSt) :=
  ((fX5_numberOf sP x2).bind (fun o73 =>
    ((fX3_writeNumber sO o73).bind (fun o76 =>
    some (o76)))))
def fX3_write_45 (sP : zSt) (sO : zSt) (x2 : Int32) : Option (zSt) :=
  ((fX5_relationOf sP x2).bind (fun o48 =>
    ((fX3_put sO o48).bind (fun o51 =>
    ((fX5_relationOf sP x2).bind (fun o56 =>
    (if o56 = (61 : Int32) then
    (fX3_write_70 sP o51 x2)
  else
    ((fX3_put o51 (61 : Int32)).bind (fun o67 =>
      (fX3_write_70 sP o67 x2))))))))))
def fX3_write_7 (sP : zSt) : Nat → zSt → Int32 → Int32 → Option (zSt)
  | 0, _, _, _ => none
  | n + 1, sO, x2, x3 =>
    (if (zgi sP 8) ≤ x3 then
      (if (zgi sO 1) = 0 then
        ((fX3_put sO (48 : Int32)).bind (fun o42 =>
          (fX3_write_45 sP o42 x2)))
      else
        (fX3_write_45 sP sO x2))
    else
      ((fX5_rowCoefficient sP x2 x3).bind (fun o19 =>
        ((fX3_writeTerm sO o19 x3).bind (fun o23 =>
        (zlet (x3 + 1) (fun v26 =>
        (fX3_write_7 sP n o23 x2 v26))))))))
def fX3_write (sO : zSt) (sP : zSt) (x2 : Int32) : Option (zSt) :=
  (zlet (zsi sO 1 (0 : Int32)) (fun sO2 =>
    (fX3_write_7 sP 6000 sO2 x2 (0 : Int32))))
theorem bX3_write_70 {C : zCtx} (X : zFx C cX3_write 4 RX3 rmX3_write none) {aO : Nat → Nat} {aP : Nat → Nat} {sP : zSt} {sO : zSt} {x2 : Int32} {out : zSt} (hQ : zHv C [wX3 (zcT C) aO out] 0 0) (h : fX3_write_70 sP sO x2 = some out) : zG C 4 [0] 0 0 [wX3 (zcT C) aO sO, wX5 (zcT C) aP sP] 70 [(0, .ref (aO 0)), (1, .ref (aP 0)), (2, .int x2)] [] := by
  unfold fX3_write_70 at h
  refine z_aload_n X dX3_write_70 0 rfl ?_
  refine z_aload_n X dX3_write_71 1 rfl ?_
  refine z_iload_n X dX3_write_72 2 rfl ?_
  obtain ⟨o73, ho73, h⟩ := zbind_of h
  refine z_callVi (st := [.ref (aO 0)]) (ws2 := [wX3 (zcT C) aO sO, wX5 (zcT C) aP sP]) X (metX5_numberOf (zcl C) (zcD C) (zcT C) aP ho73) zmX5_numberOf zw1052 dX3_write_73 1 0 6 rfl rfl rfl rfl [1] rfl rfl [] rfl (by decide) trivial rfl rfl rfl (Nat.le_of_ble_eq_true rfl) rfl rfl ⟨Nat.le_of_ble_eq_true rfl, Nat.le_of_ble_eq_true rfl⟩ ⟨Nat.le_of_ble_eq_true rfl, Nat.le_of_ble_eq_true rfl⟩ ?_
  obtain ⟨o76, ho76, h⟩ := zbind_of h
  refine z_callVv (st := []) (ws2 := [wX3 (zcT C) aO o76, wX5 (zcT C) aP sP]) X (metX3_writeNumber (zcl C) (zcD C) (zcT C) aO ho76) zmX3_writeNumber zw1053 dX3_write_76 0 0 4 rfl rfl rfl rfl [0] rfl rfl [0] rfl (by decide) ⟨zsX3 , trivial⟩ rfl rfl rfl (Nat.le_of_ble_eq_true rfl) rfl rfl ⟨Nat.le_of_ble_eq_true rfl, Nat.le_of_ble_eq_true rfl⟩ ⟨Nat.le_of_ble_eq_true rfl, Nat.le_of_ble_eq_true rfl⟩ ?_
  cases h
  exact z_vret X hQ dX3_write_79 [0] rfl (by decide) (by decide)
theorem bX3_write_45 {C : zCtx} (X : zFx C cX3_write 4 RX3 rmX3_write none) {aO : Nat → Nat} {aP : Nat → Nat} {sP : zSt} {sO : zSt} {x2 : Int32} {out : zSt} (hQ : zHv C [wX3 (zcT C) aO out] 0 0) (h : fX3_write_45 sP sO x2 = some out) : zG C 4 [0] 0 0 [wX3 (zcT C) aO sO, wX5 (zcT C) aP sP] 45 [(0, .ref (aO 0)), (1, .ref (aP 0)), (2, .int x2)] [] := by
  unfold fX3_write_45 at h
  refine z_aload_n X dX3_write_45 0 rfl ?_
  refine z_aload_n X dX3_write_46 1 rfl ?_
  refine z_iload_n X dX3_write_47 2 rfl ?_
  obtain ⟨o48, ho48, h⟩ := zbind_of h
  refine z_callVi (st := [.ref (aO 0)]) (ws2 := [wX3 (zcT C) aO sO, wX5 (zcT C) aP sP]) X (metX5_relationOf (zcl C) (zcD C) (zcT C) aP ho48) zmX5_relationOf zw1051 dX3_write_48 1 0 6 rfl rfl rfl rfl [1] rfl rfl [] rfl (by decide) trivial rfl rfl rfl (Nat.le_of_ble_eq_true rfl) rfl rfl ⟨Nat.le_of_ble_eq_true rfl, Nat.le_of_ble_eq_true rfl⟩ ⟨Nat.le_of_ble_eq_true rfl, Nat.le_of_ble_eq_true rfl⟩ ?_
  obtain ⟨o51, ho51, h⟩ := zbind_of h
  refine z_callVv (st := []) (ws2 := [wX3 (zcT C) aO o51, wX5 (zcT C) aP sP]) X (metX3_put (zcl C) (zcD C) (zcT C) aO ho51) zmX3_put zw1047 dX3_write_51 0 0 4 rfl rfl rfl rfl [0] rfl rfl [0] rfl (by decide) ⟨zsX3 , trivial⟩ rfl rfl rfl (Nat.le_of_ble_eq_true rfl) rfl rfl ⟨Nat.le_of_ble_eq_true rfl, Nat.le_of_ble_eq_true rfl⟩ ⟨Nat.le_of_ble_eq_true rfl, Nat.le_of_ble_eq_true rfl⟩ ?_
  refine z_aload_n X dX3_write_54 1 rfl ?_
  refine z_iload_n X dX3_write_55 2 rfl ?_
  obtain ⟨o56, ho56, h⟩ := zbind_of h
  refine z_callVi (st := []) (ws2 := [wX3 (zcT C) aO o51, wX5 (zcT C) aP sP]) X (metX5_relationOf (zcl C) (zcD C) (zcT C) aP ho56) zmX5_relationOf zw1051 dX3_write_56 1 0 6 rfl rfl rfl rfl [1] rfl rfl [] rfl (by decide) trivial rfl rfl rfl (Nat.le_of_ble_eq_true rfl) rfl rfl ⟨Nat.le_of_ble_eq_true rfl, Nat.le_of_ble_eq_true rfl⟩ ⟨Nat.le_of_ble_eq_true rfl, Nat.le_of_ble_eq_true rfl⟩ ?_
  refine z_bipush (v := (61 : Int32)) X dX3_write_59 rfl ?_
  refine z_icmp_eq (tgt := 70) X dX3_write_61 (by decide) (fun c61 => ?_) (fun c61 => ?_)
  · replace h := zif_t h c61
    exact z_at (pc2 := 70) (lv2 := [(0, .ref (aO 0)), (1, .ref (aP 0)), (2, .int x2)]) (st2 := []) (ws2 := [wX3 (zcT C) aO o51, wX5 (zcT C) aP sP]) rfl rfl rfl [0, 1, 2] rfl (bX3_write_70 X hQ  h)
  · replace h := zif_f h c61
    refine z_aload_n X dX3_write_64 0 rfl ?_
    refine z_bipush (v := (61 : Int32)) X dX3_write_65 rfl ?_
    obtain ⟨o67, ho67, h⟩ := zbind_of h
    refine z_callVv (st := []) (ws2 := [wX3 (zcT C) aO o67, wX5 (zcT C) aP sP]) X (metX3_put (zcl C) (zcD C) (zcT C) aO ho67) zmX3_put zw1047 dX3_write_67 0 0 4 rfl rfl rfl rfl [0] rfl rfl [0] rfl (by decide) ⟨zsX3 , trivial⟩ rfl rfl rfl (Nat.le_of_ble_eq_true rfl) rfl rfl ⟨Nat.le_of_ble_eq_true rfl, Nat.le_of_ble_eq_true rfl⟩ ⟨Nat.le_of_ble_eq_true rfl, Nat.le_of_ble_eq_true rfl⟩ ?_
    exact z_at (pc2 := 70) (lv2 := [(0, .ref (aO 0)), (1, .ref (aP 0)), (2, .int x2)]) (st2 := []) (ws2 := [wX3 (zcT C) aO o67, wX5 (zcT C) aP sP]) rfl rfl rfl [0, 1, 2] rfl (bX3_write_70 X hQ  h)
theorem bX3_write_7 {C : zCtx} (X : zFx C cX3_write 4 RX3 rmX3_write none) {aO : Nat → Nat} {aP : Nat → Nat} {sP : zSt} {out : zSt} (hQ : zHv C [wX3 (zcT C) aO out] 0 0) : ∀ (n : Nat) (sO : zSt) (x2 : Int32) (x3 : Int32), fX3_write_7 sP n sO x2 x3 = some out → zG C 4 [0] 0 0 [wX3 (zcT C) aO sO, wX5 (zcT C) aP sP] 7 [(0, .ref (aO 0)), (1, .ref (aP 0)), (2, .int x2), (3, .int x3)] [] := by
  intro n
  induction n with
  | zero =>
    intro sO x2 x3 h
    rw [fX3_write_7] at h
    exact zno h
  | succ n ih =>
    intro sO x2 x3 h
    rw [fX3_write_7] at h
    refine z_iload_n X dX3_write_7 3 rfl ?_
    refine z_aload_n X dX3_write_8 1 rfl ?_
    refine z_getN (v := .int (zgi sP 8)) X 1 0 6 8 ziX5 rfl (by decide) zw61 rfl dX3_write_9 rfl rfl rfl ?_
    refine z_icmp_ge (tgt := 32) X dX3_write_12 (by decide) (fun c12 => ?_) (fun c12 => ?_)
    · replace h := zif_t h c12
      refine z_aload_n X dX3_write_32 0 rfl ?_
      refine z_get (v := .int (zgi sO 1)) X 0 0 4 1 ziX3 rfl (by decide) zw151 rfl dX3_write_33 rfl rfl rfl ?_
      refine z_if_ne (tgt := 45) X dX3_write_36 (by decide) (fun c36 => ?_) (fun c36 => ?_)
      · replace h := zif_f h c36
        exact z_at (pc2 := 45) (lv2 := [(0, .ref (aO 0)), (1, .ref (aP 0)), (2, .int x2)]) (st2 := []) (ws2 := [wX3 (zcT C) aO sO, wX5 (zcT C) aP sP]) rfl rfl rfl [0, 1, 2] rfl (bX3_write_45 X hQ  h)
      · replace h := zif_t h c36
        refine z_aload_n X dX3_write_39 0 rfl ?_
        refine z_bipush (v := (48 : Int32)) X dX3_write_40 rfl ?_
        obtain ⟨o42, ho42, h⟩ := zbind_of h
        refine z_callVv (st := []) (ws2 := [wX3 (zcT C) aO o42, wX5 (zcT C) aP sP]) X (metX3_put (zcl C) (zcD C) (zcT C) aO ho42) zmX3_put zw1047 dX3_write_42 0 0 4 rfl rfl rfl rfl [0] rfl rfl [0] rfl (by decide) ⟨zsX3 , trivial⟩ rfl rfl rfl (Nat.le_of_ble_eq_true rfl) rfl rfl ⟨Nat.le_of_ble_eq_true rfl, Nat.le_of_ble_eq_true rfl⟩ ⟨Nat.le_of_ble_eq_true rfl, Nat.le_of_ble_eq_true rfl⟩ ?_
        exact z_at (pc2 := 45) (lv2 := [(0, .ref (aO 0)), (1, .ref (aP 0)), (2, .int x2)]) (st2 := []) (ws2 := [wX3 (zcT C) aO o42, wX5 (zcT C) aP sP]) rfl rfl rfl [0, 1, 2] rfl (bX3_write_45 X hQ  h)
    · replace h := zif_f h c12
      refine z_aload_n X dX3_write_15 0 rfl ?_
      refine z_aload_n X dX3_write_16 1 rfl ?_
      refine z_iload_n X dX3_write_17 2 rfl ?_
      refine z_iload_n X dX3_write_18 3 rfl ?_
      obtain ⟨o19, ho19, h⟩ := zbind_of h
      refine z_callVi (st := [.ref (aO 0)]) (ws2 := [wX3 (zcT C) aO sO, wX5 (zcT C) aP sP]) X (metX5_rowCoefficient (zcl C) (zcD C) (zcT C) aP ho19) zmX5_rowCoefficient zw1042 dX3_write_19 1 0 6 rfl rfl rfl rfl [1] rfl rfl [] rfl (by decide) trivial rfl rfl rfl (Nat.le_of_ble_eq_true rfl) rfl rfl ⟨Nat.le_of_ble_eq_true rfl, Nat.le_of_ble_eq_true rfl⟩ ⟨Nat.le_of_ble_eq_true rfl, Nat.le_of_ble_eq_true rfl⟩ ?_
      refine z_iload_n X dX3_write_22 3 rfl ?_
      obtain ⟨o23, ho23, h⟩ := zbind_of h
      refine z_callVv (st := []) (ws2 := [wX3 (zcT C) aO o23, wX5 (zcT C) aP sP]) X (metX3_writeTerm (zcl C) (zcD C) (zcT C) aO ho23) zmX3_writeTerm zw1043 dX3_write_23 0 0 4 rfl rfl rfl rfl [0] rfl rfl [0] rfl (by decide) ⟨zsX3 , trivial⟩ rfl rfl rfl (Nat.le_of_ble_eq_true rfl) rfl rfl ⟨Nat.le_of_ble_eq_true rfl, Nat.le_of_ble_eq_true rfl⟩ ⟨Nat.le_of_ble_eq_true rfl, Nat.le_of_ble_eq_true rfl⟩ ?_
      obtain ⟨v26, ev26, h⟩ := zlet_of h
      refine z_iinc (v := v26) (lv2 := [(3, .int v26), (0, .ref (aO 0)), (1, .ref (aP 0)), (2, .int x2)]) X dX3_write_26 (k := 3) rfl (by rw [ev26]; rfl) (by decide) rfl ?_
      refine z_goto (tgt := 7) X dX3_write_29 (by decide) ?_
      exact z_at (pc2 := 7) (lv2 := [(0, .ref (aO 0)), (1, .ref (aP 0)), (2, .int x2), (3, .int v26)]) (st2 := []) (ws2 := [wX3 (zcT C) aO o23, wX5 (zcT C) aP sP]) rfl rfl rfl [1, 2, 3, 0] rfl (ih o23 x2 v26 h)
theorem bX3_write_0 {C : zCtx} (X : zFx C cX3_write 4 RX3 rmX3_write none) {aO : Nat → Nat} {aP : Nat → Nat} {sO : zSt} {sP : zSt} {x2 : Int32} {out : zSt} (hQ : zHv C [wX3 (zcT C) aO out] 0 0) (h : fX3_write sO sP x2 = some out) : zG C 4 [0] 0 0 [wX3 (zcT C) aO sO, wX5 (zcT C) aP sP] 0 [(0, .ref (aO 0)), (1, .ref (aP 0)), (2, .int x2)] [] := by
  unfold fX3_write at h
  refine z_aload_n X dX3_write_0 0 rfl ?_
  refine z_iconst (v := (0 : Int32)) X dX3_write_1 rfl ?_
  obtain ⟨sO2, esO2, h⟩ := zlet_of h
  refine z_put (ws2 := [wX3 (zcT C) aO sO2, wX5 (zcT C) aP sP]) X 0 0 4 1 ziX3 rfl tyX3 tyX3_ok nmX3 (by decide) zw151 rfl rfl (ty := .int) (by decide +kernel) rfl rfl (by show 1 < 2; decide) dX3_write_2 rfl rfl (by decide) (w2 := wX3 (zcT C) aO sO2) (by rw [esO2]; rfl) rfl ?_
  refine z_iconst (v := (0 : Int32)) X dX3_write_5 rfl ?_
  refine z_istore_n (lv2 := [(3, .int (0 : Int32)), (0, .ref (aO 0)), (1, .ref (aP 0)), (2, .int x2)]) X dX3_write_6 rfl (by decide) rfl ?_
  exact z_at (pc2 := 7) (lv2 := [(0, .ref (aO 0)), (1, .ref (aP 0)), (2, .int x2), (3, .int (0 : Int32))]) (st2 := []) (ws2 := [wX3 (zcT C) aO sO2, wX5 (zcT C) aP sP]) rfl rfl rfl [1, 2, 3, 0] rfl (bX3_write_7 X hQ  6000 sO2 x2 (0 : Int32) h)
theorem metX3_write (l : Launch) (D : va_G) (T : Nat → ClassId) (aO : Nat → Nat) (aP : Nat → Nat) {sO : zSt} {sP : zSt} {x2 : Int32} {out : zSt} (hf : fX3_write sO sP x2 = some out) (sz : Nat) : Met l yX3_write (zws yX3_write cX3_write 4 none) rmX3_write (zPc D T [.ref (aO 0), .ref (aP 0), .int x2] [wX3 T aO sO, wX5 T aP sP] sz) (zQv D [wX3 T aO out] (zA [wX3 T aO sO] sz)) 0 0 (zA [wX3 T aO sO] sz) :=
  zMet (D := D) (T := T) (av := [.ref (aO 0), .ref (aP 0), .int x2]) (ws := fun T => [wX3 T aO sO, wX5 T aP sP]) (wm := fun T => [wX3 T aO sO]) (lv0 := [(0, .ref (aO 0)), (1, .ref (aP 0)), (2, .int x2)]) [0] (Qc := fun D T A => zQv D [wX3 T aO out] A) (by decide +kernel) rfl (Nat.le_of_ble_eq_true rfl) rfl (fun C X hQ => bX3_write_0 X hQ hf) sz
