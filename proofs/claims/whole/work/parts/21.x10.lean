/-- private int stepsOf(int); of Tableaufloor$WholePoints -/
abbrev rmX10_stepsOf : Room := { frames := 1, cells := 0, slots := 0, locals := 21 }
def fX10_stepsOf_45 (sO : zSt) (sP : zSt) (y0 : Int32) : Option (Int32) :=
  some (y0)
def fX10_stepsOf_32 (sO : zSt) (sP : zSt) (y0 : Int32) : Option (Int32) :=
  (if (6 : Int32) ≤ y0 then
    (fX10_stepsOf_45 sO sP (6 : Int32))
  else
    (fX10_stepsOf_45 sO sP y0))
def fX10_stepsOf (sO : zSt) (sP : zSt) (x1 : Int32) : Option (Int32) :=
  (if (zgi sP 8) ≤ x1 then
    (fX10_stepsOf_32 sO sP (0 : Int32))
  else
    ((fX5_greatestOf sP x1).bind (fun o16 =>
      ((fX5_leastOf sP x1).bind (fun o24 =>
      (fX10_stepsOf_32 sO sP (o16 - o24)))))))
theorem bX10_stepsOf_45 {C : zCtx} (X : zFx C cX10_stepsOf 3 RX10 rmX10_stepsOf (some .int)) {aO : Nat → Nat} {aP : Nat → Nat} {aB : Nat → Nat} {aH : Nat → Nat} {sO : zSt} {sP : zSt} {y0 : Int32} {out : Int32} (hQ : zHi C out [] 0 0) (h : fX10_stepsOf_45 sO sP y0 = some out) : zG C 3 [] 0 0 [wX10 (zcT C) aO (aP 0) (aB 0) (aH 0) sO, wX5 (zcT C) aP sP] 45 [] [.int y0] := by
  unfold fX10_stepsOf_45 at h
  cases h
  exact z_iret X hQ dX10_stepsOf_45 rfl [] rfl (by decide) (by decide)
theorem bX10_stepsOf_32 {C : zCtx} (X : zFx C cX10_stepsOf 3 RX10 rmX10_stepsOf (some .int)) {aO : Nat → Nat} {aP : Nat → Nat} {aB : Nat → Nat} {aH : Nat → Nat} {sO : zSt} {sP : zSt} {y0 : Int32} {out : Int32} (hQ : zHi C out [] 0 0) (h : fX10_stepsOf_32 sO sP y0 = some out) : zG C 3 [] 0 0 [wX10 (zcT C) aO (aP 0) (aB 0) (aH 0) sO, wX5 (zcT C) aP sP] 32 [] [.int y0] := by
  unfold fX10_stepsOf_32 at h
  refine z_istore_n (lv2 := [(2, .int y0)]) X dX10_stepsOf_32 rfl (by decide) rfl ?_
  refine z_iload_n X dX10_stepsOf_33 0 rfl ?_
  refine z_bipush (v := (6 : Int32)) X dX10_stepsOf_34 rfl ?_
  refine z_icmp_ge (tgt := 43) X dX10_stepsOf_36 (by decide) (fun c36 => ?_) (fun c36 => ?_)
  · replace h := zif_t h c36
    refine z_bipush (v := (6 : Int32)) X dX10_stepsOf_43 rfl ?_
    exact z_at (pc2 := 45) (lv2 := []) (st2 := [.int (6 : Int32)]) (ws2 := [wX10 (zcT C) aO (aP 0) (aB 0) (aH 0) sO, wX5 (zcT C) aP sP]) rfl rfl rfl [] rfl (bX10_stepsOf_45 X hQ  h)
  · replace h := zif_f h c36
    refine z_iload_n X dX10_stepsOf_39 0 rfl ?_
    refine z_goto (tgt := 45) X dX10_stepsOf_40 (by decide) ?_
    exact z_at (pc2 := 45) (lv2 := []) (st2 := [.int y0]) (ws2 := [wX10 (zcT C) aO (aP 0) (aB 0) (aH 0) sO, wX5 (zcT C) aP sP]) rfl rfl rfl [] rfl (bX10_stepsOf_45 X hQ  h)
theorem bX10_stepsOf_0 {C : zCtx} (X : zFx C cX10_stepsOf 3 RX10 rmX10_stepsOf (some .int)) {aO : Nat → Nat} {aP : Nat → Nat} {aB : Nat → Nat} {aH : Nat → Nat} {sO : zSt} {sP : zSt} {x1 : Int32} {out : Int32} (hQ : zHi C out [] 0 0) (h : fX10_stepsOf sO sP x1 = some out) : zG C 3 [] 0 0 [wX10 (zcT C) aO (aP 0) (aB 0) (aH 0) sO, wX5 (zcT C) aP sP] 0 [(0, .ref (aO 0)), (1, .int x1)] [] := by
  unfold fX10_stepsOf at h
  refine z_iload_n X dX10_stepsOf_0 1 rfl ?_
  refine z_aload_n X dX10_stepsOf_1 0 rfl ?_
  refine z_get (v := .ref (aP 0)) X 0 0 11 0 ziX10 rfl (by decide) zw336 rfl dX10_stepsOf_2 rfl rfl rfl ?_
  refine z_getN (v := .int (zgi sP 8)) X 1 0 6 8 ziX5 rfl (by decide) zw58 rfl dX10_stepsOf_5 rfl rfl rfl ?_
  refine z_icmp_ge (tgt := 31) X dX10_stepsOf_8 (by decide) (fun c8 => ?_) (fun c8 => ?_)
  · replace h := zif_t h c8
    refine z_iconst (v := (0 : Int32)) X dX10_stepsOf_31 rfl ?_
    exact z_at (pc2 := 32) (lv2 := []) (st2 := [.int (0 : Int32)]) (ws2 := [wX10 (zcT C) aO (aP 0) (aB 0) (aH 0) sO, wX5 (zcT C) aP sP]) rfl rfl rfl [] rfl (bX10_stepsOf_32 X hQ  h)
  · replace h := zif_f h c8
    refine z_aload_n X dX10_stepsOf_11 0 rfl ?_
    refine z_get (v := .ref (aP 0)) X 0 0 11 0 ziX10 rfl (by decide) zw336 rfl dX10_stepsOf_12 rfl rfl rfl ?_
    refine z_iload_n X dX10_stepsOf_15 1 rfl ?_
    obtain ⟨o16, ho16, h⟩ := zbind_of h
    refine z_callVi (st := []) (ws2 := [wX10 (zcT C) aO (aP 0) (aB 0) (aH 0) sO, wX5 (zcT C) aP sP]) X (metX5_greatestOf (zcl C) (zcD C) (zcT C) aP ho16) zmX5_greatestOf zw1266 dX10_stepsOf_16 1 0 6 rfl rfl rfl rfl [1] rfl rfl [] rfl (by decide) trivial rfl rfl rfl (Nat.le_of_ble_eq_true rfl) rfl rfl ⟨Nat.le_of_ble_eq_true rfl, Nat.le_of_ble_eq_true rfl⟩ ⟨Nat.le_of_ble_eq_true rfl, Nat.le_of_ble_eq_true rfl⟩ ?_
    refine z_aload_n X dX10_stepsOf_19 0 rfl ?_
    refine z_get (v := .ref (aP 0)) X 0 0 11 0 ziX10 rfl (by decide) zw336 rfl dX10_stepsOf_20 rfl rfl rfl ?_
    refine z_iload_n X dX10_stepsOf_23 1 rfl ?_
    obtain ⟨o24, ho24, h⟩ := zbind_of h
    refine z_callVi (st := [.int o16]) (ws2 := [wX10 (zcT C) aO (aP 0) (aB 0) (aH 0) sO, wX5 (zcT C) aP sP]) X (metX5_leastOf (zcl C) (zcD C) (zcT C) aP ho24) zmX5_leastOf zw1267 dX10_stepsOf_24 1 0 6 rfl rfl rfl rfl [1] rfl rfl [] rfl (by decide) trivial rfl rfl rfl (Nat.le_of_ble_eq_true rfl) rfl rfl ⟨Nat.le_of_ble_eq_true rfl, Nat.le_of_ble_eq_true rfl⟩ ⟨Nat.le_of_ble_eq_true rfl, Nat.le_of_ble_eq_true rfl⟩ ?_
    refine z_isub X dX10_stepsOf_27 ?_
    refine z_goto (tgt := 32) X dX10_stepsOf_28 (by decide) ?_
    exact z_at (pc2 := 32) (lv2 := []) (st2 := [.int (o16 - o24)]) (ws2 := [wX10 (zcT C) aO (aP 0) (aB 0) (aH 0) sO, wX5 (zcT C) aP sP]) rfl rfl rfl [] rfl (bX10_stepsOf_32 X hQ  h)
theorem metX10_stepsOf (l : Launch) (D : va_G) (T : Nat → ClassId) (aO : Nat → Nat) (aP : Nat → Nat) (aB : Nat → Nat) (aH : Nat → Nat) {sO : zSt} {sP : zSt} {x1 : Int32} {out : Int32} (hf : fX10_stepsOf sO sP x1 = some out) (sz : Nat) : Met l yX10_stepsOf (zws yX10_stepsOf cX10_stepsOf 3 (some .int)) rmX10_stepsOf (zPc D T [.ref (aO 0), .int x1] [wX10 T aO (aP 0) (aB 0) (aH 0) sO, wX5 T aP sP] sz) (zQi D out [] (zA [] sz)) 0 0 (zA [] sz) :=
  zMet (D := D) (T := T) (av := [.ref (aO 0), .int x1]) (ws := fun T => [wX10 T aO (aP 0) (aB 0) (aH 0) sO, wX5 T aP sP]) (wm := fun T => []) (lv0 := [(0, .ref (aO 0)), (1, .int x1)]) [] (Qc := fun D T A => zQi D out [] A) (by decide +kernel) rfl (Nat.le_of_ble_eq_true rfl) rfl (fun C X hQ => bX10_stepsOf_0 X hQ hf) sz
/-- private void lookAt(); of Tableaufloor$WholePoints -/
abbrev rmX10_lookAt : Room := { frames := 4, cells := 0, slots := 0, locals := 88 }
def fX10_lookAt_57 (sP : zSt) (sH : zSt) (sO : zSt) (sB : zSt) : Option (zSt × zSt) :=
  some (sO, sB)
def fX10_lookAt_41 (sP : zSt) (sH : zSt) (sO : zSt) (sB : zSt) : Option (zSt × zSt) :=
  ((fX4_copy sB sH).bind (fun o49 =>
    (zlet (zsi sO 3 (1 : Int32)) (fun sO54 =>
    (fX10_lookAt_57 sP sH sO54 o49)))))
def fX10_lookAt (sO : zSt) (sP : zSt) (sB : zSt) (sH : zSt) : Option (zSt × zSt) :=
  ((fX5_breakerOf sP sH).bind (fun o8 =>
    (if o8 = (100 : Int32) then
    (if (zgi sO 3) = 0 then
      (fX10_lookAt_41 sP sH sO sB)
    else
      ((fX5_compareByAims sP sH sB).bind (fun o35 =>
        (if o35 ≤ 0 then
        (fX10_lookAt_57 sP sH sO sB)
      else
        (fX10_lookAt_41 sP sH sO sB)))))
  else
    (fX10_lookAt_57 sP sH sO sB))))
theorem bX10_lookAt_57 {C : zCtx} (X : zFx C cX10_lookAt 1 RX10 rmX10_lookAt none) {aO : Nat → Nat} {aP : Nat → Nat} {aB : Nat → Nat} {aH : Nat → Nat} {sP : zSt} {sH : zSt} {sO : zSt} {sB : zSt} {out : zSt × zSt} (hQ : zHv C [wX10 (zcT C) aO (aP 0) (aB 0) (aH 0) out.1, wX4 (zcT C) aB out.2] 0 0) (h : fX10_lookAt_57 sP sH sO sB = some out) : zG C 1 [0, 2] 0 0 [wX10 (zcT C) aO (aP 0) (aB 0) (aH 0) sO, wX5 (zcT C) aP sP, wX4 (zcT C) aB sB, wX4 (zcT C) aH sH] 57 [] [] := by
  unfold fX10_lookAt_57 at h
  cases h
  exact z_vret X hQ dX10_lookAt_57 [0, 2] rfl (by decide) (by decide)
theorem bX10_lookAt_41 {C : zCtx} (X : zFx C cX10_lookAt 1 RX10 rmX10_lookAt none) {aO : Nat → Nat} {aP : Nat → Nat} {aB : Nat → Nat} {aH : Nat → Nat} {sP : zSt} {sH : zSt} {sO : zSt} {sB : zSt} {out : zSt × zSt} (hQ : zHv C [wX10 (zcT C) aO (aP 0) (aB 0) (aH 0) out.1, wX4 (zcT C) aB out.2] 0 0) (h : fX10_lookAt_41 sP sH sO sB = some out) : zG C 1 [0, 2] 0 0 [wX10 (zcT C) aO (aP 0) (aB 0) (aH 0) sO, wX5 (zcT C) aP sP, wX4 (zcT C) aB sB, wX4 (zcT C) aH sH] 41 [(0, .ref (aO 0))] [] := by
  unfold fX10_lookAt_41 at h
  refine z_aload_n X dX10_lookAt_41 0 rfl ?_
  refine z_get (v := .ref (aB 0)) X 0 0 11 1 ziX10 rfl (by decide) zw337 rfl dX10_lookAt_42 rfl rfl rfl ?_
  refine z_aload_n X dX10_lookAt_45 0 rfl ?_
  refine z_get (v := .ref (aH 0)) X 0 0 11 2 ziX10 rfl (by decide) zw339 rfl dX10_lookAt_46 rfl rfl rfl ?_
  obtain ⟨o49, ho49, h⟩ := zbind_of h
  refine z_callVv (st := []) (ws2 := [wX10 (zcT C) aO (aP 0) (aB 0) (aH 0) sO, wX5 (zcT C) aP sP, wX4 (zcT C) aB o49, wX4 (zcT C) aH sH]) X (metX4_copy (zcl C) (zcD C) (zcT C) aB aH ho49) zmX4_copy zw1275 dX10_lookAt_49 2 0 5 rfl rfl rfl rfl [2, 3] rfl rfl [2] rfl (by decide) ⟨zsX4 , trivial⟩ rfl rfl rfl (Nat.le_of_ble_eq_true rfl) rfl rfl ⟨Nat.le_of_ble_eq_true rfl, Nat.le_of_ble_eq_true rfl⟩ ⟨Nat.le_of_ble_eq_true rfl, Nat.le_of_ble_eq_true rfl⟩ ?_
  refine z_aload_n X dX10_lookAt_52 0 rfl ?_
  refine z_iconst (v := (1 : Int32)) X dX10_lookAt_53 rfl ?_
  obtain ⟨sO54, esO54, h⟩ := zlet_of h
  refine z_put (ws2 := [wX10 (zcT C) aO (aP 0) (aB 0) (aH 0) sO54, wX5 (zcT C) aP sP, wX4 (zcT C) aB o49, wX4 (zcT C) aH sH]) X 0 0 11 3 ziX10 rfl tyX10 tyX10_ok nmX10 (by decide) zw340 rfl rfl (ty := .boolean) (by decide +kernel) rfl rfl (by show 3 < 5; decide) dX10_lookAt_54 rfl rfl (by decide) (w2 := wX10 (zcT C) aO (aP 0) (aB 0) (aH 0) sO54) (by rw [esO54]; rfl) rfl ?_
  exact z_at (pc2 := 57) (lv2 := []) (st2 := []) (ws2 := [wX10 (zcT C) aO (aP 0) (aB 0) (aH 0) sO54, wX5 (zcT C) aP sP, wX4 (zcT C) aB o49, wX4 (zcT C) aH sH]) rfl rfl rfl [] rfl (bX10_lookAt_57 X hQ  h)
theorem bX10_lookAt_0 {C : zCtx} (X : zFx C cX10_lookAt 1 RX10 rmX10_lookAt none) {aO : Nat → Nat} {aP : Nat → Nat} {aB : Nat → Nat} {aH : Nat → Nat} {sO : zSt} {sP : zSt} {sB : zSt} {sH : zSt} {out : zSt × zSt} (hQ : zHv C [wX10 (zcT C) aO (aP 0) (aB 0) (aH 0) out.1, wX4 (zcT C) aB out.2] 0 0) (h : fX10_lookAt sO sP sB sH = some out) : zG C 1 [0, 2] 0 0 [wX10 (zcT C) aO (aP 0) (aB 0) (aH 0) sO, wX5 (zcT C) aP sP, wX4 (zcT C) aB sB, wX4 (zcT C) aH sH] 0 [(0, .ref (aO 0))] [] := by
  unfold fX10_lookAt at h
  refine z_aload_n X dX10_lookAt_0 0 rfl ?_
  refine z_get (v := .ref (aP 0)) X 0 0 11 0 ziX10 rfl (by decide) zw336 rfl dX10_lookAt_1 rfl rfl rfl ?_
  refine z_aload_n X dX10_lookAt_4 0 rfl ?_
  refine z_get (v := .ref (aH 0)) X 0 0 11 2 ziX10 rfl (by decide) zw339 rfl dX10_lookAt_5 rfl rfl rfl ?_
  obtain ⟨o8, ho8, h⟩ := zbind_of h
  refine z_callVi (st := []) (ws2 := [wX10 (zcT C) aO (aP 0) (aB 0) (aH 0) sO, wX5 (zcT C) aP sP, wX4 (zcT C) aB sB, wX4 (zcT C) aH sH]) X (metX5_breakerOf (zcl C) (zcD C) (zcT C) aP aH ho8) zmX5_breakerOf zw1273 dX10_lookAt_8 1 0 6 rfl rfl rfl rfl [1, 3] rfl rfl [] rfl (by decide) trivial rfl rfl rfl (Nat.le_of_ble_eq_true rfl) rfl rfl ⟨Nat.le_of_ble_eq_true rfl, Nat.le_of_ble_eq_true rfl⟩ ⟨Nat.le_of_ble_eq_true rfl, Nat.le_of_ble_eq_true rfl⟩ ?_
  refine z_bipush (v := (100 : Int32)) X dX10_lookAt_11 rfl ?_
  refine z_icmp_ne (tgt := 57) X dX10_lookAt_13 (by decide) (fun c13 => ?_) (fun c13 => ?_)
  · replace h := zif_f h c13
    exact z_at (pc2 := 57) (lv2 := []) (st2 := []) (ws2 := [wX10 (zcT C) aO (aP 0) (aB 0) (aH 0) sO, wX5 (zcT C) aP sP, wX4 (zcT C) aB sB, wX4 (zcT C) aH sH]) rfl rfl rfl [] rfl (bX10_lookAt_57 X hQ  h)
  · replace h := zif_t h c13
    refine z_aload_n X dX10_lookAt_16 0 rfl ?_
    refine z_get (v := .int (zgi sO 3)) X 0 0 11 3 ziX10 rfl (by decide) zw340 rfl dX10_lookAt_17 rfl rfl rfl ?_
    refine z_if_eq (tgt := 41) X dX10_lookAt_20 (by decide) (fun c20 => ?_) (fun c20 => ?_)
    · replace h := zif_t h c20
      exact z_at (pc2 := 41) (lv2 := [(0, .ref (aO 0))]) (st2 := []) (ws2 := [wX10 (zcT C) aO (aP 0) (aB 0) (aH 0) sO, wX5 (zcT C) aP sP, wX4 (zcT C) aB sB, wX4 (zcT C) aH sH]) rfl rfl rfl [0] rfl (bX10_lookAt_41 X hQ  h)
    · replace h := zif_f h c20
      refine z_aload_n X dX10_lookAt_23 0 rfl ?_
      refine z_get (v := .ref (aP 0)) X 0 0 11 0 ziX10 rfl (by decide) zw336 rfl dX10_lookAt_24 rfl rfl rfl ?_
      refine z_aload_n X dX10_lookAt_27 0 rfl ?_
      refine z_get (v := .ref (aH 0)) X 0 0 11 2 ziX10 rfl (by decide) zw339 rfl dX10_lookAt_28 rfl rfl rfl ?_
      refine z_aload_n X dX10_lookAt_31 0 rfl ?_
      refine z_get (v := .ref (aB 0)) X 0 0 11 1 ziX10 rfl (by decide) zw337 rfl dX10_lookAt_32 rfl rfl rfl ?_
      obtain ⟨o35, ho35, h⟩ := zbind_of h
      refine z_callVi (st := []) (ws2 := [wX10 (zcT C) aO (aP 0) (aB 0) (aH 0) sO, wX5 (zcT C) aP sP, wX4 (zcT C) aB sB, wX4 (zcT C) aH sH]) X (metX5_compareByAims (zcl C) (zcD C) (zcT C) aP aH aB ho35) zmX5_compareByAims zw1274 dX10_lookAt_35 1 0 6 rfl rfl rfl rfl [1, 3, 2] rfl rfl [] rfl (by decide) trivial rfl rfl rfl (Nat.le_of_ble_eq_true rfl) rfl rfl ⟨Nat.le_of_ble_eq_true rfl, Nat.le_of_ble_eq_true rfl⟩ ⟨Nat.le_of_ble_eq_true rfl, Nat.le_of_ble_eq_true rfl⟩ ?_
      refine z_if_le (tgt := 57) X dX10_lookAt_38 (by decide) (fun c38 => ?_) (fun c38 => ?_)
      · replace h := zif_t h c38
        exact z_at (pc2 := 57) (lv2 := []) (st2 := []) (ws2 := [wX10 (zcT C) aO (aP 0) (aB 0) (aH 0) sO, wX5 (zcT C) aP sP, wX4 (zcT C) aB sB, wX4 (zcT C) aH sH]) rfl rfl rfl [] rfl (bX10_lookAt_57 X hQ  h)
      · replace h := zif_f h c38
        exact z_at (pc2 := 41) (lv2 := [(0, .ref (aO 0))]) (st2 := []) (ws2 := [wX10 (zcT C) aO (aP 0) (aB 0) (aH 0) sO, wX5 (zcT C) aP sP, wX4 (zcT C) aB sB, wX4 (zcT C) aH sH]) rfl rfl rfl [0] rfl (bX10_lookAt_41 X hQ  h)
theorem metX10_lookAt (l : Launch) (D : va_G) (T : Nat → ClassId) (aO : Nat → Nat) (aP : Nat → Nat) (aB : Nat → Nat) (aH : Nat → Nat) {sO : zSt} {sP : zSt} {sB : zSt} {sH : zSt} {out : zSt × zSt} (hf : fX10_lookAt sO sP sB sH = some out) (sz : Nat) : Met l yX10_lookAt (zws yX10_lookAt cX10_lookAt 1 none) rmX10_lookAt (zPc D T [.ref (aO 0)] [wX10 T aO (aP 0) (aB 0) (aH 0) sO, wX5 T aP sP, wX4 T aB sB, wX4 T aH sH] sz) (zQv D [wX10 T aO (aP 0) (aB 0) (aH 0) out.1, wX4 T aB out.2] (zA [wX10 T aO (aP 0) (aB 0) (aH 0) sO, wX4 T aB sB] sz)) 0 0 (zA [wX10 T aO (aP 0) (aB 0) (aH 0) sO, wX4 T aB sB] sz) :=
  zMet (D := D) (T := T) (av := [.ref (aO 0)]) (ws := fun T => [wX10 T aO (aP 0) (aB 0) (aH 0) sO, wX5 T aP sP, wX4 T aB sB, wX4 T aH sH]) (wm := fun T => [wX10 T aO (aP 0) (aB 0) (aH 0) sO, wX4 T aB sB]) (lv0 := [(0, .ref (aO 0))]) [0, 2] (Qc := fun D T A => zQv D [wX10 T aO (aP 0) (aB 0) (aH 0) out.1, wX4 T aB out.2] A) (by decide +kernel) rfl (Nat.le_of_ble_eq_true rfl) rfl (fun C X hQ => bX10_lookAt_0 X hQ hf) sz
/-- void look(); of Tableaufloor$WholePoints -/
abbrev rmX10_look : Room := { frames := 5, cells := 0, slots := 0, locals := 108 }
def fX10_look_56 (sP : zSt) (k34 : zSt → zSt → zSt → Int32 → Option (zSt × zSt × zSt)) (k45 : zSt → zSt → zSt → Int32 → Int32 → Option (zSt × zSt × zSt)) : Nat → zSt → zSt → zSt → Int32 → Int32 → Int32 → Option (zSt × zSt × zSt)
  | 0, _, _, _, _, _, _ => none
  | n + 1, sO, sB, sH, x1, x2, x3 =>
    ((fX10_stepsOf sO sP (2 : Int32)).bind (fun o59 =>
      (if o59 < x3 then
      (zlet (x2 + 1) (fun v132 =>
        (k45 sO sB sH x1 v132)))
    else
      ((fX5_leastOf sP (0 : Int32)).bind (fun o75 =>
        ((fX4_putTop sH (0 : Int32) (((o75 + x1)).toInt64)).bind (fun o81 =>
        ((fX5_leastOf sP (1 : Int32)).bind (fun o94 =>
        ((fX4_putTop o81 (1 : Int32) (((o94 + x2)).toInt64)).bind (fun o100 =>
        ((fX5_leastOf sP (2 : Int32)).bind (fun o113 =>
        ((fX4_putTop o100 (2 : Int32) (((o113 + x3)).toInt64)).bind (fun o119 =>
        ((fX10_lookAt sO sP sB o119).bind (fun o123 =>
        (zlet (x3 + 1) (fun v126 =>
        (fX10_look_56 sP k34 k45 n o123.1 o123.2 o119 x1 x2 v126))))))))))))))))))))
def fX10_look_45 (sP : zSt) (k34 : zSt → zSt → zSt → Int32 → Option (zSt × zSt × zSt)) : Nat → zSt → zSt → zSt → Int32 → Int32 → Option (zSt × zSt × zSt)
  | 0, _, _, _, _, _ => none
  | n + 1, sO, sB, sH, x1, x2 =>
    ((fX10_stepsOf sO sP (1 : Int32)).bind (fun o48 =>
      (if o48 < x2 then
      (zlet (x1 + 1) (fun v138 =>
        (k34 sO sB sH v138)))
    else
      (fX10_look_56 sP k34 (fX10_look_45 sP k34 n) 6000 sO sB sH x1 x2 (0 : Int32)))))
def fX10_look_34 (sP : zSt) : Nat → zSt → zSt → zSt → Int32 → Option (zSt × zSt × zSt)
  | 0, _, _, _, _ => none
  | n + 1, sO, sB, sH, x1 =>
    ((fX10_stepsOf sO sP (0 : Int32)).bind (fun o37 =>
      (if o37 < x1 then
      some (sO, sB, sH)
    else
      (fX10_look_45 sP (fX10_look_34 sP n) 6000 sO sB sH x1 (0 : Int32)))))
def fX10_look (sO : zSt) (sP : zSt) (sB : zSt) (sH : zSt) : Option (zSt × zSt × zSt) :=
  (if (zgi sO 4) = 0 then
    (zlet (zsi sO 4 (1 : Int32)) (fun sO10 =>
      (zlet (zsi sO10 3 (0 : Int32)) (fun sO15 =>
      (zlet (zsi sH 2 (zgi sP 8)) (fun sH29 =>
      (fX10_look_34 sP 6000 sO15 sB sH29 (0 : Int32))))))))
  else
    some (sO, sB, sH))
theorem bX10_look_56 {C : zCtx} (X : zFx C cX10_look 4 RX10 rmX10_look none) {aO : Nat → Nat} {aP : Nat → Nat} {aB : Nat → Nat} {aH : Nat → Nat} {sP : zSt} {k34 : zSt → zSt → zSt → Int32 → Option (zSt × zSt × zSt)} {k45 : zSt → zSt → zSt → Int32 → Int32 → Option (zSt × zSt × zSt)} {out : zSt × zSt × zSt} (hQ : zHv C [wX10 (zcT C) aO (aP 0) (aB 0) (aH 0) out.1, wX4 (zcT C) aB out.2.1, wX4 (zcT C) aH out.2.2] 0 0) (hk34 : ∀ (sO : zSt) (sB : zSt) (sH : zSt) (x1 : Int32), k34 sO sB sH x1 = some out → zG C 4 [0, 2, 3] 0 0 [wX10 (zcT C) aO (aP 0) (aB 0) (aH 0) sO, wX5 (zcT C) aP sP, wX4 (zcT C) aB sB, wX4 (zcT C) aH sH] 34 [(0, .ref (aO 0)), (1, .int x1)] []) (hk45 : ∀ (sO : zSt) (sB : zSt) (sH : zSt) (x1 : Int32) (x2 : Int32), k45 sO sB sH x1 x2 = some out → zG C 4 [0, 2, 3] 0 0 [wX10 (zcT C) aO (aP 0) (aB 0) (aH 0) sO, wX5 (zcT C) aP sP, wX4 (zcT C) aB sB, wX4 (zcT C) aH sH] 45 [(0, .ref (aO 0)), (1, .int x1), (2, .int x2)] []) : ∀ (n : Nat) (sO : zSt) (sB : zSt) (sH : zSt) (x1 : Int32) (x2 : Int32) (x3 : Int32), fX10_look_56 sP k34 k45 n sO sB sH x1 x2 x3 = some out → zG C 4 [0, 2, 3] 0 0 [wX10 (zcT C) aO (aP 0) (aB 0) (aH 0) sO, wX5 (zcT C) aP sP, wX4 (zcT C) aB sB, wX4 (zcT C) aH sH] 56 [(0, .ref (aO 0)), (1, .int x1), (2, .int x2), (3, .int x3)] [] := by
  intro n
  induction n with
  | zero =>
    intro sO sB sH x1 x2 x3 h
    rw [fX10_look_56] at h
    exact zno h
  | succ n ih =>
    intro sO sB sH x1 x2 x3 h
    rw [fX10_look_56] at h
    refine z_iload_n X dX10_look_56 3 rfl ?_
    refine z_aload_n X dX10_look_57 0 rfl ?_
    refine z_iconst (v := (2 : Int32)) X dX10_look_58 rfl ?_
    obtain ⟨o59, ho59, h⟩ := zbind_of h
    refine z_callVi (st := [.int x3]) (ws2 := [wX10 (zcT C) aO (aP 0) (aB 0) (aH 0) sO, wX5 (zcT C) aP sP, wX4 (zcT C) aB sB, wX4 (zcT C) aH sH]) X (metX10_stepsOf (zcl C) (zcD C) (zcT C) aO aP aB aH ho59) zmX10_stepsOf zw1262 dX10_look_59 0 0 11 rfl rfl rfl rfl [0, 1] rfl rfl [] rfl (by decide) trivial rfl rfl rfl (Nat.le_of_ble_eq_true rfl) rfl rfl ⟨Nat.le_of_ble_eq_true rfl, Nat.le_of_ble_eq_true rfl⟩ ⟨Nat.le_of_ble_eq_true rfl, Nat.le_of_ble_eq_true rfl⟩ ?_
    refine z_icmp_gt (tgt := 132) X dX10_look_62 (by decide) (fun c62 => ?_) (fun c62 => ?_)
    · replace h := zif_t h c62
      obtain ⟨v132, ev132, h⟩ := zlet_of h
      refine z_iinc (v := v132) (lv2 := [(2, .int v132), (0, .ref (aO 0)), (1, .int x1), (3, .int x3)]) X dX10_look_132 (k := 2) rfl (by rw [ev132]; rfl) (by decide) rfl ?_
      refine z_goto (tgt := 45) X dX10_look_135 (by decide) ?_
      exact z_at (pc2 := 45) (lv2 := [(0, .ref (aO 0)), (1, .int x1), (2, .int v132)]) (st2 := []) (ws2 := [wX10 (zcT C) aO (aP 0) (aB 0) (aH 0) sO, wX5 (zcT C) aP sP, wX4 (zcT C) aB sB, wX4 (zcT C) aH sH]) rfl rfl rfl [1, 2, 0] rfl (hk45 sO sB sH x1 v132 h)
    · replace h := zif_f h c62
      refine z_aload_n X dX10_look_65 0 rfl ?_
      refine z_get (v := .ref (aH 0)) X 0 0 11 2 ziX10 rfl (by decide) zw339 rfl dX10_look_66 rfl rfl rfl ?_
      refine z_iconst (v := (0 : Int32)) X dX10_look_69 rfl ?_
      refine z_aload_n X dX10_look_70 0 rfl ?_
      refine z_get (v := .ref (aP 0)) X 0 0 11 0 ziX10 rfl (by decide) zw336 rfl dX10_look_71 rfl rfl rfl ?_
      refine z_iconst (v := (0 : Int32)) X dX10_look_74 rfl ?_
      obtain ⟨o75, ho75, h⟩ := zbind_of h
      refine z_callVi (st := [.int (0 : Int32), .ref (aH 0)]) (ws2 := [wX10 (zcT C) aO (aP 0) (aB 0) (aH 0) sO, wX5 (zcT C) aP sP, wX4 (zcT C) aB sB, wX4 (zcT C) aH sH]) X (metX5_leastOf (zcl C) (zcD C) (zcT C) aP ho75) zmX5_leastOf zw1267 dX10_look_75 1 0 6 rfl rfl rfl rfl [1] rfl rfl [] rfl (by decide) trivial rfl rfl rfl (Nat.le_of_ble_eq_true rfl) rfl rfl ⟨Nat.le_of_ble_eq_true rfl, Nat.le_of_ble_eq_true rfl⟩ ⟨Nat.le_of_ble_eq_true rfl, Nat.le_of_ble_eq_true rfl⟩ ?_
      refine z_iload_n X dX10_look_78 1 rfl ?_
      refine z_iadd X dX10_look_79 ?_
      refine z_i2l X dX10_look_80 ?_
      obtain ⟨o81, ho81, h⟩ := zbind_of h
      refine z_callVv (st := []) (ws2 := [wX10 (zcT C) aO (aP 0) (aB 0) (aH 0) sO, wX5 (zcT C) aP sP, wX4 (zcT C) aB sB, wX4 (zcT C) aH o81]) X (metX4_putTop (zcl C) (zcD C) (zcT C) aH ho81) zmX4_putTop zw1268 dX10_look_81 3 0 5 rfl rfl rfl rfl [3] rfl rfl [3] rfl (by decide) ⟨zsX4 , trivial⟩ rfl rfl rfl (Nat.le_of_ble_eq_true rfl) rfl rfl ⟨Nat.le_of_ble_eq_true rfl, Nat.le_of_ble_eq_true rfl⟩ ⟨Nat.le_of_ble_eq_true rfl, Nat.le_of_ble_eq_true rfl⟩ ?_
      refine z_aload_n X dX10_look_84 0 rfl ?_
      refine z_get (v := .ref (aH 0)) X 0 0 11 2 ziX10 rfl (by decide) zw339 rfl dX10_look_85 rfl rfl rfl ?_
      refine z_iconst (v := (1 : Int32)) X dX10_look_88 rfl ?_
      refine z_aload_n X dX10_look_89 0 rfl ?_
      refine z_get (v := .ref (aP 0)) X 0 0 11 0 ziX10 rfl (by decide) zw336 rfl dX10_look_90 rfl rfl rfl ?_
      refine z_iconst (v := (1 : Int32)) X dX10_look_93 rfl ?_
      obtain ⟨o94, ho94, h⟩ := zbind_of h
      refine z_callVi (st := [.int (1 : Int32), .ref (aH 0)]) (ws2 := [wX10 (zcT C) aO (aP 0) (aB 0) (aH 0) sO, wX5 (zcT C) aP sP, wX4 (zcT C) aB sB, wX4 (zcT C) aH o81]) X (metX5_leastOf (zcl C) (zcD C) (zcT C) aP ho94) zmX5_leastOf zw1267 dX10_look_94 1 0 6 rfl rfl rfl rfl [1] rfl rfl [] rfl (by decide) trivial rfl rfl rfl (Nat.le_of_ble_eq_true rfl) rfl rfl ⟨Nat.le_of_ble_eq_true rfl, Nat.le_of_ble_eq_true rfl⟩ ⟨Nat.le_of_ble_eq_true rfl, Nat.le_of_ble_eq_true rfl⟩ ?_
      refine z_iload_n X dX10_look_97 2 rfl ?_
      refine z_iadd X dX10_look_98 ?_
      refine z_i2l X dX10_look_99 ?_
      obtain ⟨o100, ho100, h⟩ := zbind_of h
      refine z_callVv (st := []) (ws2 := [wX10 (zcT C) aO (aP 0) (aB 0) (aH 0) sO, wX5 (zcT C) aP sP, wX4 (zcT C) aB sB, wX4 (zcT C) aH o100]) X (metX4_putTop (zcl C) (zcD C) (zcT C) aH ho100) zmX4_putTop zw1268 dX10_look_100 3 0 5 rfl rfl rfl rfl [3] rfl rfl [3] rfl (by decide) ⟨zsX4 , trivial⟩ rfl rfl rfl (Nat.le_of_ble_eq_true rfl) rfl rfl ⟨Nat.le_of_ble_eq_true rfl, Nat.le_of_ble_eq_true rfl⟩ ⟨Nat.le_of_ble_eq_true rfl, Nat.le_of_ble_eq_true rfl⟩ ?_
      refine z_aload_n X dX10_look_103 0 rfl ?_
      refine z_get (v := .ref (aH 0)) X 0 0 11 2 ziX10 rfl (by decide) zw339 rfl dX10_look_104 rfl rfl rfl ?_
      refine z_iconst (v := (2 : Int32)) X dX10_look_107 rfl ?_
      refine z_aload_n X dX10_look_108 0 rfl ?_
      refine z_get (v := .ref (aP 0)) X 0 0 11 0 ziX10 rfl (by decide) zw336 rfl dX10_look_109 rfl rfl rfl ?_
      refine z_iconst (v := (2 : Int32)) X dX10_look_112 rfl ?_
      obtain ⟨o113, ho113, h⟩ := zbind_of h
      refine z_callVi (st := [.int (2 : Int32), .ref (aH 0)]) (ws2 := [wX10 (zcT C) aO (aP 0) (aB 0) (aH 0) sO, wX5 (zcT C) aP sP, wX4 (zcT C) aB sB, wX4 (zcT C) aH o100]) X (metX5_leastOf (zcl C) (zcD C) (zcT C) aP ho113) zmX5_leastOf zw1267 dX10_look_113 1 0 6 rfl rfl rfl rfl [1] rfl rfl [] rfl (by decide) trivial rfl rfl rfl (Nat.le_of_ble_eq_true rfl) rfl rfl ⟨Nat.le_of_ble_eq_true rfl, Nat.le_of_ble_eq_true rfl⟩ ⟨Nat.le_of_ble_eq_true rfl, Nat.le_of_ble_eq_true rfl⟩ ?_
      refine z_iload_n X dX10_look_116 3 rfl ?_
      refine z_iadd X dX10_look_117 ?_
      refine z_i2l X dX10_look_118 ?_
      obtain ⟨o119, ho119, h⟩ := zbind_of h
      refine z_callVv (st := []) (ws2 := [wX10 (zcT C) aO (aP 0) (aB 0) (aH 0) sO, wX5 (zcT C) aP sP, wX4 (zcT C) aB sB, wX4 (zcT C) aH o119]) X (metX4_putTop (zcl C) (zcD C) (zcT C) aH ho119) zmX4_putTop zw1268 dX10_look_119 3 0 5 rfl rfl rfl rfl [3] rfl rfl [3] rfl (by decide) ⟨zsX4 , trivial⟩ rfl rfl rfl (Nat.le_of_ble_eq_true rfl) rfl rfl ⟨Nat.le_of_ble_eq_true rfl, Nat.le_of_ble_eq_true rfl⟩ ⟨Nat.le_of_ble_eq_true rfl, Nat.le_of_ble_eq_true rfl⟩ ?_
      refine z_aload_n X dX10_look_122 0 rfl ?_
      obtain ⟨o123, ho123, h⟩ := zbind_of h
      refine z_callVv (st := []) (ws2 := [wX10 (zcT C) aO (aP 0) (aB 0) (aH 0) o123.1, wX5 (zcT C) aP sP, wX4 (zcT C) aB o123.2, wX4 (zcT C) aH o119]) X (metX10_lookAt (zcl C) (zcD C) (zcT C) aO aP aB aH ho123) zmX10_lookAt zw1269 dX10_look_123 0 0 11 rfl rfl rfl rfl [0, 1, 2, 3] rfl rfl [0, 2] rfl (by decide) ⟨zsX10 , ⟨zsX4 , trivial⟩⟩ rfl rfl rfl (Nat.le_of_ble_eq_true rfl) rfl rfl ⟨Nat.le_of_ble_eq_true rfl, Nat.le_of_ble_eq_true rfl⟩ ⟨Nat.le_of_ble_eq_true rfl, Nat.le_of_ble_eq_true rfl⟩ ?_
      obtain ⟨v126, ev126, h⟩ := zlet_of h
      refine z_iinc (v := v126) (lv2 := [(3, .int v126), (0, .ref (aO 0)), (1, .int x1), (2, .int x2)]) X dX10_look_126 (k := 3) rfl (by rw [ev126]; rfl) (by decide) rfl ?_
      refine z_goto (tgt := 56) X dX10_look_129 (by decide) ?_
      exact z_at (pc2 := 56) (lv2 := [(0, .ref (aO 0)), (1, .int x1), (2, .int x2), (3, .int v126)]) (st2 := []) (ws2 := [wX10 (zcT C) aO (aP 0) (aB 0) (aH 0) o123.1, wX5 (zcT C) aP sP, wX4 (zcT C) aB o123.2, wX4 (zcT C) aH o119]) rfl rfl rfl [1, 2, 3, 0] rfl (ih o123.1 o123.2 o119 x1 x2 v126 h)
theorem bX10_look_45 {C : zCtx} (X : zFx C cX10_look 4 RX10 rmX10_look none) {aO : Nat → Nat} {aP : Nat → Nat} {aB : Nat → Nat} {aH : Nat → Nat} {sP : zSt} {k34 : zSt → zSt → zSt → Int32 → Option (zSt × zSt × zSt)} {out : zSt × zSt × zSt} (hQ : zHv C [wX10 (zcT C) aO (aP 0) (aB 0) (aH 0) out.1, wX4 (zcT C) aB out.2.1, wX4 (zcT C) aH out.2.2] 0 0) (hk34 : ∀ (sO : zSt) (sB : zSt) (sH : zSt) (x1 : Int32), k34 sO sB sH x1 = some out → zG C 4 [0, 2, 3] 0 0 [wX10 (zcT C) aO (aP 0) (aB 0) (aH 0) sO, wX5 (zcT C) aP sP, wX4 (zcT C) aB sB, wX4 (zcT C) aH sH] 34 [(0, .ref (aO 0)), (1, .int x1)] []) : ∀ (n : Nat) (sO : zSt) (sB : zSt) (sH : zSt) (x1 : Int32) (x2 : Int32), fX10_look_45 sP k34 n sO sB sH x1 x2 = some out → zG C 4 [0, 2, 3] 0 0 [wX10 (zcT C) aO (aP 0) (aB 0) (aH 0) sO, wX5 (zcT C) aP sP, wX4 (zcT C) aB sB, wX4 (zcT C) aH sH] 45 [(0, .ref (aO 0)), (1, .int x1), (2, .int x2)] [] := by
  intro n
  induction n with
  | zero =>
    intro sO sB sH x1 x2 h
    rw [fX10_look_45] at h
    exact zno h
  | succ n ih =>
    intro sO sB sH x1 x2 h
    rw [fX10_look_45] at h
    refine z_iload_n X dX10_look_45 2 rfl ?_
    refine z_aload_n X dX10_look_46 0 rfl ?_
    refine z_iconst (v := (1 : Int32)) X dX10_look_47 rfl ?_
    obtain ⟨o48, ho48, h⟩ := zbind_of h
    refine z_callVi (st := [.int x2]) (ws2 := [wX10 (zcT C) aO (aP 0) (aB 0) (aH 0) sO, wX5 (zcT C) aP sP, wX4 (zcT C) aB sB, wX4 (zcT C) aH sH]) X (metX10_stepsOf (zcl C) (zcD C) (zcT C) aO aP aB aH ho48) zmX10_stepsOf zw1262 dX10_look_48 0 0 11 rfl rfl rfl rfl [0, 1] rfl rfl [] rfl (by decide) trivial rfl rfl rfl (Nat.le_of_ble_eq_true rfl) rfl rfl ⟨Nat.le_of_ble_eq_true rfl, Nat.le_of_ble_eq_true rfl⟩ ⟨Nat.le_of_ble_eq_true rfl, Nat.le_of_ble_eq_true rfl⟩ ?_
    refine z_icmp_gt (tgt := 138) X dX10_look_51 (by decide) (fun c51 => ?_) (fun c51 => ?_)
    · replace h := zif_t h c51
      obtain ⟨v138, ev138, h⟩ := zlet_of h
      refine z_iinc (v := v138) (lv2 := [(1, .int v138), (0, .ref (aO 0)), (2, .int x2)]) X dX10_look_138 (k := 1) rfl (by rw [ev138]; rfl) (by decide) rfl ?_
      refine z_goto (tgt := 34) X dX10_look_141 (by decide) ?_
      exact z_at (pc2 := 34) (lv2 := [(0, .ref (aO 0)), (1, .int v138)]) (st2 := []) (ws2 := [wX10 (zcT C) aO (aP 0) (aB 0) (aH 0) sO, wX5 (zcT C) aP sP, wX4 (zcT C) aB sB, wX4 (zcT C) aH sH]) rfl rfl rfl [1, 0] rfl (hk34 sO sB sH v138 h)
    · replace h := zif_f h c51
      refine z_iconst (v := (0 : Int32)) X dX10_look_54 rfl ?_
      refine z_istore_n (lv2 := [(3, .int (0 : Int32)), (0, .ref (aO 0)), (1, .int x1), (2, .int x2)]) X dX10_look_55 rfl (by decide) rfl ?_
      exact z_at (pc2 := 56) (lv2 := [(0, .ref (aO 0)), (1, .int x1), (2, .int x2), (3, .int (0 : Int32))]) (st2 := []) (ws2 := [wX10 (zcT C) aO (aP 0) (aB 0) (aH 0) sO, wX5 (zcT C) aP sP, wX4 (zcT C) aB sB, wX4 (zcT C) aH sH]) rfl rfl rfl [1, 2, 3, 0] rfl (bX10_look_56 X hQ hk34 ih 6000 sO sB sH x1 x2 (0 : Int32) h)
theorem bX10_look_34 {C : zCtx} (X : zFx C cX10_look 4 RX10 rmX10_look none) {aO : Nat → Nat} {aP : Nat → Nat} {aB : Nat → Nat} {aH : Nat → Nat} {sP : zSt} {out : zSt × zSt × zSt} (hQ : zHv C [wX10 (zcT C) aO (aP 0) (aB 0) (aH 0) out.1, wX4 (zcT C) aB out.2.1, wX4 (zcT C) aH out.2.2] 0 0) : ∀ (n : Nat) (sO : zSt) (sB : zSt) (sH : zSt) (x1 : Int32), fX10_look_34 sP n sO sB sH x1 = some out → zG C 4 [0, 2, 3] 0 0 [wX10 (zcT C) aO (aP 0) (aB 0) (aH 0) sO, wX5 (zcT C) aP sP, wX4 (zcT C) aB sB, wX4 (zcT C) aH sH] 34 [(0, .ref (aO 0)), (1, .int x1)] [] := by
  intro n
  induction n with
  | zero =>
    intro sO sB sH x1 h
    rw [fX10_look_34] at h
    exact zno h
  | succ n ih =>
    intro sO sB sH x1 h
    rw [fX10_look_34] at h
    refine z_iload_n X dX10_look_34 1 rfl ?_
    refine z_aload_n X dX10_look_35 0 rfl ?_
    refine z_iconst (v := (0 : Int32)) X dX10_look_36 rfl ?_
    obtain ⟨o37, ho37, h⟩ := zbind_of h
    refine z_callVi (st := [.int x1]) (ws2 := [wX10 (zcT C) aO (aP 0) (aB 0) (aH 0) sO, wX5 (zcT C) aP sP, wX4 (zcT C) aB sB, wX4 (zcT C) aH sH]) X (metX10_stepsOf (zcl C) (zcD C) (zcT C) aO aP aB aH ho37) zmX10_stepsOf zw1262 dX10_look_37 0 0 11 rfl rfl rfl rfl [0, 1] rfl rfl [] rfl (by decide) trivial rfl rfl rfl (Nat.le_of_ble_eq_true rfl) rfl rfl ⟨Nat.le_of_ble_eq_true rfl, Nat.le_of_ble_eq_true rfl⟩ ⟨Nat.le_of_ble_eq_true rfl, Nat.le_of_ble_eq_true rfl⟩ ?_
    refine z_icmp_gt (tgt := 144) X dX10_look_40 (by decide) (fun c40 => ?_) (fun c40 => ?_)
    · replace h := zif_t h c40
      cases h
      exact z_vret X hQ dX10_look_144 [0, 2, 3] rfl (by decide) (by decide)
    · replace h := zif_f h c40
      refine z_iconst (v := (0 : Int32)) X dX10_look_43 rfl ?_
      refine z_istore_n (lv2 := [(2, .int (0 : Int32)), (0, .ref (aO 0)), (1, .int x1)]) X dX10_look_44 rfl (by decide) rfl ?_
      exact z_at (pc2 := 45) (lv2 := [(0, .ref (aO 0)), (1, .int x1), (2, .int (0 : Int32))]) (st2 := []) (ws2 := [wX10 (zcT C) aO (aP 0) (aB 0) (aH 0) sO, wX5 (zcT C) aP sP, wX4 (zcT C) aB sB, wX4 (zcT C) aH sH]) rfl rfl rfl [1, 2, 0] rfl (bX10_look_45 X hQ ih 6000 sO sB sH x1 (0 : Int32) h)
theorem bX10_look_0 {C : zCtx} (X : zFx C cX10_look 4 RX10 rmX10_look none) {aO : Nat → Nat} {aP : Nat → Nat} {aB : Nat → Nat} {aH : Nat → Nat} {sO : zSt} {sP : zSt} {sB : zSt} {sH : zSt} {out : zSt × zSt × zSt} (hQ : zHv C [wX10 (zcT C) aO (aP 0) (aB 0) (aH 0) out.1, wX4 (zcT C) aB out.2.1, wX4 (zcT C) aH out.2.2] 0 0) (h : fX10_look sO sP sB sH = some out) : zG C 4 [0, 2, 3] 0 0 [wX10 (zcT C) aO (aP 0) (aB 0) (aH 0) sO, wX5 (zcT C) aP sP, wX4 (zcT C) aB sB, wX4 (zcT C) aH sH] 0 [(0, .ref (aO 0))] [] := by
  unfold fX10_look at h
  refine z_aload_n X dX10_look_0 0 rfl ?_
  refine z_get (v := .int (zgi sO 4)) X 0 0 11 4 ziX10 rfl (by decide) zw342 rfl dX10_look_1 rfl rfl rfl ?_
  refine z_if_eq (tgt := 8) X dX10_look_4 (by decide) (fun c4 => ?_) (fun c4 => ?_)
  · replace h := zif_t h c4
    refine z_aload_n X dX10_look_8 0 rfl ?_
    refine z_iconst (v := (1 : Int32)) X dX10_look_9 rfl ?_
    obtain ⟨sO10, esO10, h⟩ := zlet_of h
    refine z_put (ws2 := [wX10 (zcT C) aO (aP 0) (aB 0) (aH 0) sO10, wX5 (zcT C) aP sP, wX4 (zcT C) aB sB, wX4 (zcT C) aH sH]) X 0 0 11 4 ziX10 rfl tyX10 tyX10_ok nmX10 (by decide) zw342 rfl rfl (ty := .boolean) (by decide +kernel) rfl rfl (by show 4 < 5; decide) dX10_look_10 rfl rfl (by decide) (w2 := wX10 (zcT C) aO (aP 0) (aB 0) (aH 0) sO10) (by rw [esO10]; rfl) rfl ?_
    refine z_aload_n X dX10_look_13 0 rfl ?_
    refine z_iconst (v := (0 : Int32)) X dX10_look_14 rfl ?_
    obtain ⟨sO15, esO15, h⟩ := zlet_of h
    refine z_put (ws2 := [wX10 (zcT C) aO (aP 0) (aB 0) (aH 0) sO15, wX5 (zcT C) aP sP, wX4 (zcT C) aB sB, wX4 (zcT C) aH sH]) X 0 0 11 3 ziX10 rfl tyX10 tyX10_ok nmX10 (by decide) zw340 rfl rfl (ty := .boolean) (by decide +kernel) rfl rfl (by show 3 < 5; decide) dX10_look_15 rfl rfl (by decide) (w2 := wX10 (zcT C) aO (aP 0) (aB 0) (aH 0) sO15) (by rw [esO15]; rfl) rfl ?_
    refine z_aload_n X dX10_look_18 0 rfl ?_
    refine z_get (v := .ref (aH 0)) X 0 0 11 2 ziX10 rfl (by decide) zw339 rfl dX10_look_19 rfl rfl rfl ?_
    refine z_aload_n X dX10_look_22 0 rfl ?_
    refine z_get (v := .ref (aP 0)) X 0 0 11 0 ziX10 rfl (by decide) zw336 rfl dX10_look_23 rfl rfl rfl ?_
    refine z_getN (v := .int (zgi sP 8)) X 1 0 6 8 ziX5 rfl (by decide) zw58 rfl dX10_look_26 rfl rfl rfl ?_
    obtain ⟨sH29, esH29, h⟩ := zlet_of h
    refine z_putN (ws2 := [wX10 (zcT C) aO (aP 0) (aB 0) (aH 0) sO15, wX5 (zcT C) aP sP, wX4 (zcT C) aB sB, wX4 (zcT C) aH sH29]) X 3 0 5 2 ziX4 rfl tyX4 tyX4_ok nmX4 (by decide) zw226 rfl rfl (ty := .int) (by decide +kernel) rfl rfl (by show 2 < 3; decide) dX10_look_29 rfl rfl (by decide) (w2 := wX4 (zcT C) aH sH29) (by rw [esH29]; rfl) rfl ?_
    refine z_iconst (v := (0 : Int32)) X dX10_look_32 rfl ?_
    refine z_istore_n (lv2 := [(1, .int (0 : Int32)), (0, .ref (aO 0))]) X dX10_look_33 rfl (by decide) rfl ?_
    exact z_at (pc2 := 34) (lv2 := [(0, .ref (aO 0)), (1, .int (0 : Int32))]) (st2 := []) (ws2 := [wX10 (zcT C) aO (aP 0) (aB 0) (aH 0) sO15, wX5 (zcT C) aP sP, wX4 (zcT C) aB sB, wX4 (zcT C) aH sH29]) rfl rfl rfl [1, 0] rfl (bX10_look_34 X hQ  6000 sO15 sB sH29 (0 : Int32) h)
  · replace h := zif_f h c4
    cases h
    exact z_vret X hQ dX10_look_7 [0, 2, 3] rfl (by decide) (by decide)
theorem metX10_look (l : Launch) (D : va_G) (T : Nat → ClassId) (aO : Nat → Nat) (aP : Nat → Nat) (aB : Nat → Nat) (aH : Nat → Nat) {sO : zSt} {sP : zSt} {sB : zSt} {sH : zSt} {out : zSt × zSt × zSt} (hf : fX10_look sO sP sB sH = some out) (sz : Nat) : Met l yX10_look (zws yX10_look cX10_look 4 none) rmX10_look (zPc D T [.ref (aO 0)] [wX10 T aO (aP 0) (aB 0) (aH 0) sO, wX5 T aP sP, wX4 T aB sB, wX4 T aH sH] sz) (zQv D [wX10 T aO (aP 0) (aB 0) (aH 0) out.1, wX4 T aB out.2.1, wX4 T aH out.2.2] (zA [wX10 T aO (aP 0) (aB 0) (aH 0) sO, wX4 T aB sB, wX4 T aH sH] sz)) 0 0 (zA [wX10 T aO (aP 0) (aB 0) (aH 0) sO, wX4 T aB sB, wX4 T aH sH] sz) :=
  zMet (D := D) (T := T) (av := [.ref (aO 0)]) (ws := fun T => [wX10 T aO (aP 0) (aB 0) (aH 0) sO, wX5 T aP sP, wX4 T aB sB, wX4 T aH sH]) (wm := fun T => [wX10 T aO (aP 0) (aB 0) (aH 0) sO, wX4 T aB sB, wX4 T aH sH]) (lv0 := [(0, .ref (aO 0))]) [0, 2, 3] (Qc := fun D T A => zQv D [wX10 T aO (aP 0) (aB 0) (aH 0) out.1, wX4 T aB out.2.1, wX4 T aH out.2.2] A) (by decide +kernel) rfl (Nat.le_of_ble_eq_true rfl) rfl (fun C X hQ => bX10_look_0 X hQ hf) sz
